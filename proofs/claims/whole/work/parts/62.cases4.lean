/-! THE LAW'S CASES: warm, reset, tick, power. -/
theorem RC_mk {n b B : Nat} {cap : Int} {γ μ : ck_S} (h : RC n b B cap γ μ) : RC n b B cap (ck_mk γ μ) (ck_mk γ μ) := h
section CASES
variable {n b B nc nb : Nat} {cap : Int} {σ : ck_S} {xs : Nat → Int32} {L : Nat} {K : ck_S → Int32 → Prop} {x5 : Int32}
theorem lc_515 (h : RC n b B cap σ σ) (v1 : vp_in (x5 + 1) L) (v2 : vp_in (x5 + 2) L) (hK : ∀ σ', RC n b (B + 200) cap σ' σ' → K σ' x5) : sp_law_515 n (32 * b) xs L K σ x5 := by
  unfold sp_law_515 sp_L_warm sp_X6_warm sp_X6_needChip sp_X6_needPower
  have h200 := RC_mono (B' := B + 200) (by omega) h
  obtain ⟨h1, h2, h3, h4, h5, h6, h7, h8, h9, h10⟩ := id h200
  obtain ⟨k1, k2, k3, k4, k5, k6, k7, k8, k9, -⟩ := id h1
  obtain ⟨s1, s2, -⟩ := id h6
  have e : ck_gi σ 0 0 7 = σ.1 10 0 9 := s1
  generalize hu : xs (Int32.toNatClampNeg (x5 + 1)) = u
  generalize hv : xs (Int32.toNatClampNeg (x5 + 2)) = v
  have dz := d8 v
  have rv := fb_rng v
  refine al_1 ⟨v1, al_1 ⟨v2, ?_⟩⟩
  rw [hu, hv]
  generalize hzz : FP.dmul (FP.i2d v) 4593671619917905920 = z at dz ⊢
  have nz := ck_dq_n64 dz
  have dl := d2l_8 dz (by omega)
  have lo : (-100 : Int32).toInt = -100 := by decide
  have hi : (200 : Int32).toInt = 200 := by decide
  have cmp : ∀ (τ : ck_S) (x : Int32), τ.1 10 0 0 = x → RC n b (B + 200) cap τ τ → sp_X7_thrown n (32 * b) τ (fun x_12 σ11 => ((x_12 = x → (K σ11 x5)) ∧ (¬ x_12 = x → (False)))) := fun τ x ht hr => kb_t ht (hK τ hr)
  have mrun : ∀ (τ : ck_S) (post : ck_S → Prop), τ.1 10 0 9 = σ.1 10 0 9 → τ.1 10 0 1 = nI n → (u < 0 ∨ nI n ≤ u → post (ck_ui τ 10 0 0 1)) → (∀ c, c < n → u = nI c → ¬ (-800 ≤ v.toInt ∧ v.toInt ≤ 1600) → post (ck_ui τ 10 0 0 2)) → (∀ c, c < n → u = nI c → -800 ≤ v.toInt → v.toInt ≤ 1600 → σ.1 10 0 9 = 0 → post (ck_uj (ck_ui τ 10 0 0 0) 13 0 c (Int64.ofInt v.toInt))) → (∀ c, c < n → u = nI c → -800 ≤ v.toInt → v.toInt ≤ 1600 → ¬ σ.1 10 0 9 = 0 → post (ck_ui τ 10 0 0 3)) → sp_X7_warm n (32 * b) τ u z post := by
    intro τ post hτ hτ1 p1 p2 p3 p4
    unfold sp_X7_warm sp_X7_warm_13 sp_X7_warm_33 sp_X7_warm_49
    have e9 : ck_gi τ 10 0 9 = σ.1 10 0 9 := hτ
    have e1 : ck_gi τ 10 0 1 = nI n := hτ1
    rw [e9, e1, ck_dcmp dz (ck_dq_up 3 kd_m100) (by decide), ck_dcmp dz (ck_dq_up 3 kd_200) (by decide)]
    simp only [cv_lt, cv_le]
    refine ⟨fun a => al_1 (kn_t (by show ¬ (1 : Int32) = 0; decide) (p1 (Or.inl a))), fun a => ⟨fun c => ?_, fun c => al_1 (kn_t (by show ¬ (1 : Int32) = 0; decide) (p1 (Or.inr (by grind))))⟩⟩
    rcases pk_ix u (n := n) (by omega) with q | q | ⟨j, hj, q⟩
    · exact absurd q a
    · exact absurd c (by grind)
    · refine ⟨fun d => al_1 (kn_t (by show ¬ (2 : Int32) = 0; decide) (p2 j hj q (by omega))), fun d => ⟨fun f => ⟨fun g => al_1 (kn_f rfl ⟨dl.1, ?_⟩), fun g => al_1 (kn_t (by show ¬ (3 : Int32) = 0; decide) (p4 j hj q (by omega) (by omega) g))⟩, fun f => al_1 (kn_t (by show ¬ (2 : Int32) = 0; decide) (p2 j hj q (by omega)))⟩⟩
      rw [q, nI_clamp (by omega), dl.2]
      exact ⟨vp_in_nI (by omega) (by decide), al_1 (p3 j hj q (by omega) (by omega) g)⟩
  have inj : ∀ c, c < n → u = nI c → ¬ (u < 0 ∨ nI n ≤ u) := by
    intro c hc ec q
    rw [ec] at q
    rcases q with q | q
    · exact nI_pos (by omega) q
    · exact nI_ge hc (by omega) q
  refine ⟨nz, c_index (by omega) (fun c hc ec => ?_) (fun q => Or.inl ⟨rfl, al_1 ⟨v1, al_1 ⟨v2, ?_⟩⟩⟩)⟩
  · refine c_amount dz (by rw [lo]; omega) (by rw [hi]; omega) (fun q1 q2 => ?_) (fun q => Or.inr (Or.inl ⟨rfl, al_1 ⟨v1, al_1 ⟨v2, ?_⟩⟩⟩))
    · rw [lo] at q1
      rw [hi] at q2
      rw [e]
      refine ⟨fun d => ?_, fun d => Or.inr (Or.inr ⟨rfl, al_1 ⟨v1, al_1 ⟨v2, ?_⟩⟩⟩)⟩
      · rw [ec, nI_clamp (by omega)]
        refine ⟨vp_in_nI hc (by omega), al_1 (al_1 (al_1 ⟨v1, al_1 ⟨v2, ?_⟩⟩))⟩
        rw [hu, hv, hzz]
        refine ⟨nz, mrun (ck_ud σ 30 c 6 z) _ rfl k9 (fun q => absurd q (inj c hc ec)) (fun _ _ _ q => absurd (by omega) q) (fun c' hc' ec' _ _ _ => cmp _ _ rfl ?_) (fun _ _ _ _ _ q => absurd d q)⟩
        have ecc : c' = c := (nI_eq (by omega) (by omega)).mp (ec'.symm.trans ec)
        subst ecc
        refine ⟨h1, h2, h3, h4, h5, h6, h7, h8, h9, fun j hj => ⟨?_, (h10 j hj).2⟩⟩
        obtain ⟨y, g, r1, r2, r3, r4, r5, r6, r7, r8, r9, r10, r11, r12, r13⟩ := (h10 j hj).1
        have eo : (Int64.ofInt v.toInt).toInt = v.toInt := ofI_L (by omega)
        refine ⟨y, g, r1, r2, r3, r4, r5, r6, r7, r8, r9, r10, ?_⟩
        show ck_dq (if 30 = 30 ∧ j = c' ∧ 6 = 6 then z else σ.2.2 30 j 6) (if 13 = 13 ∧ 0 = 0 ∧ j = c' then Int64.ofInt v.toInt else σ.2.1 13 0 j).toInt 3 ∧ -800 ≤ (if 13 = 13 ∧ 0 = 0 ∧ j = c' then Int64.ofInt v.toInt else σ.2.1 13 0 j).toInt ∧ (if 13 = 13 ∧ 0 = 0 ∧ j = c' then Int64.ofInt v.toInt else σ.2.1 13 0 j).toInt ≤ 1600
        by_cases q : j = c'
        · subst q
          simp only [and_self, if_true]
          rw [eo]
          exact ⟨dz, by omega, by omega⟩
        · simp only [q, and_false, false_and, if_false]
          exact ⟨r11, r12, r13⟩
      · rw [hu, hv, hzz]
        exact ⟨nz, mrun σ _ rfl k9 (fun q => absurd q (inj c hc ec)) (fun _ _ _ q => absurd (by omega) q) (fun _ _ _ _ _ q => absurd q d) (fun _ _ _ _ _ _ => cmp _ _ rfl h200)⟩
    · rw [lo, hi] at q
      rw [hu, hv, hzz]
      exact ⟨nz, mrun σ _ rfl k9 (fun q => absurd q (inj c hc ec)) (fun _ _ _ _ => cmp _ _ rfl h200) (fun _ _ _ p1 p2 => absurd (by omega) q) (fun _ _ _ p1 p2 => absurd (by omega) q)⟩
  · rw [hu, hv, hzz]
    exact ⟨nz, mrun σ _ rfl k9 (fun _ => cmp _ _ rfl h200) (fun c hc ec => absurd q (inj c hc ec)) (fun c hc ec => absurd q (inj c hc ec)) (fun c hc ec => absurd q (inj c hc ec))⟩
theorem and_F {F : Nat} (hF : F < 512) (y : Int32) : ∃ G, G < 512 ∧ nI F &&& y = nI G := by
  refine ⟨F &&& y.toBitVec.toNat, Nat.lt_of_le_of_lt Nat.and_le_left hF, ?_⟩
  apply Int32.toBitVec_inj.1
  apply BitVec.eq_of_toNat_eq
  show (BitVec.ofNat 32 F &&& y.toBitVec).toNat = (BitVec.ofNat 32 (F &&& y.toBitVec.toNat)).toNat
  have hle : F &&& y.toBitVec.toNat ≤ F := Nat.and_le_left
  rw [BitVec.toNat_and, BitVec.toNat_ofNat, BitVec.toNat_ofNat, Nat.mod_eq_of_lt (by omega), Nat.mod_eq_of_lt (by omega)]
theorem lc_763 (h : RC n b B cap σ σ) (v1 : vp_in (x5 + 1) L) (hK : ∀ σ', RC n b (B + 200) cap σ' σ' → K σ' x5) : sp_law_763 n (32 * b) xs L K σ x5 := by
  unfold sp_law_763 sp_L_reset sp_X6_reset sp_X6_needPower
  have h200 := RC_mono (B' := B + 200) (by omega) h
  obtain ⟨h1, h2, h3, h4, h5, h6, ⟨l1, l2, F, l3, l4⟩, h8, h9, h10⟩ := id h200
  obtain ⟨s1, s2, -⟩ := id h6
  obtain ⟨o1, -⟩ := id h8
  have e : ck_gi σ 0 0 7 = σ.1 10 0 9 := s1
  generalize hu : xs (Int32.toNatClampNeg (x5 + 1)) = u
  refine al_1 ⟨v1, ?_⟩
  rw [hu]
  have thr : ∀ (τ : ck_S) (s : Int32), ¬ s = 0 → τ.1 10 0 0 = s → RC n b (B + 200) cap τ τ → ∀ y : Int32, sp_X7_thrown n (32 * b) τ (fun x_10 σ9 => ((x_10 = s → (((¬ s = 0 → (sp_law_823 n (32 * b) xs L K σ9 x5)) ∧ (s = 0 → ((vp_in 0 1) ∧ ∀ y_14, y_14 = (ck_gj σ9 21 0 (Int32.toNatClampNeg 0)) → ((y = 0 → (sp_law_817 n (32 * b) xs L K σ9 x5 0 y_14)) ∧ (¬ y = 0 → (sp_law_817 n (32 * b) xs L K σ9 x5 1 y_14)))))))) ∧ (¬ x_10 = s → (False)))) := fun τ s hs ht hr y => kb_t ht (kn_t hs (hK τ hr))
  refine c_index (N := 9) (by omega) (fun k hk ek => ?_) (fun q => Or.inl ⟨rfl, al_1 ⟨v1, ?_⟩⟩)
  · have p1 : ¬ nI k < 0 := nI_pos (by omega)
    have p2 : nI k ≤ 8 := nI_le (b := 8) (by omega) (by decide)
    rw [e]
    refine ⟨fun d => ?_, fun d => Or.inr ⟨rfl, al_1 ⟨v1, ?_⟩⟩⟩
    · -- over, and the bit
      have eo : ck_gi σ 5 0 0 = σ.1 10 0 28 := o1
      -- the class's answer and the reference's
      have fin : ∀ (x : Int32) (τ : ck_S) (y : Int32) (υ : ck_S), (x = y) → (y = 0 ∨ y = 1) → (∀ w : Int64, (∀ post : Int32 → ck_S → Prop, post y (ck_uj υ 21 0 (Int32.toNatClampNeg 0) w) → sp_X7_reset n (32 * b) (ck_uj τ 21 0 (Int32.toNatClampNeg 0) w) (nI k) post)) → υ.1 10 0 0 = 0 → RC n b (B + 200) cap υ υ → (x = 0 → sp_L_reset_15 n (32 * b) (fun x_4 σ3 => ∀ x_5, x_5 = (x5 + 1) → (vp_in x_5 L) ∧ sp_X7_reset n (32 * b) σ3 (xs (Int32.toNatClampNeg x_5)) (fun x_8 σ7 => sp_X7_thrown n (32 * b) σ7 (fun x_10 σ9 => ((x_10 = x_4 → (((¬ x_4 = 0 → (sp_law_823 n (32 * b) xs L K σ9 x5)) ∧ (x_4 = 0 → ((vp_in 0 1) ∧ ∀ y_14, y_14 = (ck_gj σ9 21 0 (Int32.toNatClampNeg 0)) → ((x_8 = 0 → (sp_law_817 n (32 * b) xs L K σ9 x5 0 y_14)) ∧ (¬ x_8 = 0 → (sp_law_817 n (32 * b) xs L K σ9 x5 1 y_14)))))))) ∧ (¬ x_10 = x_4 → (False)))))) τ 0 0) ∧ (¬ x = 0 → sp_L_reset_15 n (32 * b) (fun x_4 σ3 => ∀ x_5, x_5 = (x5 + 1) → (vp_in x_5 L) ∧ sp_X7_reset n (32 * b) σ3 (xs (Int32.toNatClampNeg x_5)) (fun x_8 σ7 => sp_X7_thrown n (32 * b) σ7 (fun x_10 σ9 => ((x_10 = x_4 → (((¬ x_4 = 0 → (sp_law_823 n (32 * b) xs L K σ9 x5)) ∧ (x_4 = 0 → ((vp_in 0 1) ∧ ∀ y_14, y_14 = (ck_gj σ9 21 0 (Int32.toNatClampNeg 0)) → ((x_8 = 0 → (sp_law_817 n (32 * b) xs L K σ9 x5 0 y_14)) ∧ (¬ x_8 = 0 → (sp_law_817 n (32 * b) xs L K σ9 x5 1 y_14)))))))) ∧ (¬ x_10 = x_4 → (False)))))) τ 1 0) := by
        intro x τ y υ hxy hy hrun h0 hRC
        subst hxy
        unfold sp_L_reset_15 sp_law_817 sp_law_823
        simp only [lg_cmp_eq]
        refine ⟨fun a => ⟨v01, al_1 (al_1 ⟨v1, ?_⟩)⟩, fun a => ⟨v01, al_1 (al_1 ⟨v1, ?_⟩)⟩⟩
        · rw [hu, ek]
          refine hrun _ _ ?_
          exact kb_t h0 (kn_f trivial ⟨v01, al_1 (kb_t a (kb_t rfl (hK _ hRC)))⟩)
        · rw [hu, ek]
          refine hrun _ _ ?_
          exact kb_t h0 (kn_f trivial ⟨v01, al_1 (kb_f a (kb_t rfl (hK _ hRC)))⟩)
      -- the class's dismiss
      have dis : ∀ (over : Bool) (s0 : Int32), s0 = b2 over → ∀ post : Int32 → ck_S → Prop, ((over = true ∧ ¬ (σ.1 10 0 26 >>> (nI k &&& 31)) &&& 1 = 0) → post 1 (ck_ui σ 3 0 2 (σ.1 10 0 26 &&& (((1 : Int32) <<< (nI k &&& 31)) ^^^ (-1))))) → (¬ (over = true ∧ ¬ (σ.1 10 0 26 >>> (nI k &&& 31)) &&& 1 = 0) → post 0 σ) → sp_X0_dismiss_24 n (32 * b) post σ (nI k) s0 := by
        intro over s0 hs post p1 p0
        subst hs
        unfold sp_X0_dismiss_24 sp_X0_isLatched
        have el : ck_gi σ 3 0 2 = σ.1 10 0 26 := l2
        rw [b2_0, sh_1 k (by omega), el]
        refine ⟨fun a => ⟨b2_b false, p0 (fun q => ?_)⟩, fun a => ⟨fun c => ⟨b2_b false, kn_f rfl ⟨b2_b false, p0 (fun q => q.2 c)⟩⟩, fun c => ⟨b2_b true, kn_t (by decide) (al_1 ⟨b2_b true, ?_⟩)⟩⟩⟩
        · rw [a] at q
          exact absurd q.1 (by decide)
        · rw [Bool.not_eq_false] at a
          rw [el]
          exact p1 ⟨a, c⟩
      have dis2 : ∀ (op : Int32), op = b2 (decide (σ.1 10 0 28 = 0)) → ∀ post : Int32 → ck_S → Prop, (((if k < 7 then decide (σ.1 19 0 k = 0) else decide (σ.1 10 0 28 = 0)) = true ∧ ¬ (σ.1 10 0 26 >>> (nI k &&& 31)) &&& 1 = 0) → post 1 (ck_ui σ 3 0 2 (σ.1 10 0 26 &&& (((1 : Int32) <<< (nI k &&& 31)) ^^^ (-1))))) → (¬ ((if k < 7 then decide (σ.1 19 0 k = 0) else decide (σ.1 10 0 28 = 0)) = true ∧ ¬ (σ.1 10 0 26 >>> (nI k &&& 31)) &&& 1 = 0) → post 0 σ) → sp_X0_dismiss n (32 * b) σ (nI k) op post := by
        intro op hop post p1 p0
        unfold sp_X0_dismiss
        by_cases c7 : k < 7
        · rw [if_pos c7] at p1 p0
          have ec : ck_gi σ 4 0 k = σ.1 19 0 k := (l1 k c7).1
          refine kb_f (nI_ge (b := 7) c7 (by decide)) ⟨vp_in_nI c7 (by decide), ?_⟩
          rw [nI_clamp (by omega), ec]
          refine ⟨fun a => dis _ _ ?_ post p1 p0, fun a => dis _ _ ?_ post p1 p0⟩
          · rw [decide_eq_false a]
            rfl
          · rw [decide_eq_true a]
            rfl
        · rw [if_neg c7] at p1 p0
          exact kb_t (nI_le (a := 7) (by omega) (by omega)) (dis _ _ hop post p1 p0)
      -- the reference's reset
      have res : ∀ (over : Bool), over = (if k < 7 then decide (σ.1 19 0 k = 0) else decide (σ.1 10 0 28 = 0)) → ∀ (τ : ck_S) (post : Int32 → ck_S → Prop), (∀ f, 10 ≤ f → f ≤ 20 → τ.1 f = σ.1 f) → ((over = true ∧ ¬ (σ.1 10 0 26 >>> (nI k &&& 31)) &&& 1 = 0) → post 1 (ck_ui (ck_ui τ 10 0 0 0) 10 0 26 (σ.1 10 0 26 &&& (((1 : Int32) <<< (nI k &&& 31)) ^^^ (-1))))) → (¬ (over = true ∧ ¬ (σ.1 10 0 26 >>> (nI k &&& 31)) &&& 1 = 0) → post 0 (ck_ui τ 10 0 0 0)) → sp_X7_reset n (32 * b) τ (nI k) post := by
        intro over hov τ post hτ p1 p0
        unfold sp_X7_reset sp_X7_reset_27 sp_X7_reset_85
        have e9 : ck_gi τ 10 0 9 = σ.1 10 0 9 := by
          show τ.1 10 0 9 = _
          rw [hτ 10 (by decide) (by decide)]
        have e26 : ck_gi (ck_ui τ 10 0 0 0) 10 0 26 = σ.1 10 0 26 := by
          show τ.1 10 0 26 = _
          rw [hτ 10 (by decide) (by decide)]
        have e28 : ck_gi (ck_ui τ 10 0 0 0) 10 0 28 = σ.1 10 0 28 := by
          show τ.1 10 0 28 = _
          rw [hτ 10 (by decide) (by decide)]
        have e19 : ck_gi (ck_ui τ 10 0 0 0) 19 0 k = σ.1 19 0 k := by
          show τ.1 19 0 k = _
          rw [hτ 19 (by decide) (by decide)]
        have self : ck_ui (ck_ui τ 10 0 0 0) 10 0 26 (σ.1 10 0 26) = ck_ui τ 10 0 0 0 := by
          rw [← e26]
          exact ck_ui_self _ 10 0 26
        rw [e9]
        refine kb_f (nI_pos (by omega)) (kb_t p2 (kb_t d (al_1 (kb_f (by show ¬ (0 : Int32) < 0; decide) ?_))))
        rw [e26, nI_clamp (by omega), e19, e28, self]
        refine ⟨fun c => ?_, fun c => ⟨b2_b false, p0 (fun q => q.2 c)⟩⟩
        have g0 : over = false → ((0 : Int32) = 0 → (∀ σ2, σ2 = ck_ui τ 10 0 0 0 → (ck_b 0 ∧ post 0 σ2))) ∧ (¬ (0 : Int32) = 0 → (∀ σ3, σ3 = ck_ui (ck_ui τ 10 0 0 0) 10 0 26 (σ.1 10 0 26 &&& (((1 : Int32) <<< (nI k &&& 31)) ^^^ (-1))) → (ck_b 0 ∧ post 0 σ3))) := fun ho => kb_t rfl (al_1 ⟨b2_b false, p0 (fun q => by rw [ho] at q; exact absurd q.1 (by decide))⟩)
        have g1 : over = true → ((1 : Int32) = 0 → (∀ σ2, σ2 = ck_ui τ 10 0 0 0 → (ck_b 1 ∧ post 1 σ2))) ∧ (¬ (1 : Int32) = 0 → (∀ σ3, σ3 = ck_ui (ck_ui τ 10 0 0 0) 10 0 26 (σ.1 10 0 26 &&& (((1 : Int32) <<< (nI k &&& 31)) ^^^ (-1))) → (ck_b 1 ∧ post 1 σ3))) := fun ho => kb_f (by decide) (al_1 ⟨b2_b true, p1 ⟨ho, c⟩⟩)
        by_cases c7 : k < 7
        · rw [if_pos c7] at hov
          refine kb_t (nI_le (b := 6) (by omega) (by decide)) ⟨vp_in_nI c7 (by decide), fun a => g0 ?_, fun a => g1 ?_⟩
          · rw [hov, decide_eq_false a]
          · rw [hov, decide_eq_true a]
        · rw [if_neg c7] at hov
          refine kb_f (nI_ge (a := 6) (by omega) (by omega)) ⟨fun a => g0 ?_, fun a => g1 ?_⟩
          · rw [hov, decide_eq_false a]
          · rw [hov, decide_eq_true a]
      generalize hov : (if k < 7 then decide (σ.1 19 0 k = 0) else decide (σ.1 10 0 28 = 0)) = ov at dis2 res
      have res := res ov rfl
      dsimp only
      rw [eo]
      have pgo : ov = true ∧ ¬ (σ.1 10 0 26 >>> (nI k &&& 31)) &&& 1 = 0 → RC n b (B + 200) cap (ck_ui (ck_ui (ck_ui σ 3 0 2 (σ.1 10 0 26 &&& (((1 : Int32) <<< (nI k &&& 31)) ^^^ (-1)))) 10 0 0 0) 10 0 26 (σ.1 10 0 26 &&& (((1 : Int32) <<< (nI k &&& 31)) ^^^ (-1)))) (ck_ui (ck_ui (ck_ui σ 3 0 2 (σ.1 10 0 26 &&& (((1 : Int32) <<< (nI k &&& 31)) ^^^ (-1)))) 10 0 0 0) 10 0 26 (σ.1 10 0 26 &&& (((1 : Int32) <<< (nI k &&& 31)) ^^^ (-1)))) := by
        intro _
        refine ⟨h1, h2, h3, h4, h5, h6, ⟨l1, rfl, ?_⟩, h8, h9, h10⟩
        show ∃ G, G < 512 ∧ σ.1 10 0 26 &&& (((1 : Int32) <<< (nI k &&& 31)) ^^^ (-1)) = nI G
        rw [l4]
        exact and_F l3 _
      have both : ∀ op, op = b2 (decide (σ.1 10 0 28 = 0)) → sp_X0_dismiss n (32 * b) σ (nI k) op (fun x_7 σ6 => (ck_b x_7 ∧ ((x_7 = 0 → sp_L_reset_15 n (32 * b) (fun x_4 σ3 => ∀ x_5, x_5 = (x5 + 1) → (vp_in x_5 L) ∧ sp_X7_reset n (32 * b) σ3 (xs (Int32.toNatClampNeg x_5)) (fun x_8 σ7 => sp_X7_thrown n (32 * b) σ7 (fun x_10 σ9 => ((x_10 = x_4 → (((¬ x_4 = 0 → (sp_law_823 n (32 * b) xs L K σ9 x5)) ∧ (x_4 = 0 → ((vp_in 0 1) ∧ ∀ y_14, y_14 = (ck_gj σ9 21 0 (Int32.toNatClampNeg 0)) → ((x_8 = 0 → (sp_law_817 n (32 * b) xs L K σ9 x5 0 y_14)) ∧ (¬ x_8 = 0 → (sp_law_817 n (32 * b) xs L K σ9 x5 1 y_14)))))))) ∧ (¬ x_10 = x_4 → (False)))))) σ6 0 0) ∧ (¬ x_7 = 0 → sp_L_reset_15 n (32 * b) (fun x_4 σ3 => ∀ x_5, x_5 = (x5 + 1) → (vp_in x_5 L) ∧ sp_X7_reset n (32 * b) σ3 (xs (Int32.toNatClampNeg x_5)) (fun x_8 σ7 => sp_X7_thrown n (32 * b) σ7 (fun x_10 σ9 => ((x_10 = x_4 → (((¬ x_4 = 0 → (sp_law_823 n (32 * b) xs L K σ9 x5)) ∧ (x_4 = 0 → ((vp_in 0 1) ∧ ∀ y_14, y_14 = (ck_gj σ9 21 0 (Int32.toNatClampNeg 0)) → ((x_8 = 0 → (sp_law_817 n (32 * b) xs L K σ9 x5 0 y_14)) ∧ (¬ x_8 = 0 → (sp_law_817 n (32 * b) xs L K σ9 x5 1 y_14)))))))) ∧ (¬ x_10 = x_4 → (False)))))) σ6 1 0)))) := by
        intro op hop
        refine dis2 op hop _ (fun go => ⟨b2_b true, fin 1 _ 1 (ck_ui (ck_ui (ck_ui σ 3 0 2 (σ.1 10 0 26 &&& (((1 : Int32) <<< (nI k &&& 31)) ^^^ (-1)))) 10 0 0 0) 10 0 26 (σ.1 10 0 26 &&& (((1 : Int32) <<< (nI k &&& 31)) ^^^ (-1)))) rfl (Or.inr rfl) (fun w post hp => res _ post (fun f _ _ => ?_) (fun _ => hp) (fun q => absurd go q)) rfl (pgo go)⟩) (fun no => ⟨b2_b false, fin 0 σ 0 (ck_ui σ 10 0 0 0) rfl (Or.inl rfl) (fun w post hp => res _ post (fun f _ _ => rfl) (fun q => absurd q no) (fun _ => hp)) rfl h200⟩)
        have hf : f ≠ 3 := by omega
        funext i j
        simp [ck_ui, ck_uj, ck_up, hf]
      rw [ek]
      refine ⟨fun a => both 0 ?_, fun a => both 1 ?_⟩
      · rw [decide_eq_false a]
        rfl
      · rw [decide_eq_true a]
        rfl
    · rw [hu, ek]
      unfold sp_X7_reset sp_X7_reset_27
      exact kb_f p1 (kb_t p2 (kb_f d (al_1 (kb_t (by show (0 : Int32) < 2; decide) ⟨b2_b false, thr (ck_ui σ 10 0 0 2) 2 (by decide) rfl h200 0⟩))))
  · rw [hu]
    unfold sp_X7_reset sp_X7_reset_11 sp_X7_reset_27
    have q2 : u < 0 ∨ 9 ≤ u := q
    exact ⟨fun a => al_1 (kb_t (by show (0 : Int32) < 1; decide) ⟨b2_b false, thr (ck_ui σ 10 0 0 1) 1 (by decide) rfl h200 0⟩), fun a => kb_f (by grind) (al_1 (kb_t (by show (0 : Int32) < 1; decide) ⟨b2_b false, thr (ck_ui σ 10 0 0 1) 1 (by decide) rfl h200 0⟩))⟩
end CASES
