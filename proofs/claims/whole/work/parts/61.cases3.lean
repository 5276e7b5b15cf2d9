/-! THE LAW'S CASES: what takes an index. -/
section CASES
variable {n b B nc nb : Nat} {cap : Int} {σ : ck_S} {xs : Nat → Int32} {L : Nat} {K : ck_S → Int32 → Prop} {x5 : Int32}
theorem m_noChip {x : Int32} (hn : n ≤ 4) (k9 : σ.1 10 0 1 = nI n) {post : Int32 → ck_S → Prop} (hout : x < 0 ∨ nI n ≤ x → post 1 (ck_ui σ 10 0 0 1)) (h0 : ∀ j, j < n → x = nI j → σ.1 10 0 9 = 0 → post 0 (ck_ui σ 10 0 0 0)) (h2 : ∀ j, j < n → x = nI j → ¬ σ.1 10 0 9 = 0 → post 1 (ck_ui σ 10 0 0 2)) : sp_X7_noChip nc nb σ x post := by
  unfold sp_X7_noChip sp_X7_noChip_13 sp_X7_noChip_29
  have e1 : ck_gi σ 10 0 1 = nI n := k9
  rw [e1]
  have fin : (x < 0 ∨ nI n ≤ x) → ∀ σ1, σ1 = ck_ui σ 10 0 0 1 → (((ck_gi σ1 10 0 0) ≤ 0 → ((ck_b 0 ∧ post 0 σ1))) ∧ (¬ (ck_gi σ1 10 0 0) ≤ 0 → ((ck_b 1 ∧ post 1 σ1)))) := fun q => al_1 (kb_f (by show ¬ (1 : Int32) ≤ 0; decide) ⟨b2_b true, hout q⟩)
  refine ⟨fun a => fin (Or.inl a), fun a => ⟨fun c => ?_, fun c => fin (Or.inr (by grind))⟩⟩
  rcases pk_ix x (n := n) (by omega) with q | q | ⟨j, hj, q⟩
  · exact absurd q a
  · exact absurd c (by grind)
  · exact ⟨fun d => al_1 (kb_t (by show (0 : Int32) ≤ 0; decide) ⟨b2_b false, h0 j hj q d⟩), fun d => al_1 (kb_f (by show ¬ (2 : Int32) ≤ 0; decide) ⟨b2_b true, h2 j hj q d⟩)⟩
theorem lc_1274 (h : RC n b B cap σ σ) (v1 : vp_in (x5 + 1) L) (hK : ∀ σ', RC n b (B + 200) cap σ' σ' → K σ' x5) : sp_law_1274 n (32 * b) xs L K σ x5 := by
  unfold sp_law_1274 sp_L_bleeding sp_X6_bleeding sp_X6_needChip sp_X6_needPower sp_law_1327
  have h200 := RC_mono (B' := B + 200) (by omega) h
  obtain ⟨k1, k2, k3, k4, k5, k6, k7, k8, k9, -⟩ := id h.1
  obtain ⟨s1, s2, -⟩ := id h.2.2.2.2.2.1
  have h10 := h.2.2.2.2.2.2.2.2.2
  have e : ck_gi σ 0 0 7 = σ.1 10 0 9 := s1
  generalize hv : xs (Int32.toNatClampNeg (x5 + 1)) = v
  refine al_1 ⟨v1, ?_⟩
  rw [hv]
  refine c_index (by omega) (fun j hj ej => ?_) (fun q => Or.inl ⟨rfl, al_1 ⟨v1, ?_⟩⟩)
  · dsimp only
    rw [e, ej, nI_clamp (by omega)]
    refine ⟨fun d => ⟨vp_in_nI hj (by omega), al_1 ⟨v01, al_1 (al_1 ⟨v1, ?_⟩)⟩⟩, fun d => Or.inr ⟨rfl, al_1 ⟨v1, ?_⟩⟩⟩
    · rw [hv, ej]
      unfold sp_X7_bleeding sp_X7_thrown
      refine m_noChip (σ := ck_uj σ 21 0 (Int32.toNatClampNeg 0) (ck_gi σ 30 j 7).toInt64) k2 k9 (fun q => ?_) (fun j' hj' ej' d' => kb_t rfl ⟨vp_in_nI (by omega) (by decide), kb_t rfl (kn_f rfl ⟨v01, kb_t ?_ (hK _ h200)⟩)⟩) (fun _ _ _ d' => absurd d d')
      · exfalso
        rcases q with q | q
        · exact nI_pos (by omega) q
        · exact nI_ge hj (by omega) q
      · rw [lg_cmp_eq, nI_clamp (by omega)]
        exact congrArg Int32.toInt64 (h10 j hj).2
    · rw [hv, ej]
      unfold sp_X7_bleeding sp_X7_thrown
      refine m_noChip k2 k9 (fun q => ?_) (fun _ _ _ d' => absurd d' d) (fun _ _ _ d' => kb_f (by decide) (kb_t rfl (kn_t (by decide) (hK _ h200))))
      exfalso
      rcases q with q | q
      · exact nI_pos (by omega) q
      · exact nI_ge hj (by omega) q
  · rw [hv]
    unfold sp_X7_bleeding sp_X7_thrown
    refine m_noChip k2 k9 (fun q => kb_f (by decide) (kb_t rfl (kn_t (by decide) (hK _ h200)))) (fun j hj ej => ?_) (fun j hj ej => ?_)
    all_goals
      exfalso
      rw [ej] at q
      rcases q with q | q
      · exact nI_pos (by omega) q
      · exact nI_ge hj (by omega) q
theorem lc_1374 (h : RC n b B cap σ σ) (v1 : vp_in (x5 + 1) L) (hK : ∀ σ', RC n b (B + 200) cap σ' σ' → K σ' x5) : sp_law_1374 n (32 * b) xs L K σ x5 := by
  unfold sp_law_1374 sp_L_count sp_X6_count sp_X6_needPower sp_law_1427
  have h200 := RC_mono (B' := B + 200) (by omega) h
  obtain ⟨s1, s2, -⟩ := id h.2.2.2.2.2.1
  have l1 := h.2.2.2.2.2.2.1.1
  have e : ck_gi σ 0 0 7 = σ.1 10 0 9 := s1
  generalize hv : xs (Int32.toNatClampNeg (x5 + 1)) = v
  refine al_1 ⟨v1, ?_⟩
  rw [hv]
  refine c_index (N := 7) (by omega) (fun j hj ej => ?_) (fun q => Or.inl ⟨rfl, al_1 ⟨v1, ?_⟩⟩)
  · rw [e, ej, nI_clamp (by omega)]
    have p1 : ¬ nI j < 0 := nI_pos (by omega)
    have p2 : nI j ≤ 6 := nI_le (b := 6) (by omega) (by decide)
    refine ⟨fun d => ⟨vp_in_nI hj (by omega), v01, al_1 (al_1 ⟨v1, ?_⟩)⟩, fun d => Or.inr ⟨rfl, al_1 ⟨v1, ?_⟩⟩⟩
    · rw [hv, ej]
      unfold sp_X7_count sp_X7_count_27 sp_X7_thrown
      refine kb_f p1 (kb_t p2 (kb_t d (al_1 (kb_t (by show (0 : Int32) ≤ 0; decide) ⟨vp_in_nI hj (by omega), kb_t rfl (kn_f rfl ⟨v01, kb_t ?_ (hK _ h200)⟩)⟩))))
      rw [lg_cmp_eq, nI_clamp (by omega)]
      exact congrArg Int32.toInt64 (l1 j hj).1
    · rw [hv, ej]
      unfold sp_X7_count sp_X7_count_27 sp_X7_thrown
      exact kb_f p1 (kb_t p2 (kb_f d (al_1 (kb_f (by show ¬ (2 : Int32) ≤ 0; decide) (kb_t rfl (kn_t (by decide) (hK _ h200)))))))
  · rw [hv]
    unfold sp_X7_count sp_X7_count_11 sp_X7_count_27 sp_X7_thrown
    have q2 : v < 0 ∨ 7 ≤ v := q
    exact ⟨fun a => al_1 (kb_f (by show ¬ (1 : Int32) ≤ 0; decide) (kb_t rfl (kn_t (by decide) (hK _ h200)))), fun a => kb_f (by grind) (al_1 (kb_f (by show ¬ (1 : Int32) ≤ 0; decide) (kb_t rfl (kn_t (by decide) (hK _ h200)))))⟩
theorem by_small : ∀ v, v < 256 → nI v &&& 255 = nI v := by decide +kernel
theorem lc_1430 (h : RC n b B cap σ σ) (v1 : vp_in (x5 + 1) L) (hK : ∀ σ', RC n b (B + 200) cap σ' σ' → K σ' x5) : sp_law_1430 n (32 * b) xs L K σ x5 := by
  unfold sp_law_1430 sp_L_journal sp_X6_journal sp_law_1483
  have h200 := RC_mono (B' := B + 200) (by omega) h
  obtain ⟨k1, k2, k3, k4, k5, k6, k7, k8, k9, k10, -⟩ := id h.1
  obtain ⟨i1, i2, i5, i6, i8, i9, i10⟩ := id h.2.2.2.2.2.2.2.2.1
  generalize hv : xs (Int32.toNatClampNeg (x5 + 1)) = v
  have e32 : ∀ τ : ck_S, τ.1 10 0 2 = σ.1 10 0 2 → (32 : Int32) * ck_gi τ 10 0 2 = nI (32 * b) := by
    intro τ hτ
    show (32 : Int32) * τ.1 10 0 2 = _
    rw [hτ, k10]
    exact pk_mul 32 b
  refine al_1 ⟨v1, ?_⟩
  rw [hv]
  refine c_index (by omega) (fun j hj ej => ?_) (fun q => ⟨rfl, al_1 ⟨v1, ?_⟩⟩)
  · rw [ej, nI_clamp (by omega)]
    refine ⟨vp_in_nI hj (by omega), v01, al_1 (al_1 ⟨v1, ?_⟩)⟩
    rw [hv, ej]
    unfold sp_X7_journal sp_X7_journal_21 sp_X7_thrown
    rw [e32 (ck_uj σ 21 0 (Int32.toNatClampNeg 0) (ck_gi σ 7 0 j &&& 255).toInt64) rfl]
    refine kb_f (nI_pos (by omega)) (kb_t (nI_lt hj (by omega)) (al_1 (kb_t (by show (0 : Int32) ≤ 0; decide) ⟨vp_in_nI (by omega) (by decide), kb_t rfl (kn_f rfl ⟨v01, kb_t ?_ (hK _ h200)⟩)⟩)))
    rw [lg_cmp_eq, nI_clamp (by omega)]
    show (σ.1 7 0 j &&& 255).toInt64 = (σ.1 11 0 j).toInt64
    obtain ⟨w, hw, ew⟩ := i8 j (by omega)
    rw [i9 j hj, sg_255, ew, by_small w hw]
  · rw [hv]
    unfold sp_X7_journal sp_X7_journal_16 sp_X7_journal_21 sp_X7_thrown
    rw [e32 _ rfl]
    exact ⟨fun a => al_1 (kb_f (by show ¬ (1 : Int32) ≤ 0; decide) (kb_t rfl (kn_t (by decide) (hK _ h200)))), fun a => kb_f (by grind) (al_1 (kb_f (by show ¬ (1 : Int32) ≤ 0; decide) (kb_t rfl (kn_t (by decide) (hK _ h200)))))⟩
theorem sg_xor (x y : Int32) : sg (sg (sg x ^^^ y)) = sg (x ^^^ y) := by
  rw [sg_sg]
  apply sg_lo
  apply b_ext
  intro i hi
  rw [b_and, b_and, b_xor, b_xor, b_255]
  by_cases q : i < 8
  · rw [b_8 x hi, if_pos q]
  · simp [q]
theorem lc_1486 (h : RC n b B cap σ σ) (v1 : vp_in (x5 + 1) L) (v2 : vp_in (x5 + 2) L) (hK : ∀ σ', RC n b (B + 200) cap σ' σ' → K σ' x5) : sp_law_1486 n (32 * b) xs L K σ x5 := by
  unfold sp_law_1486 sp_L_spoil sp_X6_spoil
  have h200 := RC_mono (B' := B + 200) (by omega) h
  obtain ⟨h1, h2, h3, h4, h5, h6, h7, h8, ⟨i1, i2, i5, i6, i8, i9, i10⟩, h10⟩ := id h200
  obtain ⟨k1, k2, k3, k4, k5, k6, k7, k8, k9, k10, -⟩ := id h1
  generalize hv : xs (Int32.toNatClampNeg (x5 + 1)) = v
  generalize hw : xs (Int32.toNatClampNeg (x5 + 2)) = w
  have e32 : ∀ τ : ck_S, τ.1 10 0 2 = σ.1 10 0 2 → (32 : Int32) * ck_gi τ 10 0 2 = nI (32 * b) := by
    intro τ hτ
    show (32 : Int32) * τ.1 10 0 2 = _
    rw [hτ, k10]
    exact pk_mul 32 b
  have cmp : ∀ (τ : ck_S) (x : Int32), τ.1 10 0 0 = x → RC n b (B + 200) cap τ τ → sp_X7_thrown n (32 * b) τ (fun x_12 σ11 => ((x_12 = x → (K σ11 x5)) ∧ (¬ x_12 = x → (False)))) := fun τ x ht hr => kb_t ht (hK τ hr)
  refine al_1 ⟨v1, al_1 ⟨v2, ?_⟩⟩
  rw [hv, hw]
  refine c_index (by omega) (fun j hj ej => ?_) (fun q => Or.inl ⟨rfl, al_1 ⟨v1, al_1 ⟨v2, ?_⟩⟩⟩)
  · have p1 : ¬ nI j < 0 := nI_pos (by omega)
    have p2 : nI j < nI (32 * b) := nI_lt hj (by omega)
    refine c_wholeN (fun a c => ?_) (fun q => Or.inr ⟨rfl, al_1 ⟨v1, al_1 ⟨v2, ?_⟩⟩⟩)
    · rw [ej, nI_clamp (by omega)]
      refine ⟨vp_in_nI hj (by omega), vp_in_nI hj (by omega), al_1 (al_1 ⟨v1, al_1 ⟨v2, ?_⟩⟩)⟩
      rw [hv, hw, ej]
      unfold sp_X7_spoil sp_X7_spoil_36
      rw [e32 (ck_ui σ 7 0 j (vp_nar .byte (ck_gi σ 7 0 j ^^^ w).toInt8.toInt32)) rfl, nI_clamp (by omega)]
      refine kb_f p1 (kb_t p2 (kb_f a (kb_t c (al_1 (kn_f rfl ⟨vp_in_nI (by omega) (by decide), vp_in_nI (by omega) (by decide), al_1 (cmp _ _ rfl ?_)⟩)))))
      obtain ⟨y, hy, ey⟩ := nI_of2 (x := w) (M := 255) (n := 255) (by decide) a c
      refine ⟨h1, h2, h3, h4, h5, h6, h7, h8, ⟨i1, i2, i5, i6, ?_, ?_, i10⟩, h10⟩
      · intro k hk
        show ∃ v, v < 256 ∧ (if 11 = 11 ∧ 0 = 0 ∧ k = j then σ.1 11 0 j ^^^ w else σ.1 11 0 k) = nI v
        by_cases q : k = j
        · subst q
          rw [if_pos ⟨rfl, rfl, rfl⟩]
          obtain ⟨u, hu, eu⟩ := i8 k hk
          refine ⟨u ^^^ y, Nat.xor_lt_two_pow (n := 8) hu (by omega), ?_⟩
          rw [eu, ey]
          apply Int32.toBitVec_inj.1
          show BitVec.ofNat 32 u ^^^ BitVec.ofNat 32 y = BitVec.ofNat 32 (u ^^^ y)
          apply BitVec.eq_of_getLsbD_eq
          intro i hi
          simp [hi]
        · rw [if_neg (fun r => q r.2.2)]
          exact i8 k hk
      · intro k hk
        show (if 7 = 7 ∧ 0 = 0 ∧ k = j then vp_nar .byte (sg (σ.1 7 0 j ^^^ w)) else σ.1 7 0 k) = sg (if 11 = 11 ∧ 0 = 0 ∧ k = j then σ.1 11 0 j ^^^ w else σ.1 11 0 k)
        by_cases q : k = j
        · subst q
          rw [if_pos ⟨rfl, rfl, rfl⟩, if_pos ⟨rfl, rfl, rfl⟩, sg_nar, i9 k hk, sg_xor]
        · rw [if_neg (fun r => q r.2.2), if_neg (fun r => q r.2.2)]
          exact i9 k hk
    · rw [hv, hw, ej]
      unfold sp_X7_spoil sp_X7_spoil_31 sp_X7_spoil_36
      rw [e32 _ rfl]
      refine kb_f p1 (kb_t p2 ⟨fun a => al_1 (kn_t (by show ¬ (2 : Int32) = 0; decide) (cmp _ _ rfl h200)), fun a => kb_f (fun c => ?_) (al_1 (kn_t (by show ¬ (2 : Int32) = 0; decide) (cmp _ _ rfl h200)))⟩)
      rcases q with q | q
      · exact a q
      · exact q c
  · rw [hv, hw]
    unfold sp_X7_spoil sp_X7_spoil_16 sp_X7_spoil_36
    rw [e32 _ rfl]
    exact ⟨fun a => al_1 (kn_t (by show ¬ (1 : Int32) = 0; decide) (cmp _ _ rfl h200)), fun a => kb_f (by grind) (al_1 (kn_t (by show ¬ (1 : Int32) = 0; decide) (cmp _ _ rfl h200)))⟩
theorem lc_1199 (h : RC n b B cap σ σ) (hB : B ≤ 1000000) (v1 : vp_in (x5 + 1) L) (v2 : vp_in (x5 + 2) L) (hK : ∀ σ', RC n b (B + 200) cap σ' σ' → K σ' x5) : sp_law_1199 n (32 * b) xs L K σ x5 := by
  unfold sp_law_1199 sp_L_valid sp_X6_valid sp_X6_needChip sp_X6_needPower
  have h200 := RC_mono (B' := B + 200) (by omega) h
  obtain ⟨k1, k2, k3, k4, k5, k6, k7, k8, k9, -⟩ := id h.1
  obtain ⟨s1, s2, -⟩ := id h.2.2.2.2.2.1
  have h10 := h.2.2.2.2.2.2.2.2.2
  have e : ck_gi σ 0 0 7 = σ.1 10 0 9 := s1
  generalize hv : xs (Int32.toNatClampNeg (x5 + 1)) = v
  generalize hw : xs (Int32.toNatClampNeg (x5 + 2)) = w
  have e1 : ∀ τ : ck_S, τ.1 10 0 1 = σ.1 10 0 1 → ck_gi τ 10 0 1 = nI n := fun τ q => q.trans k9
  have thr : ∀ (τ : ck_S) (s : Int32), ¬ s = 0 → τ.1 10 0 0 = s → RC n b (B + 200) cap τ τ → ∀ y : Int32, sp_X7_thrown n (32 * b) τ (fun x_14 σ13 => ((x_14 = s → (((¬ s = 0 → (sp_law_1271 n (32 * b) xs L K σ13 x5)) ∧ (s = 0 → ((vp_in 0 1) ∧ ∀ y_18, y_18 = (ck_gj σ13 21 0 (Int32.toNatClampNeg 0)) → ((y = 0 → (sp_law_1265 n (32 * b) xs L K σ13 x5 0 y_18)) ∧ (¬ y = 0 → (sp_law_1265 n (32 * b) xs L K σ13 x5 1 y_18)))))))) ∧ (¬ x_14 = s → (False)))) := fun τ s hs ht hr y => kb_t ht (kn_t hs (hK τ hr))
  refine al_1 ⟨v1, al_1 ⟨v2, ?_⟩⟩
  rw [hv, hw]
  refine c_index (by omega) (fun c hc ec => ?_) (fun q => Or.inl ⟨rfl, al_1 ⟨v1, al_1 ⟨v2, ?_⟩⟩⟩)
  · have pc : ¬ nI c < 0 := nI_pos (by omega)
    have pc2 : ¬ nI n ≤ nI c := nI_ge hc (by omega)
    refine c_index (N := 6) (by omega) (fun k hk ek => ?_) (fun q => Or.inl ⟨rfl, al_1 ⟨v1, al_1 ⟨v2, ?_⟩⟩⟩)
    · have pk : ¬ nI k < 0 := nI_pos (by omega)
      have pk2 : nI k < 6 := nI_lt (b := 6) hk (by decide)
      rw [e, ec, ek, nI_clamp (by omega)]
      refine ⟨fun d => ⟨vp_in_nI hc (by omega), al_1 (c_isValid hB (h10 c hc).1 hk ⟨b2_b _, ?_⟩)⟩, fun d => Or.inr ⟨rfl, al_1 ⟨v1, al_1 ⟨v2, ?_⟩⟩⟩⟩
      · have fin : ∀ (x : Int64), x = (if mV (rp σ) c k = true then 1 else 0) → (vp_in 0 1) ∧ ∀ σ2, σ2 = ck_uj σ 21 0 (Int32.toNatClampNeg 0) x → ∀ x_7, x_7 = (x5 + 1) → (vp_in x_7 L) ∧ ∀ x_9, x_9 = (x5 + 2) → (vp_in x_9 L) ∧ sp_X7_valid n (32 * b) σ2 (xs (Int32.toNatClampNeg x_7)) (xs (Int32.toNatClampNeg x_9)) (fun x_12 σ11 => sp_X7_thrown n (32 * b) σ11 (fun x_14 σ13 => ((x_14 = 0 → (((¬ (0 : Int32) = 0 → (sp_law_1271 n (32 * b) xs L K σ13 x5)) ∧ ((0 : Int32) = 0 → ((vp_in 0 1) ∧ ∀ y_18, y_18 = (ck_gj σ13 21 0 (Int32.toNatClampNeg 0)) → ((x_12 = 0 → (sp_law_1265 n (32 * b) xs L K σ13 x5 0 y_18)) ∧ (¬ x_12 = 0 → (sp_law_1265 n (32 * b) xs L K σ13 x5 1 y_18)))))))) ∧ (¬ x_14 = 0 → (False))))) := by
          intro x hx
          refine ⟨v01, al_1 (al_1 ⟨v1, al_1 ⟨v2, ?_⟩⟩)⟩
          rw [hv, hw, ec, ek]
          unfold sp_X7_valid sp_X7_valid_39
          rw [e1 (ck_uj σ 21 0 (Int32.toNatClampNeg 0) x) rfl]
          refine kb_f pc (kb_f pc2 (kb_f pk (kb_t pk2 (kb_t d (al_1 (kn_f rfl ?_))))))
          obtain ⟨u, hu⟩ := Rc_gR hB h10 c hc
          refine m_isValid (σ := ck_ui (ck_uj σ 21 0 (Int32.toNatClampNeg 0) x) 10 0 0 0) (R := rp σ) rfl (by omega) hk hu ?_
          unfold sp_X7_thrown sp_law_1265 sp_law_1271
          rw [b2_0]
          simp only [lg_cmp_eq]
          refine ⟨fun m => ⟨b2_b false, kb_t rfl (kn_f trivial ⟨v01, al_1 (kb_t trivial (kb_t ?_ (hK _ h200)))⟩)⟩, fun m => ⟨b2_b true, kb_t rfl (kn_f trivial ⟨v01, al_1 (kb_f (by decide) (kb_t ?_ (hK _ h200)))⟩)⟩⟩
          · show x = 0
            rw [hx, m]
            rfl
          · rw [Bool.not_eq_false] at m
            show x = 1
            rw [hx, m]
            rfl
        unfold sp_L_valid_16
        dsimp only
        rw [b2_0]
        refine ⟨fun m => fin _ ?_, fun m => fin _ ?_⟩
        · rw [m]
          rfl
        · rw [Bool.not_eq_false] at m
          rw [m]
          rfl
      · rw [hv, hw, ec, ek]
        unfold sp_X7_valid sp_X7_valid_39
        rw [e1 _ rfl]
        exact kb_f pc (kb_f pc2 (kb_f pk (kb_t pk2 (kb_f d (al_1 (kn_t (by show ¬ (2 : Int32) = 0; decide) ⟨b2_b false, thr (ck_ui σ 10 0 0 2) 2 (by decide) rfl h200 0⟩))))))
    · rw [hv, hw, ec]
      unfold sp_X7_valid sp_X7_valid_23 sp_X7_valid_39
      rw [e1 _ rfl]
      have q2 : w < 0 ∨ 6 ≤ w := q
      exact kb_f pc (kb_f pc2 ⟨fun a => al_1 (kn_t (by show ¬ (1 : Int32) = 0; decide) ⟨b2_b false, thr (ck_ui σ 10 0 0 1) 1 (by decide) rfl h200 0⟩), fun a => kb_f (by grind) (al_1 (kn_t (by show ¬ (1 : Int32) = 0; decide) ⟨b2_b false, thr (ck_ui σ 10 0 0 1) 1 (by decide) rfl h200 0⟩))⟩)
  · rw [hv, hw]
    unfold sp_X7_valid sp_X7_valid_23 sp_X7_valid_39
    rw [e1 _ rfl]
    refine ⟨fun a => al_1 (kn_t (by show ¬ (1 : Int32) = 0; decide) ⟨b2_b false, thr (ck_ui σ 10 0 0 1) 1 (by decide) rfl h200 0⟩), fun a => kb_t ?_ (al_1 (kn_t (by show ¬ (1 : Int32) = 0; decide) ⟨b2_b false, thr (ck_ui σ 10 0 0 1) 1 (by decide) rfl h200 0⟩))⟩
    rcases q with q | q
    · exact absurd q a
    · exact q
end CASES
