/-! THE LAW'S CASES: setters and what takes an index. -/
section CASES
variable {n b B nc nb : Nat} {cap : Int} {σ : ck_S} {xs : Nat → Int32} {L : Nat} {K : ck_S → Int32 → Prop} {x5 : Int32}
theorem c_index {x : Int32} {N : Nat} (hN : N < 2 ^ 31) {post : ck_S → Prop} {px : String → ck_S → Prop} (hin : ∀ j, j < N → x = nI j → post σ) (hout : x < 0 ∨ nI N ≤ x → px "java/lang/IndexOutOfBoundsException" σ) : sp_X6_needIndex nc nb σ x (nI N) post px := by
  unfold sp_X6_needIndex sp_X6_needIndex_9
  refine ⟨fun a => hout (Or.inl a), fun a => ⟨fun c => ?_, fun c => hout (Or.inr (by grind))⟩⟩
  rcases pk_ix x hN with q | q | ⟨j, hj, q⟩
  · exact absurd q a
  · exact absurd c (by grind)
  · exact hin j hj q
theorem c_wholeN {x lo hi : Int32} {post : ck_S → Prop} {px : String → ck_S → Prop} (hin : ¬ x < lo → x ≤ hi → post σ) (hout : x < lo ∨ ¬ x ≤ hi → px "java/lang/IllegalArgumentException" σ) : sp_X6_needWhole nc nb σ x lo hi post px := by
  unfold sp_X6_needWhole sp_X6_needWhole_10
  exact ⟨fun a => hout (Or.inl a), fun a => ⟨fun c => hin a c, fun c => hout (Or.inr c)⟩⟩
theorem lc_469 (h : RC n b B cap σ σ) (v1 : vp_in (x5 + 1) L) (hK : ∀ σ', RC n b (B + 200) cap σ' σ' → K σ' x5) : sp_law_469 n (32 * b) xs L K σ x5 := by
  unfold sp_law_469 sp_L_current sp_X6_current sp_X6_needPower
  have h200 := RC_mono (B' := B + 200) (by omega) h
  obtain ⟨h1, h2, h3, h4, h5, h6, h7, h8, h9, h10⟩ := id h200
  obtain ⟨s1, s2, -⟩ := id h6
  have e : ck_gi σ 0 0 7 = σ.1 10 0 9 := s1
  generalize hv : xs (Int32.toNatClampNeg (x5 + 1)) = v
  have dz := d8 v
  have rv := fb_rng v
  refine al_1 ⟨v1, ?_⟩
  rw [hv]
  generalize hzz : FP.dmul (FP.i2d v) 4593671619917905920 = z at dz ⊢
  have mrun : ∀ (τ : ck_S), τ.1 10 0 9 = σ.1 10 0 9 → ∀ (post : ck_S → Prop), (¬ (-16000 ≤ v.toInt ∧ v.toInt ≤ 16000) → post (ck_uj (ck_ui τ 10 0 0 1) 10 0 13 (τ.2.1 10 0 13))) → (-16000 ≤ v.toInt → v.toInt ≤ 16000 → σ.1 10 0 9 = 0 → post (ck_uj (ck_ui τ 10 0 0 0) 10 0 13 (Int64.ofInt v.toInt))) → (-16000 ≤ v.toInt → v.toInt ≤ 16000 → ¬ σ.1 10 0 9 = 0 → post (ck_uj (ck_ui τ 10 0 0 2) 10 0 13 (τ.2.1 10 0 13))) → sp_X7_current n (32 * b) τ z post := by
    intro τ hτ post p1 p2 p3
    unfold sp_X7_current sp_X7_current_17 sp_X7_current_33
    rw [ck_dcmp dz (ck_dq_up 3 kd_m2000) (by decide), ck_dcmp dz (ck_dq_up 3 kd_2000) (by decide)]
    simp only [cv_lt, cv_le]
    have e9 : ck_gi τ 10 0 9 = σ.1 10 0 9 := hτ
    rw [e9]
    have dl := d2l_8 dz (by omega)
    refine ⟨fun a => al_1 (kb_f (by show ¬ (1 : Int32) ≤ 0; decide) (al_1 (p1 (by omega)))), fun a => ⟨fun c => ⟨fun d => al_1 (kb_t (by show (0 : Int32) ≤ 0; decide) ⟨dl.1, al_1 ?_⟩), fun d => al_1 (kb_f (by show ¬ (2 : Int32) ≤ 0; decide) (al_1 (p3 (by omega) (by omega) d)))⟩, fun c => al_1 (kb_f (by show ¬ (1 : Int32) ≤ 0; decide) (al_1 (p1 (by omega))))⟩⟩
    rw [dl.2]
    exact p2 (by omega) (by omega) d
  have lo : (-2000 : Int32).toInt = -2000 := by decide
  have hi : (2000 : Int32).toInt = 2000 := by decide
  have nz := ck_dq_n64 dz
  have cmp : ∀ (τ : ck_S) (x : Int32), τ.1 10 0 0 = x → RC n b (B + 200) cap τ τ → sp_X7_thrown n (32 * b) τ (fun x_12 σ11 => ((x_12 = x → (K σ11 x5)) ∧ (¬ x_12 = x → (False)))) := fun τ x ht hr => kb_t ht (hK τ hr)
  refine ⟨nz, c_amount dz (by rw [lo]; omega) (by rw [hi]; omega) (fun q1 q2 => ?_) (fun q => ?_)⟩
  · rw [lo] at q1
    rw [hi] at q2
    rw [e]
    refine ⟨fun d => al_1 (al_1 ⟨v1, ?_⟩), fun d => Or.inr ⟨rfl, al_1 ⟨v1, ?_⟩⟩⟩
    · rw [hv, hzz]
      refine ⟨nz, mrun (ck_ud σ 0 0 12 z) rfl _ (fun q => absurd (by omega) q) (fun _ _ _ => cmp _ _ rfl ⟨h1, h2, h3, ⟨?_, ?_, ?_⟩, h5, h6, h7, h8, h9, h10⟩) (fun _ _ q => absurd d q)⟩
      · show ck_dq z (Int64.ofInt v.toInt).toInt 3
        rw [ofI_L (by omega)]
        exact dz
      · show -16000 ≤ (Int64.ofInt v.toInt).toInt
        rw [ofI_L (by omega)]
        omega
      · show (Int64.ofInt v.toInt).toInt ≤ 16000
        rw [ofI_L (by omega)]
        omega
    · rw [hv, hzz]
      exact ⟨nz, mrun _ rfl _ (fun q => absurd (by omega) q) (fun _ _ q => absurd q d) (fun _ _ _ => cmp _ _ rfl h200)⟩
  · rw [lo, hi] at q
    refine Or.inl ⟨rfl, al_1 ⟨v1, ?_⟩⟩
    rw [hv, hzz]
    exact ⟨nz, mrun _ rfl _ (fun _ => cmp _ _ rfl h200) (fun p1 p2 => absurd (by omega) q) (fun p1 p2 => absurd (by omega) q)⟩
theorem lc_573 (h : RC n b B cap σ σ) (v1 : vp_in (x5 + 1) L) (hK : ∀ σ', RC n b (B + 200) cap σ' σ' → K σ' x5) : sp_law_573 n (32 * b) xs L K σ x5 := by
  unfold sp_law_573 sp_L_bus sp_X6_bus sp_X6_needPower
  have h200 := RC_mono (B' := B + 200) (by omega) h
  obtain ⟨h1, h2, h3, h4, h5, ⟨s1, s2, s3, s4, s5, s6, s7, s8, s9⟩, h7, h8, h9, h10⟩ := id h200
  have e : ck_gi σ 0 0 7 = σ.1 10 0 9 := s1
  generalize hv : xs (Int32.toNatClampNeg (x5 + 1)) = v
  have cmp : ∀ (τ : ck_S) (x : Int32), τ.1 10 0 0 = x → RC n b (B + 200) cap τ τ → sp_X7_thrown n (32 * b) τ (fun x_12 σ11 => ((x_12 = x → (K σ11 x5)) ∧ (¬ x_12 = x → (False)))) := fun τ x ht hr => kb_t ht (hK τ hr)
  refine al_1 ⟨v1, ?_⟩
  rw [hv]
  refine c_wholeN (fun a c => ?_) (fun q => ?_)
  · rw [e]
    refine ⟨fun d => al_1 (al_1 ⟨v1, ?_⟩), fun d => Or.inr ⟨rfl, al_1 ⟨v1, ?_⟩⟩⟩
    · rw [hv]
      unfold sp_X7_bus sp_X7_bus_27
      refine kb_f a (kb_t c (kb_t d (al_1 (kb_t (by show (0 : Int32) ≤ 0; decide) (al_1 (cmp _ _ rfl ⟨h1, h2, h3, h4, h5, ⟨s1, s2, s3, s4, rfl, ?_, ?_, s8, s9⟩, h7, h8, h9, h10⟩))))))
      · show 0 ≤ v.toInt
        have : ¬ v.toInt < (0 : Int32).toInt := fun q => a (Int32.lt_iff_toInt_lt.mpr q)
        rw [(by decide : (0 : Int32).toInt = 0)] at this
        omega
      · show v.toInt ≤ 1000000
        have := Int32.le_iff_toInt_le.mp c
        rw [(by decide : (1000000 : Int32).toInt = 1000000)] at this
        exact this
    · rw [hv]
      unfold sp_X7_bus sp_X7_bus_27
      refine kb_f a (kb_t c (kb_f d (al_1 (kb_f (by show ¬ (2 : Int32) ≤ 0; decide) (al_1 (cmp _ _ rfl ?_))))))
      exact h200
  · refine Or.inl ⟨rfl, al_1 ⟨v1, ?_⟩⟩
    rw [hv]
    unfold sp_X7_bus sp_X7_bus_11 sp_X7_bus_27
    have fin : ∀ σ1, σ1 = ck_ui σ 10 0 0 1 → (((ck_gi σ1 10 0 0) ≤ 0 → (∀ σ3, σ3 = ck_ui σ1 10 0 15 v → sp_X7_thrown n (32 * b) σ3 (fun x_12 σ11 => ((x_12 = 1 → (K σ11 x5)) ∧ (¬ x_12 = 1 → (False)))))) ∧ (¬ (ck_gi σ1 10 0 0) ≤ 0 → (∀ σ4, σ4 = ck_ui σ1 10 0 15 (ck_gi σ1 10 0 15) → sp_X7_thrown n (32 * b) σ4 (fun x_12 σ11 => ((x_12 = 1 → (K σ11 x5)) ∧ (¬ x_12 = 1 → (False))))))) := al_1 (kb_f (by show ¬ (1 : Int32) ≤ 0; decide) (al_1 (cmp _ _ rfl h200)))
    refine ⟨fun a => fin, fun a => kb_f (fun c => ?_) fin⟩
    rcases q with q | q
    · exact a q
    · exact q c
theorem lc_826 (h : RC n b B cap σ σ) (v1 : vp_in (x5 + 1) L) (hK : ∀ σ', RC n b (B + 200) cap σ' σ' → K σ' x5) : sp_law_826 n (32 * b) xs L K σ x5 := by
  unfold sp_law_826 sp_L_cut sp_X6_cut sp_X6_needPower
  have h200 := RC_mono (B' := B + 200) (by omega) h
  obtain ⟨h1, h2, h3, h4, h5, ⟨s1, s2, s3⟩, h7, h8, ⟨i1, i2, i5, ⟨l, i6, i7⟩, i8⟩, h10⟩ := id h200
  have e : ck_gi σ 0 0 7 = σ.1 10 0 9 := s1
  generalize hv : xs (Int32.toNatClampNeg (x5 + 1)) = v
  have cmp : ∀ (τ : ck_S) (x : Int32), τ.1 10 0 0 = x → RC n b (B + 200) cap τ τ → sp_X7_thrown n (32 * b) τ (fun x_12 σ11 => ((x_12 = x → (K σ11 x5)) ∧ (¬ x_12 = x → (False)))) := fun τ x ht hr => kb_t ht (hK τ hr)
  refine al_1 ⟨v1, ?_⟩
  rw [hv]
  refine c_wholeN (fun a c => ?_) (fun q => ?_)
  · rw [e]
    refine ⟨fun d => al_1 (al_1 ⟨v1, ?_⟩), fun d => Or.inr ⟨rfl, al_1 ⟨v1, ?_⟩⟩⟩
    · rw [hv]
      unfold sp_X7_cut sp_X7_cut_27
      obtain ⟨j, hj, ej⟩ := nI_of2 (x := v) (M := 32) (n := 32) (by decide) a c
      refine kb_f a (kb_t c (kb_t d (al_1 (kb_t (by show (0 : Int32) ≤ 0; decide) (al_1 (cmp _ _ rfl ⟨h1, h2, h3, h4, h5, ⟨s1, s2, s3⟩, h7, h8, ⟨i1, i2, rfl, ⟨j, hj, ej⟩, i8⟩, h10⟩))))))
    · rw [hv]
      unfold sp_X7_cut sp_X7_cut_27
      refine kb_f a (kb_t c (kb_f d (al_1 (kb_f (by show ¬ (2 : Int32) ≤ 0; decide) (al_1 (cmp _ _ rfl ?_))))))
      exact h200
  · refine Or.inl ⟨rfl, al_1 ⟨v1, ?_⟩⟩
    rw [hv]
    unfold sp_X7_cut sp_X7_cut_11 sp_X7_cut_27
    have fin : ∀ σ1, σ1 = ck_ui σ 10 0 0 1 → (((ck_gi σ1 10 0 0) ≤ 0 → (∀ σ3, σ3 = ck_ui σ1 10 0 31 v → sp_X7_thrown n (32 * b) σ3 (fun x_12 σ11 => ((x_12 = 1 → (K σ11 x5)) ∧ (¬ x_12 = 1 → (False)))))) ∧ (¬ (ck_gi σ1 10 0 0) ≤ 0 → (∀ σ4, σ4 = ck_ui σ1 10 0 31 (ck_gi σ1 10 0 31) → sp_X7_thrown n (32 * b) σ4 (fun x_12 σ11 => ((x_12 = 1 → (K σ11 x5)) ∧ (¬ x_12 = 1 → (False))))))) := al_1 (kb_f (by show ¬ (1 : Int32) ≤ 0; decide) (al_1 (cmp _ _ rfl h200)))
    refine ⟨fun a => fin, fun a => kb_f (fun c => ?_) fin⟩
    rcases q with q | q
    · exact a q
    · exact q c
theorem lc_609 (h : RC n b B cap σ σ) (v1 : vp_in (x5 + 1) L) (hK : ∀ σ', RC n b (B + 200) cap σ' σ' → K σ' x5) : sp_law_609 n (32 * b) xs L K σ x5 := by
  have h200 := RC_mono (B' := B + 200) (by omega) h
  obtain ⟨h1, h2, h3, h4, h5, ⟨s1, s2, s3, s4, s5, s6, s7, s8, s9⟩, h7, h8, h9, h10⟩ := id h200
  have e : ck_gi σ 0 0 7 = σ.1 10 0 9 := s1
  have key : ∀ s0, ck_b s0 → (xs (Int32.toNatClampNeg (x5 + 1)) = 0 ↔ s0 = 0) → sp_law_624 n (32 * b) xs L K σ x5 s0 := by
    intro s0 hs hx
    unfold sp_law_624 sp_L_want sp_X6_want sp_X6_needPower
    rw [e]
    have m2 : ∀ (τ : ck_S) (x6 : Int32), (∀ s1, s1 = s0 → sp_law_644 n (32 * b) xs L K τ x5 x6 s1) → (vp_in (x5 + 1) L) ∧ (((xs (Int32.toNatClampNeg (x5 + 1))) = 0 → (sp_law_644 n (32 * b) xs L K τ x5 x6 0)) ∧ (¬ (xs (Int32.toNatClampNeg (x5 + 1))) = 0 → (sp_law_644 n (32 * b) xs L K τ x5 x6 1))) := by
      intro τ x6 hh
      refine ⟨v1, fun a => hh _ ((hx.mp a).symm), fun a => hh _ ?_⟩
      rcases hs with q | q
      · exact absurd (hx.mpr q) a
      · exact q.symm
    refine ⟨fun d => ⟨hs, al_1 (al_1 (m2 _ _ ?_))⟩, fun d => ⟨rfl, al_1 (m2 _ _ ?_)⟩⟩
    · intro s1' hs1
      subst hs1
      unfold sp_law_644 sp_X7_want sp_X7_want_13 sp_X7_thrown
      exact kb_t d (al_1 (kb_t (by show (0 : Int32) ≤ 0; decide) ⟨hs, al_1 (kb_t rfl (hK _ ⟨h1, h2, h3, h4, h5, ⟨s1, s2, s3, s4, s5, s6, s7, rfl, hs⟩, h7, h8, h9, h10⟩))⟩))
    · intro s1' hs1
      unfold sp_law_644 sp_X7_want sp_X7_want_13 sp_X7_thrown
      exact kb_f d (al_1 (kb_f (by show ¬ (1 : Int32) ≤ 0; decide) ⟨s9, al_1 (kb_t rfl (hK _ h200))⟩))
  unfold sp_law_609
  exact al_1 ⟨v1, fun a => key 0 (Or.inl rfl) ⟨fun _ => rfl, fun _ => a⟩, fun a => key 1 (Or.inr rfl) ⟨fun q => absurd q a, fun q => absurd q (by decide)⟩⟩
theorem lc_661 (h : RC n b B cap σ σ) (v1 : vp_in (x5 + 1) L) (hK : ∀ σ', RC n b (B + 200) cap σ' σ' → K σ' x5) : sp_law_661 n (32 * b) xs L K σ x5 := by
  unfold sp_law_661 sp_L_set sp_X6_set sp_X6_needPower
  have h200 := RC_mono (B' := B + 200) (by omega) h
  obtain ⟨h1, h2, h3, h4, h5, h6, h7, h8, h9, h10⟩ := id h200
  obtain ⟨k1, k2, k3, k4, k5, k6, k7, k8, -⟩ := id h1
  obtain ⟨s1, s2, -⟩ := id h6
  have e : ck_gi σ 0 0 7 = σ.1 10 0 9 := s1
  generalize hv : xs (Int32.toNatClampNeg (x5 + 1)) = v
  have dz := d8 v
  have rv := fb_rng v
  refine al_1 ⟨v1, ?_⟩
  rw [hv]
  generalize hzz : FP.dmul (FP.i2d v) 4593671619917905920 = z at dz ⊢
  have dc : ck_dq (FP.l2d (σ.2.1 10 0 3)) cap 0 := by
    have := ck_l2d (x := σ.2.1 10 0 3) (by omega)
    rwa [k8] at this
  have dm := ck_dmul dz kd_8192 (by omega) (by decide)
  have mrun : ∀ (τ : ck_S), τ.1 10 0 9 = σ.1 10 0 9 → τ.2.1 10 0 3 = σ.2.1 10 0 3 → ∀ (post : ck_S → Prop), (¬ (0 ≤ v.toInt ∧ v.toInt ≤ 8 * cap) → post (ck_uj (ck_ui τ 10 0 0 1) 10 0 11 (τ.2.1 10 0 11))) → (0 ≤ v.toInt → v.toInt ≤ 8 * cap → σ.1 10 0 9 = 0 → post (ck_uj (ck_ui τ 10 0 0 0) 10 0 11 (Int64.ofInt (1024 * v.toInt)))) → (0 ≤ v.toInt → v.toInt ≤ 8 * cap → ¬ σ.1 10 0 9 = 0 → post (ck_uj (ck_ui τ 10 0 0 2) 10 0 11 (τ.2.1 10 0 11))) → sp_X7_set n (32 * b) τ z post := by
    intro τ hτ hτ3 post p1 p2 p3
    unfold sp_X7_set sp_X7_set_17 sp_X7_set_33
    have e3 : ck_gj τ 10 0 3 = σ.2.1 10 0 3 := hτ3
    rw [e3, ck_dcmp dz (ck_dq_up 3 kd_0) (by decide), ck_dcmp dz (ck_dq_up 3 dc) (by decide)]
    simp only [cv_lt, cv_le]
    have e9 : ck_gi τ 10 0 9 = σ.1 10 0 9 := hτ
    rw [e9]
    refine ⟨fun a => al_1 (kb_f (by show ¬ (1 : Int32) ≤ 0; decide) (al_1 (p1 (by omega)))), fun a => ⟨fun c => ⟨fun d => al_1 (kb_t (by show (0 : Int32) ≤ 0; decide) ⟨ck_dq_n64 dm, al_1 ?_⟩), fun d => al_1 (kb_f (by show ¬ (2 : Int32) ≤ 0; decide) (al_1 (p3 (by omega) (by omega) d)))⟩, fun c => al_1 (kb_f (by show ¬ (1 : Int32) ≤ 0; decide) (al_1 (p1 (by omega))))⟩⟩
    have et : (v.toInt * 8192).tdiv ((2 ^ (3 + 0) : Nat) : Int) = 1024 * v.toInt := by
      rw [Int.tdiv_eq_ediv_of_nonneg (by omega)]
      omega
    rw [ck_d2l dm (by rw [et]; omega) (by rw [et]; omega), et]
    exact p2 (by omega) (by omega) d
  have lo : (0 : Int32).toInt = 0 := by decide
  have hi : (ck_gi σ 0 0 1).toInt = cap := k7
  have nz := ck_dq_n64 dz
  have cmp : ∀ (τ : ck_S) (x : Int32), τ.1 10 0 0 = x → RC n b (B + 200) cap τ τ → sp_X7_thrown n (32 * b) τ (fun x_12 σ11 => ((x_12 = x → (K σ11 x5)) ∧ (¬ x_12 = x → (False)))) := fun τ x ht hr => kb_t ht (hK τ hr)
  refine ⟨nz, c_amount dz (by rw [lo]; omega) (by rw [hi]; omega) (fun q1 q2 => ?_) (fun q => ?_)⟩
  · rw [lo] at q1
    rw [hi] at q2
    rw [e]
    refine ⟨fun d => al_1 (al_1 ⟨v1, ?_⟩), fun d => Or.inr ⟨rfl, al_1 ⟨v1, ?_⟩⟩⟩
    · rw [hv, hzz]
      have eo : (Int64.ofInt (1024 * v.toInt)).toInt = 1024 * v.toInt := ofI_L (by omega)
      refine ⟨nz, mrun (ck_ud σ 0 0 9 z) rfl rfl _ (fun q => absurd (by omega) q) (fun _ _ _ => cmp _ _ rfl ⟨h1, ⟨?_, ?_, ?_⟩, h3, h4, h5, h6, h7, h8, h9, h10⟩) (fun _ _ q => absurd d q)⟩
      · show ck_dq z (Int64.ofInt (1024 * v.toInt)).toInt 13
        rw [eo, show 1024 * v.toInt = v.toInt * ((2 ^ 10 : Nat) : Int) by omega]
        exact ck_dq_up 10 dz
      · show 0 ≤ (Int64.ofInt (1024 * v.toInt)).toInt
        omega
      · show (Int64.ofInt (1024 * v.toInt)).toInt ≤ 8192 * cap
        omega
    · rw [hv, hzz]
      exact ⟨nz, mrun _ rfl rfl _ (fun q => absurd (by omega) q) (fun _ _ q => absurd q d) (fun _ _ _ => cmp _ _ rfl h200)⟩
  · rw [lo, hi] at q
    refine Or.inl ⟨rfl, al_1 ⟨v1, ?_⟩⟩
    rw [hv, hzz]
    exact ⟨nz, mrun _ rfl rfl _ (fun _ => cmp _ _ rfl h200) (fun p1 p2 => absurd (by omega) q) (fun p1 p2 => absurd (by omega) q)⟩
end CASES
