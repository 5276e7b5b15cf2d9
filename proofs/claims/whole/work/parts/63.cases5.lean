/-! THE LAW'S CASES: tick, power. -/
section CASES
variable {n b B nc nb : Nat} {cap : Int} {σ : ck_S} {xs : Nat → Int32} {L : Nat} {K : ck_S → Int32 → Prop} {x5 : Int32}
theorem lc_707 (h : RC n b B cap σ σ) (hB : B + 200 ≤ 1000000) (v1 : vp_in (x5 + 1) L) (hK : ∀ σ', RC n b (B + 200) cap σ' σ' → K σ' x5) : sp_law_707 n (32 * b) xs L K σ x5 := by
  unfold sp_law_707 sp_L_tick sp_X6_tick sp_X6_needPower sp_law_760
  have h200 := RC_mono (B' := B + 200) (by omega) h
  obtain ⟨s1, s2, -⟩ := id h.2.2.2.2.2.1
  have e : ck_gi σ 0 0 7 = σ.1 10 0 9 := s1
  generalize hu : xs (Int32.toNatClampNeg (x5 + 1)) = u
  refine al_1 ⟨v1, ?_⟩
  rw [hu]
  refine c_wholeN (fun a c => ?_) (fun q => Or.inl ⟨rfl, al_1 ⟨v1, ?_⟩⟩)
  · dsimp only
    rw [e]
    refine ⟨fun d => ?_, fun d => Or.inr ⟨rfl, al_1 ⟨v1, ?_⟩⟩⟩
    · obtain ⟨N, hN, eN⟩ := nI_of2 (x := u) (M := 100) (n := 100) (by decide) (by grind) c
      have hr : RC n b B cap σ (ck_ui σ 10 0 0 0) := h
      obtain ⟨m1, m2⟩ := m_ticks hN N 0 B σ (ck_ui σ 10 0 0 0) (by omega) (by omega) hr rfl
      refine ⟨N + 1, ?_⟩
      have C := c_ticks (n := n) (b := b) (cap := cap) hN N 0 B σ (ck_ui σ 10 0 0 0) (by omega) (by omega) hr σ
      rw [ck_mk_self] at C
      rw [eN]
      refine C _ _ (fun γ' h' => ?_)
      refine ⟨v01, al_1 (al_1 ⟨v1, ?_⟩)⟩
      rw [hu, eN, muj_21]
      unfold sp_X7_tick sp_X7_tick_28
      have ho : (ck_gi (ck_mk (ck_uj γ' 21 0 (Int32.toNatClampNeg 0) (γ'.1 5 0 0).toInt64) σ) 10 0 9) = 0 := d
      refine kb_f (by rw [← eN]; exact a) (kb_t (by rw [← eN]; exact c) (kb_t ho (al_1 ?_)))
      rw [mui_10]
      refine ⟨N + 1, m2 _ _ ?_⟩
      unfold sp_X7_thrown
      refine kb_t m1 (kn_f rfl ⟨v01, kb_t ?_ (hK _ ?_)⟩)
      · rw [lg_cmp_eq]
        exact congrArg Int32.toInt64 h'.2.2.2.2.2.2.2.1.1
      · exact RC_mk (γ := ck_uj γ' 21 0 (Int32.toNatClampNeg 0) (γ'.1 5 0 0).toInt64) (RC_mono (by omega) h')
    · rw [hu]
      unfold sp_X7_tick sp_X7_tick_28
      refine kb_f a (kb_t c (kb_f d (al_1 ⟨1, ?_⟩)))
      show bd_X7_tick_33 n (32 * b) _ _ (ck_ui σ 10 0 0 2) u 0
      unfold bd_X7_tick_33 sp_X7_tick_164 sp_X7_thrown
      exact ⟨fun _ => kb_f (by show ¬ (2 : Int32) ≤ 0; decide) (kb_t rfl (kn_t (by decide) (hK _ h200))), fun _ => kn_t (by show ¬ (2 : Int32) = 0; decide) (kb_f (by show ¬ (2 : Int32) ≤ 0; decide) (kb_t rfl (kn_t (by decide) (hK _ h200))))⟩
  · rw [hu]
    unfold sp_X7_tick sp_X7_tick_12 sp_X7_tick_28
    have fin : ∀ σ1, σ1 = ck_ui σ 10 0 0 1 → lx_3 (bd_X7_tick_33 n (32 * b) (fun x_8 σ7 => sp_X7_thrown n (32 * b) σ7 (fun x_10 σ9 => ((x_10 = 1 → (((¬ (1 : Int32) = 0 → (K σ9 x5)) ∧ ((1 : Int32) = 0 → ((vp_in 0 1) ∧ (((lg_cmp (ck_gj σ9 21 0 (Int32.toNatClampNeg 0)) (x_8.toInt64)) = 0 → (K σ9 x5)) ∧ (¬ (lg_cmp (ck_gj σ9 21 0 (Int32.toNatClampNeg 0)) (x_8.toInt64)) = 0 → (False)))))))) ∧ (¬ x_10 = 1 → (False)))))) σ1 u 0 := by
      refine al_1 ⟨1, ?_⟩
      show bd_X7_tick_33 n (32 * b) _ _ (ck_ui σ 10 0 0 1) u 0
      unfold bd_X7_tick_33 sp_X7_tick_164 sp_X7_thrown
      exact ⟨fun _ => kb_f (by show ¬ (1 : Int32) ≤ 0; decide) (kb_t rfl (kn_t (by decide) (hK _ h200))), fun _ => kn_t (by show ¬ (1 : Int32) = 0; decide) (kb_f (by show ¬ (1 : Int32) ≤ 0; decide) (kb_t rfl (kn_t (by decide) (hK _ h200))))⟩
    refine ⟨fun a => fin, fun a => kb_f (fun c => ?_) fin⟩
    rcases q with q | q
    · exact a q
    · exact q c
/-! power -/
theorem mChips_mk (j : Nat) (γ μ : ck_S) : mChips j (ck_mk γ μ) = ck_mk γ (mChips j μ) := by
  unfold mChips ck_mk
  ext f i k
  · show (if f = 17 ∧ i = 0 ∧ k < j then (0 : Int32) else if f = 18 ∧ i = 0 ∧ k < j then 1000 else if f = 20 ∧ i = 0 ∧ k < j then 0 else if 10 ≤ f ∧ f ≤ 20 then μ.1 f i k else γ.1 f i k) = if 10 ≤ f ∧ f ≤ 20 then (if f = 17 ∧ i = 0 ∧ k < j then 0 else if f = 18 ∧ i = 0 ∧ k < j then 1000 else if f = 20 ∧ i = 0 ∧ k < j then 0 else μ.1 f i k) else γ.1 f i k
    by_cases q : 10 ≤ f ∧ f ≤ 20
    · rw [if_pos q, if_pos q]
    · rw [if_neg q, if_neg q, if_neg (by omega), if_neg (by omega), if_neg (by omega)]
  · show (if f = 13 ∧ i = 0 ∧ k < j then (160 : Int64) else if 10 ≤ f ∧ f ≤ 20 then μ.2.1 f i k else γ.2.1 f i k) = if 10 ≤ f ∧ f ≤ 20 then (if f = 13 ∧ i = 0 ∧ k < j then 160 else μ.2.1 f i k) else γ.2.1 f i k
    by_cases q : 10 ≤ f ∧ f ≤ 20
    · rw [if_pos q, if_pos q]
    · rw [if_neg q, if_neg q, if_neg (by omega)]
  · rfl
theorem mBegT_mk (γ μ : ck_S) : mBegT (ck_mk γ μ) = ck_mk γ (mBegT μ) := by
  unfold mBegT mBeg0
  simp only [mui_10, muj_10]
  rw [pt_mkM (by decide), mChips_mk]
theorem mSet_mk (J : Nat → Int32) (p : Nat) (q : Int64) (γ μ : ck_S) : mSet J p q (ck_mk γ μ) = ck_mk γ (mSet J p q μ) := by
  unfold mSet
  simp only [mui_10, muj_10]
theorem cChips_mk (j : Nat) (γ μ : ck_S) : cChips j (ck_mk γ μ) = ck_mk (cChips j γ) μ := by
  unfold cChips ck_mk
  ext f i k
  · show (if f = 30 ∧ i < j ∧ (k = 3 ∨ k = 4 ∨ k = 5 ∨ k = 7) then (0 : Int32) else if 10 ≤ f ∧ f ≤ 20 then μ.1 f i k else γ.1 f i k) = if 10 ≤ f ∧ f ≤ 20 then μ.1 f i k else (if f = 30 ∧ i < j ∧ (k = 3 ∨ k = 4 ∨ k = 5 ∨ k = 7) then 0 else γ.1 f i k)
    by_cases q : 10 ≤ f ∧ f ≤ 20
    · rw [if_pos q, if_neg (by omega), if_pos q]
    · rw [if_neg q, if_neg q]
  · rfl
  · show (if f = 30 ∧ i < j ∧ k = 6 then (4626322717216342016 : UInt64) else if 10 ≤ f ∧ f ≤ 20 then μ.2.2 f i k else γ.2.2 f i k) = if 10 ≤ f ∧ f ≤ 20 then μ.2.2 f i k else (if f = 30 ∧ i < j ∧ k = 6 then 4626322717216342016 else γ.2.2 f i k)
    by_cases q : 10 ≤ f ∧ f ≤ 20
    · rw [if_pos q, if_neg (by omega), if_pos q]
    · rw [if_neg q, if_neg q]
theorem cBegT_mk (j : Nat) (γ μ : ck_S) : cBegT j (ck_mk γ μ) = ck_mk (cBegT j γ) μ := by
  unfold cBegT cBeg0
  simp only [mui_0, mud_0]
  rw [cChips_mk, pt_mkC (by decide)]
  simp only [mui_3, mui_5, mui_6]
theorem cSet_mk (p : Nat) (J : Nat → Int32) (z : UInt64) (γ μ : ck_S) : cSet p J z (ck_mk γ μ) = ck_mk (cSet p J z γ) μ := by
  unfold cSet
  simp only [mui_0, mud_0, mui_3, mui_6]
theorem kd_20_3 : ck_dq 4626322717216342016 160 3 := ck_dq_up 3 kd_20
theorem kd_0Q (Q : Nat) : ck_dq FP.dconst0 0 Q := by
  have := ck_dq_up Q kd_0
  rwa [Int.zero_mul, Nat.zero_add] at this
/-- what holds of the two halves before they begin anew -/
theorem beg_rel {γ μ : ck_S} (hk : Rk n b cap γ μ) (hJ : gJ (μ.1 11 0)) (hsJ : sJ (32 * b) (μ.1 11 0) γ) (hz : ∀ k, 20 ≤ k → k < 30 → γ.1 8 0 k = 0) (hC : ∀ c, c < n → ∀ j, j < 8 → ck_dq (γ.2.2 33 c j) (μ.2.1 15 0 (8 * c + j)).toInt 3 ∧ -16000 ≤ (μ.2.1 15 0 (8 * c + j)).toInt ∧ (μ.2.1 15 0 (8 * c + j)).toInt ≤ 16000) : RC n b B cap (cBegT n γ) (mBegT μ) := by
  obtain ⟨k1, k2, k3, k4, k5, k6, k7, k8, k9, k10, k11, k12, k13, k14⟩ := id hk
  have z0 : (0 : Int64).toInt = 0 := by decide
  refine ⟨hk, ⟨?_, ?_, ?_⟩, ⟨?_, ?_, ?_⟩, ⟨?_, ?_, ?_⟩, ⟨?_, ?_, ?_, ?_, ?_, ?_⟩, ⟨rfl, Or.inl rfl, rfl, rfl, rfl, ?_, ?_, rfl, Or.inl rfl⟩, ⟨?_, rfl, 0, by decide, rfl⟩, ⟨rfl, ⟨0, by decide, rfl⟩, rfl⟩, ⟨rfl, ⟨1, by decide, by omega, rfl⟩, rfl, ⟨32, by decide, rfl⟩, hJ, hsJ, hz⟩, ?_⟩
  · show ck_dq FP.dconst0 (0 : Int64).toInt 13
    rw [z0]; exact kd_0Q 13
  · show 0 ≤ (0 : Int64).toInt
    rw [z0]; omega
  · show (0 : Int64).toInt ≤ 8192 * cap
    rw [z0]; omega
  · show ck_dq FP.dconst0 (0 : Int64).toInt 3
    rw [z0]; exact kd_0Q 3
  · show 0 ≤ (0 : Int64).toInt
    rw [z0]; omega
  · show (0 : Int64).toInt < 80000
    rw [z0]; omega
  · show ck_dq FP.dconst0 (0 : Int64).toInt 3
    rw [z0]; exact kd_0Q 3
  · show -16000 ≤ (0 : Int64).toInt
    rw [z0]; omega
  · show (0 : Int64).toInt ≤ 16000
    rw [z0]; omega
  · show ck_dq FP.dconst0 (0 : Int64).toInt 6
    rw [z0]; exact kd_0Q 6
  · show 0 ≤ (0 : Int64).toInt
    rw [z0]; omega
  · show (0 : Int64).toInt ≤ 19200
    rw [z0]; omega
  · show ck_dq FP.dconst0 (0 : Int64).toInt 6
    rw [z0]; exact kd_0Q 6
  · show 0 ≤ (0 : Int64).toInt
    rw [z0]; omega
  · show (0 : Int64).toInt ≤ 19200
    rw [z0]; omega
  · show 0 ≤ (0 : Int32).toInt
    decide
  · show (0 : Int32).toInt ≤ 1000000
    decide
  · intro k hk7
    have e1 : (cBegT n γ).1 4 0 k = 0 := by
      show (pt 4 0 7 (fun _ => 0) (cChips n (cBeg0 γ))).1 4 0 k = 0
      rw [pt_in (by omega) (by omega)]
    have e2 : (mBegT μ).1 19 0 k = 0 := by
      show (pt 19 0 7 (fun _ => 0) (mBeg0 μ)).1 19 0 k = 0
      rw [pt_in (by omega) (by omega)]
    rw [e1, e2]
    exact ⟨rfl, 0, by decide, rfl⟩
  · intro c hc
    have c4 : c < 4 := by omega
    have g3 : ∀ k, (k = 3 ∨ k = 4 ∨ k = 5 ∨ k = 7) → (cBegT n γ).1 30 c k = 0 := by
      intro k hk'
      show (cChips n (cBeg0 γ)).1 30 c k = 0
      simp [cChips, hc, hk']
    have g6 : (cBegT n γ).2.2 30 c 6 = 4626322717216342016 := by
      show (cChips n (cBeg0 γ)).2.2 30 c 6 = _
      simp [cChips, hc]
    have u17 : (mBegT μ).1 17 0 c = 0 := by
      show (mChips 4 _).1 17 0 c = 0
      simp [mChips, c4]
    have u20 : (mBegT μ).1 20 0 c = 0 := by
      show (mChips 4 _).1 20 0 c = 0
      simp [mChips, c4]
    have u13 : (mBegT μ).2.1 13 0 c = 160 := by
      show (mChips 4 _).2.1 13 0 c = 160
      simp [mChips, c4]
    refine ⟨⟨0, 0, by omega, by omega, g3 4 (by omega), u17, g3 5 (by omega), fun q => absurd q (by omega), fun q => absurd q (by omega), fun _ _ q => absurd q (by omega), fun _ _ q => absurd q (by omega), hC c hc, ?_⟩, ?_⟩
    · show ck_dq ((cBegT n γ).2.2 30 c 6) ((mBegT μ).2.1 13 0 c).toInt 3 ∧ -800 ≤ ((mBegT μ).2.1 13 0 c).toInt ∧ ((mBegT μ).2.1 13 0 c).toInt ≤ 1600
      rw [g6, u13]
      exact ⟨kd_20_3, by decide, by decide⟩
    · rw [g3 7 (by omega), u20]
theorem lc_862 (h : RC n b B cap σ σ) (hK : ∀ σ', RC n b (B + 200) cap σ' σ' → K σ' x5) : sp_law_862 n (32 * b) xs L K σ x5 := by
  unfold sp_law_862
  obtain ⟨h1, h2, h3, h4, h5, h6, h7, h8, ⟨i1, i2, i5, i6, i8, i9, i10⟩, h10⟩ := id h
  obtain ⟨k1, k2, k3, k4, k5, k6, k7, k8, k9, k10, k11, k12, k13, k14⟩ := id h1
  have hC : ∀ c, c < n → ∀ j, j < 8 → ck_dq (σ.2.2 33 c j) (σ.2.1 15 0 (8 * c + j)).toInt 3 ∧ -16000 ≤ (σ.2.1 15 0 (8 * c + j)).toInt ∧ (σ.2.1 15 0 (8 * c + j)).toInt ≤ 16000 := by
    intro c hc
    obtain ⟨⟨y, g, r1, r2, r3, r4, r5, r6, r7, r8, r9, r10, r11⟩, -⟩ := h10 c hc
    exact r10
  have R0 : RC n b (B + 200) cap (cBegT n σ) (mBegT (ck_ui σ 10 0 0 0)) := beg_rel (μ := ck_ui σ 10 0 0 0) h1 i8 i9 i10 hC
  generalize hJ : σ.1 11 0 = J at i8 i9
  have eC : cBegT n σ = ck_mk (cBegT n σ) σ := by
    have := cBegT_mk n σ σ
    rwa [ck_mk_self] at this
  refine c_power i8 k2 k3 k4 rfl i9 k11 k7 k5 k6 (fun e0 => ?_) (fun p zq ep dz => ?_)
  · unfold sp_X7_power
    refine al_1 ?_
    rw [eC, mui_10]
    refine m_begin (σ := ck_mk (cBegT n σ) (ck_ui σ 10 0 0 0)) i8 hJ k3 k4 k10 ?_
    rw [if_pos e0, mBegT_mk]
    exact kb_t rfl (hK _ (RC_mk R0))
  · have eS : cSet p J zq (cBegT n σ) = ck_mk (cSet p J zq (cBegT n σ)) σ := by
      have := cSet_mk p J zq (cBegT n σ) σ
      rwa [← eC] at this
    have ih := bst_ok J b b
    have hp : p < b := by omega
    have hr := right_v (J := J) (b := b) (p := p) (by
      have := ih.2 (by omega)
      rwa [ep, Nat.add_sub_cancel] at this)
    unfold sp_X7_power
    refine al_1 ?_
    rw [eS, mui_10]
    refine m_begin (σ := ck_mk (cSet p J zq (cBegT n σ)) (ck_ui σ 10 0 0 0)) i8 hJ k3 k4 k10 ?_
    rw [if_neg (by omega), mBegT_mk, mSet_mk, ep, Nat.add_sub_cancel]
    refine kb_t rfl (hK _ (RC_mk ?_))
    obtain ⟨r1, r2, r3, r4, r5, ⟨t1, t2, t3, t4⟩, ⟨m1, m2, m3⟩, r8, ⟨j1, j2, j5⟩, r10⟩ := R0
    have eq : (qCl (σ.2.1 10 0 3) (jN J (32 * p + 8) 8)).toInt = if (jN J (32 * p + 8) 8).toInt < 0 then 0 else if 8192 * cap < (jN J (32 * p + 8) 8).toInt then 8192 * cap else (jN J (32 * p + 8) 8).toInt := by
      have e8 : (8192 * σ.2.1 10 0 3).toInt = 8192 * cap := by rw [z_mul z_8192 (by omega) (by omega), k8]
      unfold qCl
      generalize 8192 * σ.2.1 10 0 3 = M at e8
      rw [← e8]
      simp only [Int64.lt_iff_toInt_lt]
      have z0 : (0 : Int64).toInt = 0 := by decide
      rw [z0]
      split
      · exact z0
      · split <;> rfl
    refine ⟨r1, ⟨?_, ?_, ?_⟩, r3, r4, r5, ⟨t1, t2, rfl, t4⟩, ⟨m1, rfl, ?_⟩, r8, ⟨rfl, ⟨vN J p + 1, by omega, by omega, rfl⟩, j5⟩, r10⟩
    · show ck_dq zq (qCl (σ.2.1 10 0 3) (jN J (32 * p + 8) 8)).toInt 13
      rw [eq]
      exact dz
    · show 0 ≤ (qCl (σ.2.1 10 0 3) (jN J (32 * p + 8) 8)).toInt
      rw [eq]
      split
      · omega
      · split <;> omega
    · show (qCl (σ.2.1 10 0 3) (jN J (32 * p + 8) 8)).toInt ≤ 8192 * cap
      rw [eq]
      split
      · omega
      · split <;> omega
    · show ∃ F, F < 512 ∧ (jN J (32 * p + 16) 2).toInt32 &&& 511 = nI F
      exact pk_andE _ (m := 511) 9 (by decide)
end CASES
