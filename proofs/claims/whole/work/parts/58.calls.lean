/-! TICKS, and the calls of the face that throw. -/
section TICKS
variable {n b B : Nat} {cap : Int} {γ μ : ck_S}
theorem im_write (hB : B ≤ 1000000) (h : RC n b B cap γ μ) : ∃ γ', RC n b (B + 1) cap γ' (mWriteS b μ) := by
  obtain ⟨h1, ⟨q1, q2, q3⟩, h3, h4, h5, ⟨s1, s2, s3⟩, h7, h8, ⟨i1, ⟨m, i2, i3, i4⟩, i5, ⟨l, i6, i7⟩, i8, i9, i10⟩, h10⟩ := id h
  obtain ⟨k1, k2, k3, k4, k5, k6, k7, k8, k9, k10, k11, k12, k13, k14⟩ := id h1
  unfold mWriteS
  have em : (μ.1 10 0 8).toNatClampNeg = m := by rw [i4, nI_clamp (by omega)]
  have el : (μ.1 10 0 31).toNatClampNeg = l := by rw [i7, nI_clamp (by omega)]
  rw [em, el]
  have gz : ∀ k, 20 ≤ k → k < 30 → bK (μ.1 10 0 8) (μ.1 10 0 10) (μ.2.1 10 0 11) (μ.1 10 0 26) (μ.1 10 0 28) k = 0 := by
    intro k p1 p2
    unfold bK bK0
    rw [if_pos p2, if_neg (by omega), if_neg (by omega), if_neg (by omega), if_neg (by omega), if_neg (by omega)]
  have g256 := bK_256 (μ.1 10 0 8) (μ.1 10 0 10) (μ.2.1 10 0 11) (μ.1 10 0 26) (μ.1 10 0 28)
  generalize bK (μ.1 10 0 8) (μ.1 10 0 10) (μ.2.1 10 0 11) (μ.1 10 0 26) (μ.1 10 0 28) = g at gz g256 ⊢
  have hmod : (m - 1) % b < b := Nat.mod_lt _ (by omega)
  refine ⟨ck_ui (cWr b m l g γ) 0 0 7 (b2 (decide (l < 32))), ?_⟩
  unfold mWr cWr
  generalize hA : (m - 1) % b = A at hmod ⊢
  have hRc : Rc n (B + 1) γ μ := fun c hc => ⟨Rch_mono (Nat.le_succ B) (h10 c hc).1, (h10 c hc).2⟩
  refine ⟨h1, ⟨q1, q2, q3⟩, h3, h4, h5, ⟨rfl, b2_b _, s3⟩, h7, h8, ⟨rfl, ⟨m + 1, by omega, by omega, rfl⟩, i5, ⟨l, i6, i7⟩, ?_, ?_, ?_⟩, hRc⟩
  · intro k hk
    show ∃ v, v < 256 ∧ (pt 11 (32 * A) l g (pt 12 0 32 g μ)).1 11 0 k = nI v
    by_cases c : 32 * A ≤ k ∧ k < 32 * A + l
    · rw [pt_in c.1 c.2]
      exact g256 _
    · rw [pt_out (by omega)]
      exact i8 k hk
  · intro k hk
    show (pt 7 (32 * A) l (fun k => sg (g k)) (pt 8 0 32 (fun k => sg (g k)) γ)).1 7 0 k = sg ((pt 11 (32 * A) l g (pt 12 0 32 g μ)).1 11 0 k)
    by_cases c : 32 * A ≤ k ∧ k < 32 * A + l
    · rw [pt_in c.1 c.2, pt_in c.1 c.2]
    · rw [pt_out (by omega), pt_out (by omega)]
      exact i9 k hk
  · intro k p1 p2
    show (pt 7 (32 * A) l (fun k => sg (g k)) (pt 8 0 32 (fun k => sg (g k)) γ)).1 8 0 k = 0
    rw [pt_f (by decide), pt_in (by omega) (by omega), Nat.sub_zero, gz k p1 p2]
    decide
theorem im_tick (hB : B + 2 ≤ 1000000) (h : RC n b B cap γ μ) : ∃ γ', RC n b (B + 2) cap γ' (mTickS n b cap μ) := by
  obtain ⟨⟨c6, r6⟩, e6⟩ := im_6 hB h
  unfold mTickS
  split
  · exact im_write (by omega) r6
  · exact ⟨c6, RC_mono (by omega) r6⟩
def mTicks (n b : Nat) (cap : Int) : Nat → ck_S → ck_S
  | 0, μ => μ
  | d + 1, μ => if μ.1 10 0 9 = 0 then mTicks n b cap d (mTickS n b cap μ) else μ
theorem c_ticks {N : Nat} (hN : N ≤ 100) : ∀ (d j B : Nat) (γ μ : ck_S), j + d = N → B + 2 * d ≤ 1000000 → RC n b B cap γ μ → ∀ (μ0 : ck_S) (post : Int32 → ck_S → Prop) (px : String → ck_S → Prop), (∀ γ', RC n b (B + 2 * d) cap γ' (mTicks n b cap d μ) → post (γ'.1 5 0 0) (ck_mk γ' μ0)) → lk_3 (bd_X6_tick_13 n (32 * b) post px) (d + 1) (ck_mk γ μ0) (nI N) (nI j)
  | 0, j, B, γ, μ, hj, hB, h, μ0, post, px, hp => by
    have e : j = N := hj
    subst e
    show bd_X6_tick_13 n (32 * b) post px _ (ck_mk γ μ0) (nI j) (nI j)
    unfold bd_X6_tick_13 sp_X6_tick_35
    exact kb_t (nI_le (Nat.le_refl _) (by omega)) (hp γ h)
  | d + 1, j, B, γ, μ, hj, hB, h, μ0, post, px, hp => by
    show bd_X6_tick_13 n (32 * b) post px (lk_3 (bd_X6_tick_13 n (32 * b) post px) (d + 1)) (ck_mk γ μ0) (nI N) (nI j)
    rw [bd_X6_tick_13, sp_X6_tick_35]
    have e7 : ck_gi (ck_mk γ μ0) 0 0 7 = μ.1 10 0 9 := h.2.2.2.2.2.1.1
    rw [e7]
    rw [mTicks] at hp
    refine kb_f (nI_ge (by omega) (by omega)) ⟨fun a => ?_, fun a => ?_⟩
    · rw [if_neg a] at hp
      exact hp γ (RC_mono (by omega) h)
    · rw [if_pos a] at hp
      refine pr_tick (by omega) h μ0 _ (fun γ' h' => ?_)
      rw [nI_1]
      refine al_1 ?_
      exact c_ticks hN d (j + 1) (B + 2) γ' _ (by omega) (by omega) h' μ0 post px (fun γ'' h'' => hp γ'' (by rwa [show B + 2 * (d + 1) = B + 2 + 2 * d by omega]))
theorem m_ticks {N : Nat} (hN : N ≤ 100) : ∀ (d j B : Nat) (γ μ : ck_S), j + d = N → B + 2 * d ≤ 1000000 → RC n b B cap γ μ → μ.1 10 0 0 = 0 → (mTicks n b cap d μ).1 10 0 0 = 0 ∧ ∀ (γ0 : ck_S) (post : Int32 → ck_S → Prop), post ((mTicks n b cap d μ).1 10 0 28) (ck_mk γ0 (mTicks n b cap d μ)) → lk_3 (bd_X7_tick_33 n (32 * b) post) (d + 1) (ck_mk γ0 μ) (nI N) (nI j)
  | 0, j, B, γ, μ, hj, hB, h, h0 => by
    have e : j = N := hj
    subst e
    refine ⟨h0, fun γ0 post hp => ?_⟩
    show bd_X7_tick_33 n (32 * b) post _ (ck_mk γ0 μ) (nI j) (nI j)
    unfold bd_X7_tick_33 sp_X7_tick_164
    have e0 : ck_gi (ck_mk γ0 μ) 10 0 0 = 0 := h0
    rw [e0]
    exact kb_t (nI_le (Nat.le_refl _) (by omega)) (kb_t (by decide) hp)
  | d + 1, j, B, γ, μ, hj, hB, h, h0 => by
    rw [mTicks]
    by_cases a : μ.1 10 0 9 = 0
    · rw [if_pos a]
      obtain ⟨t1, t2⟩ := pm_tick (by omega) h
      obtain ⟨γ1, h1⟩ := im_tick (by omega) h
      obtain ⟨i1, i2⟩ := m_ticks hN d (j + 1) (B + 2) γ1 (mTickS n b cap μ) (by omega) (by omega) h1 (t2.trans h0)
      refine ⟨i1, fun γ0 post hp => ?_⟩
      show bd_X7_tick_33 n (32 * b) post (lk_3 (bd_X7_tick_33 n (32 * b) post) (d + 1)) (ck_mk γ0 μ) (nI N) (nI j)
      rw [bd_X7_tick_33]
      have e0 : ck_gi (ck_mk γ0 μ) 10 0 0 = 0 := h0
      have e9 : ck_gi (ck_mk γ0 μ) 10 0 9 = 0 := a
      rw [e0, e9]
      refine kb_f (nI_ge (by omega) (by omega)) (kn_f rfl (kn_f rfl (al_1 ?_)))
      refine t1 γ0 post _ _ _ ?_
      unfold sp_X7_tick_158
      rw [nI_1]
      exact al_1 (i2 γ0 post hp)
    · rw [if_neg a]
      refine ⟨h0, fun γ0 post hp => ?_⟩
      show bd_X7_tick_33 n (32 * b) post (lk_3 (bd_X7_tick_33 n (32 * b) post) (d + 1)) (ck_mk γ0 μ) (nI N) (nI j)
      rw [bd_X7_tick_33, sp_X7_tick_164]
      have e0 : ck_gi (ck_mk γ0 μ) 10 0 0 = 0 := h0
      rw [e0]
      exact kb_f (nI_ge (by omega) (by omega)) (kn_f rfl (kn_t a (kb_t (by decide) hp)))
end TICKS
section FACE
variable {n b B nc nb : Nat} {cap : Int} {σ : ck_S}
theorem v01 : vp_in 0 1 := vp_in_nI (n := 0) (by decide) (by decide)
theorem c_amount {z : UInt64} {k : Int} (hz : ck_dq z k 3) {lo hi : Int32} (h1 : -400000 ≤ lo.toInt) (h2 : hi.toInt ≤ 400000) {post : ck_S → Prop} {px : String → ck_S → Prop} (hin : 8 * lo.toInt ≤ k → k ≤ 8 * hi.toInt → post σ) (hout : ¬ (8 * lo.toInt ≤ k ∧ k ≤ 8 * hi.toInt) → px "java/lang/IllegalArgumentException" σ) : sp_X6_needAmount nc nb σ z lo hi post px := by
  unfold sp_X6_needAmount sp_X6_needAmount_34 sp_X6_needAmount_35
  rw [ck_dcmp hz (ck_dq_up 3 (ck_i2d lo)) (by decide), ck_dcmp hz (ck_dq_up 3 (ck_i2d hi)) (by decide)]
  simp only [cv_lt, cv_gt]
  refine ⟨fun a => kn_f trivial (hout (by omega)), fun a => ⟨fun c => kn_f trivial (hout (by omega)), fun c => ?_⟩⟩
  have dm := ck_dmul hz kd_8 (by omega) (by decide)
  refine ⟨ck_dq_n64 dm, ck_dq_n64 dm, ?_⟩
  have e : (k * 8).tdiv ((2 ^ (3 + 0) : Nat) : Int) = k := by
    rcases Int.le_total 0 k with q | q
    · rw [Int.tdiv_eq_ediv_of_nonneg (by omega)]
      omega
    · have : (k * 8).tdiv ((2 ^ (3 + 0) : Nat) : Int) = -((-(k * 8)).tdiv ((2 ^ (3 + 0) : Nat) : Int)) := by rw [Int.neg_tdiv, Int.neg_neg]
      rw [this, Int.tdiv_eq_ediv_of_nonneg (by omega)]
      omega
  have ed : FP.d2i (FP.dmul z 4620693217682128896) = Int32.ofInt k := by rw [ck_d2i dm (by rw [e]; omega) (by rw [e]; omega), e]
  have di := ck_i2d (FP.d2i (FP.dmul z 4620693217682128896))
  have ek : (FP.d2i (FP.dmul z 4620693217682128896)).toInt = k := by rw [ed, fb_ofI (by omega) (by omega)]
  rw [ek] at di
  rw [ck_dcmp dm (ck_dq_up 3 di) (by decide)]
  simp only [cv_eq]
  exact kn_f (by omega) (kn_t (by decide) (hin (by omega) (by omega)))
theorem d8 (v : Int32) : ck_dq (FP.dmul (FP.i2d v) 4593671619917905920) v.toInt 3 := by
  have r := fb_rng v
  have := ck_dmul (ck_i2d v) kd_8th (by omega) (by decide)
  rwa [Int.mul_one] at this
theorem d2l_8 {z : UInt64} {k : Int} (hz : ck_dq z k 3) (h : k.natAbs < 2 ^ 40) : vf_n64 (FP.dmul z 4620693217682128896) ∧ FP.d2l (FP.dmul z 4620693217682128896) = Int64.ofInt k := by
  have dm := ck_dmul hz kd_8 (by omega) (by decide)
  have e : (k * 8).tdiv ((2 ^ (3 + 0) : Nat) : Int) = k := by
    rcases Int.le_total 0 k with q | q
    · rw [Int.tdiv_eq_ediv_of_nonneg (by omega)]
      omega
    · have : (k * 8).tdiv ((2 ^ (3 + 0) : Nat) : Int) = -((-(k * 8)).tdiv ((2 ^ (3 + 0) : Nat) : Int)) := by rw [Int.neg_tdiv, Int.neg_neg]
      rw [this, Int.tdiv_eq_ediv_of_nonneg (by omega)]
      omega
  exact ⟨ck_dq_n64 dm, by rw [ck_d2l dm (by rw [e]; omega) (by rw [e]; omega), e]⟩
theorem ofI_L {k : Int} (h : k.natAbs < 2 ^ 40) : (Int64.ofInt k).toInt = k := by rw [Int64.toInt_ofInt, fb_bmodL (by omega) (by omega)]
end FACE
