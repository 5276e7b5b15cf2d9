/-! THE START: what the two constructors make stands in the relation. -/
theorem nr_ex (x : Int32) {lo hi : Nat} (h : lo ≤ hi) (hh : hi < 2 ^ 31) : ∃ k, lo ≤ k ∧ k ≤ hi ∧ ck_near x (nI lo) (nI hi) = nI k ∧ ck_nearM x (nI lo) (nI hi) = nI k := by
  unfold ck_near ck_nearM
  have e1 := nI_toInt (n := lo) (by omega)
  have e2 := nI_toInt hh
  by_cases c1 : x < nI lo
  · rw [Int32.lt_iff_toInt_lt] at c1
    refine ⟨lo, Nat.le_refl _, h, ?_, ?_⟩
    · have c2 : x < nI hi := by rw [Int32.lt_iff_toInt_lt]; omega
      have c3 : ¬ nI lo < x := by rw [Int32.lt_iff_toInt_lt]; omega
      rw [if_pos c2, if_neg c3]
    · rw [if_neg (by rw [Int32.le_iff_toInt_le]; omega)]
  · rw [Int32.lt_iff_toInt_lt] at c1
    obtain ⟨j, hj, rfl⟩ := nI_of (x := x) (fun q => by
      rw [Int32.lt_iff_toInt_lt] at q
      have : (0 : Int32).toInt = 0 := by decide
      omega)
    have e3 := nI_toInt hj
    by_cases c2 : j < hi
    · refine ⟨j, by omega, by omega, ?_, ?_⟩
      · rw [if_pos (nI_lt c2 hh)]
        by_cases c3 : lo < j
        · rw [if_pos (nI_lt c3 hj)]
        · rw [if_neg (nI_nlt (by omega) (by omega)), show lo = j by omega]
      · rw [if_pos (nI_le (by omega) hj), if_pos (nI_le (by omega) hh)]
    · refine ⟨hi, h, Nat.le_refl _, ?_, ?_⟩
      · rw [if_neg (nI_nlt (by omega) hj)]
        by_cases c3 : lo < hi
        · rw [if_pos (nI_lt c3 hh)]
        · rw [if_neg (nI_nlt (by omega) (by omega)), show lo = hi by omega]
      · rw [if_pos (nI_le (by omega) hj)]
        by_cases c4 : j = hi
        · subst c4
          rw [if_pos (nI_le (Nat.le_refl _) hh)]
        · rw [if_neg (nI_ge (by omega) hj)]
theorem bst_0 (b : Nat) : ∀ j, bst (fun _ => 0) b j = 0
  | 0 => rfl
  | j + 1 => by
    rw [bst, if_neg]
    · exact bst_0 b j
    · intro q
      have h := (right_v q.1).1
      rw [show vN (fun _ => 0) j = 0 from (by decide : (nuC (fun _ => 0) 4).toBitVec.toNat = 0)] at h
      omega
theorem in_ex (a0 a1 a2 a3 a4 : Int32) : ∃ (n b : Nat) (cap : Int), (1 ≤ n ∧ n ≤ 4) ∧ (2 ≤ b ∧ b ≤ 16) ∧ ck_near a0 1 4 = nI n ∧ ck_near a1 2 16 = nI b ∧
    sp_X6_beginAnew n (32 * b) (ck_s1 (nI b) (ck_near a2 1 4000 * 100) (ck_near a4 1 50) (ck_near a3 1 20)) (fun σ => σ = cBegT n (ck_s1 (nI b) (ck_near a2 1 4000 * 100) (ck_near a4 1 50) (ck_near a3 1 20))) ∧
    sp_X7_begin 0 0 (ck_s2 (ck_nearM a0 1 4) (ck_nearM a1 2 16) (ck_nearM a3 1 20) (ck_nearM a4 1 50) (100 * (ck_nearM a2 1 4000).toInt64)) (fun σ => σ = mBegT (ck_s2 (ck_nearM a0 1 4) (ck_nearM a1 2 16) (ck_nearM a3 1 20) (ck_nearM a4 1 50) (100 * (ck_nearM a2 1 4000).toInt64))) ∧
    RC n b 0 cap (cBegT n (ck_s1 (nI b) (ck_near a2 1 4000 * 100) (ck_near a4 1 50) (ck_near a3 1 20))) (mBegT (ck_s2 (ck_nearM a0 1 4) (ck_nearM a1 2 16) (ck_nearM a3 1 20) (ck_nearM a4 1 50) (100 * (ck_nearM a2 1 4000).toInt64))) := by
  obtain ⟨n, n1, n2, n3, n4⟩ := nr_ex a0 (lo := 1) (hi := 4) (by decide) (by decide)
  obtain ⟨b, b1, b2, b3, b4⟩ := nr_ex a1 (lo := 2) (hi := 16) (by decide) (by decide)
  obtain ⟨k, k1, k2, k3, k4⟩ := nr_ex a2 (lo := 1) (hi := 4000) (by decide) (by decide)
  obtain ⟨d, d1, d2, d3, d4⟩ := nr_ex a3 (lo := 1) (hi := 20) (by decide) (by decide)
  obtain ⟨v, v1, v2, v3, v4⟩ := nr_ex a4 (lo := 1) (hi := 50) (by decide) (by decide)
  have n3 : ck_near a0 1 4 = nI n := n3
  have n4 : ck_nearM a0 1 4 = nI n := n4
  have b3 : ck_near a1 2 16 = nI b := b3
  have b4 : ck_nearM a1 2 16 = nI b := b4
  have k3 : ck_near a2 1 4000 = nI k := k3
  have k4 : ck_nearM a2 1 4000 = nI k := k4
  have d3 : ck_near a3 1 20 = nI d := d3
  have d4 : ck_nearM a3 1 20 = nI d := d4
  have v3 : ck_near a4 1 50 = nI v := v3
  have v4 : ck_nearM a4 1 50 = nI v := v4
  rw [n3, b3, n4, b4, k3, k4, d3, d4, v3, v4]
  have eJ : (ck_s2 (nI n) (nI b) (nI d) (nI v) (100 * (nI k).toInt64)).1 11 0 = fun _ => 0 := by
    funext x
    simp [ck_s2]
  have e100 : nI k * 100 = nI (k * 100) := pk_mul k 100
  have eL : 100 * (nI k).toInt64 = lN (100 * k) := by
    rw [nI_l (by omega)]
    exact (Int64.ofNat_mul 100 k).symm
  refine ⟨n, b, ((100 * k : Nat) : Int), ⟨n1, n2⟩, ⟨b1, b2⟩, rfl, rfl, c_beginAnew n2 rfl, ?_, ?_⟩
  · refine m_begin (J := fun _ => 0) (b := b) (fun _ _ => ⟨0, by decide, rfl⟩) eJ b1 b2 (by simp [ck_s2]) ?_
    rw [if_pos (bst_0 b b)]
  · refine beg_rel ⟨n1, n2, b1, b2, by omega, by omega, ?_, ?_, ?_, ?_, ?_, ?_, ?_, ?_⟩ ?_ ?_ ?_ ?_
    · show (nI k * 100).toInt = _
      rw [e100, nI_toInt (by omega), Nat.mul_comm]
    · show (100 * (nI k).toInt64).toInt = _
      rw [eL, lN_toInt (by omega)]
    · simp [ck_s2]
    · simp [ck_s2]
    · simp [ck_s1]
    · simp [ck_s1, ck_s2]
    · show ¬ nI v = 0
      exact nI_ne0 (by omega) (by omega)
    · simp [ck_s1, ck_s2]
    · rw [eJ]
      exact fun _ _ => ⟨0, by decide, rfl⟩
    · rw [eJ]
      intro x _
      simp [ck_s1]
      decide
    · intro x _ _
      simp [ck_s1]
    · intro c _ j _
      show ck_dq FP.dconst0 (0 : Int64).toInt 3 ∧ -16000 ≤ (0 : Int64).toInt ∧ (0 : Int64).toInt ≤ 16000
      exact ⟨kd_0Q 3, by decide, by decide⟩
