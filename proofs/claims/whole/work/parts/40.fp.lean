/-! DOUBLES THAT ARE WHOLE MULTIPLES OF A POWER OF TWO: ck_dq x k Q: x is k / 2^Q exactly (zeros of both signs are 0). -/
def ck_sh (Q : Nat) : FP.Core.Datum → FP.Core.Datum
  | .fin s c q => .fin s c (q + Q)
  | d => d
def ck_dq (x : UInt64) (k : Int) (Q : Nat) : Prop := FP.Core.Whole k (ck_sh Q (FP.Core.val64 x))
theorem ck_dq_fin {x : UInt64} {k : Int} {Q : Nat} (h : ck_dq x k Q) : ∃ s c q, FP.Core.val64 x = .fin s c q ∧ FP.Core.Whole k (.fin s c (q + Q)) := by
  unfold ck_dq at h
  cases hv : FP.Core.val64 x with
  | nan => rw [hv] at h; exact h.elim
  | inf s => rw [hv] at h; exact h.elim
  | fin s c q => rw [hv] at h; exact ⟨s, c, q, rfl, h⟩
theorem ck_dq_nan {x : UInt64} {k : Int} {Q : Nat} (h : ck_dq x k Q) : FP.Core.val64 x ≠ .nan := by
  obtain ⟨s, c, q, hv, -⟩ := ck_dq_fin h
  rw [hv]; exact FP.Core.Datum.noConfusion
theorem ck_n64 {x : UInt64} (h : FP.Core.val64 x ≠ .nan) : vf_n64 x := by
  unfold vf_n64
  rw [FP.Core.ne_nan] at h
  rw [UInt64.le_iff_toNat_le, FP.Core.mask_toNat]
  exact h
theorem ck_dq_n64 {x : UInt64} {k : Int} {Q : Nat} (h : ck_dq x k Q) : vf_n64 x := ck_n64 (ck_dq_nan h)
theorem ck_sh_sum (Q : Nat) (x y : FP.Core.Datum) : ck_sh Q (FP.Core.exactSum x y) = FP.Core.exactSum (ck_sh Q x) (ck_sh Q y) := by
  cases x <;> cases y <;> try rfl
  · rename_i s t
    show ck_sh Q (if s = t then _ else _) = (if s = t then _ else _)
    split <;> rfl
  · rename_i s c q t d r
    have hm : min (q + (Q : Int)) (r + (Q : Int)) = min q r + (Q : Int) := by omega
    have hu : FP.Core.sumUnits s c (q + Q) t d (r + Q) (min q r + Q) = FP.Core.sumUnits s c q t d r (min q r) := by
      unfold FP.Core.sumUnits FP.Core.inUnits
      rw [show q + (Q : Int) - (min q r + Q) = q - min q r by omega, show r + (Q : Int) - (min q r + Q) = r - min q r by omega]
    show FP.Core.Datum.fin _ _ (min q r + Q) = FP.Core.Datum.fin (FP.Core.sumSign s t (FP.Core.sumUnits s c (q + Q) t d (r + Q) (min (q + Q) (r + Q)))) (FP.Core.sumUnits s c (q + Q) t d (r + Q) (min (q + Q) (r + Q))).natAbs (min (q + Q) (r + Q))
    rw [hm, hu]
theorem ck_sh_neg (Q : Nat) (x : FP.Core.Datum) : ck_sh Q (FP.Core.negate x) = FP.Core.negate (ck_sh Q x) := by cases x <;> rfl
theorem ck_sh_prod (Q R : Nat) (x y : FP.Core.Datum) (hx : ∃ s c q, x = .fin s c q) (hy : ∃ s c q, y = .fin s c q) : ck_sh (Q + R) (FP.Core.exactProduct x y) = FP.Core.exactProduct (ck_sh Q x) (ck_sh R y) := by
  obtain ⟨s, c, q, rfl⟩ := hx
  obtain ⟨t, d, r, rfl⟩ := hy
  show FP.Core.Datum.fin _ _ (q + r + ((Q + R : Nat) : Int)) = FP.Core.Datum.fin _ _ (q + Q + (r + R))
  congr 1
  omega
theorem ck_fit {n : Nat} (s : Bool) (h0 : n ≠ 0) (hn : n < 2 ^ 53) (Q : Nat) (hQ : Q ≤ 900) : ∃ c q, FP.Core.fits FP.Core.b64 (.fin s c q) ∧ n * 2 ^ (-(Q : Int) - q).toNat = c * 1 * 2 ^ (q - -(Q : Int)).toNat := by
  have l1 : 2 ^ n.log2 ≤ n := Nat.log2_self_le h0
  have l2 : n < 2 ^ (n.log2 + 1) := Nat.lt_log2_self
  have l3 : n.log2 < 53 := (Nat.pow_lt_pow_iff_right (by decide : 1 < 2)).mp (Nat.lt_of_le_of_lt l1 hn)
  generalize n.log2 = L at l1 l2 l3
  refine ⟨n * 2 ^ (52 - L), (L : Int) - 52 - Q, ⟨?_, ?_, ?_, .inr ?_⟩, ?_⟩
  · calc n * 2 ^ (52 - L) < 2 ^ (L + 1) * 2 ^ (52 - L) := Nat.mul_lt_mul_of_pos_right l2 (Nat.two_pow_pos _)
      _ = 2 ^ 53 := by rw [← Nat.pow_add]; congr 1; omega
  · show (2 - ((2 ^ (11 - 1) - 1 : Nat) : Int) - ((53 : Nat) : Int)) ≤ _
    omega
  · show _ ≤ (((2 ^ (11 - 1) - 1 : Nat) : Int) - ((53 : Nat) : Int) + 1)
    omega
  · calc 2 ^ 52 = 2 ^ L * 2 ^ (52 - L) := by rw [← Nat.pow_add]; congr 1; omega
      _ ≤ n * 2 ^ (52 - L) := Nat.mul_le_mul_right _ l1
  · rw [show (-(Q : Int) - ((L : Int) - 52 - Q)).toNat = 52 - L by omega, show ((L : Int) - 52 - Q - -(Q : Int)).toNat = 0 by omega]
    simp
/-- a magnitude that is K / 2^Q, K of at most 53 digits, rounds to itself -/
theorem ck_ratio {s : Bool} {A B K Q : Nat} {e : Int} (hB : 0 < B) (hK : K < 2 ^ 53) (hQ : Q ≤ 900) (h : A * 2 ^ (e + Q).toNat = K * B * 2 ^ (-(e + Q)).toNat) :
    ∃ c q, FP.Core.roundRatio FP.Core.b64 s A B e = .fin s c q ∧ c * 2 ^ (q + Q).toNat = K * 2 ^ (-(q + Q)).toNat := by
  by_cases h0 : K = 0
  · subst h0
    have hA : A = 0 := by
      rw [Nat.zero_mul, Nat.zero_mul] at h
      have p1 := Nat.two_pow_pos (e + Q).toNat
      rcases Nat.mul_eq_zero.mp h with h | h <;> omega
    subst hA
    exact ⟨0, _, by unfold FP.Core.roundRatio; rw [if_pos rfl], by simp⟩
  · obtain ⟨c, q, hf, hv⟩ := ck_fit s h0 hK Q hQ
    have e1 : FP.Core.roundRatio FP.Core.b64 s A B e = FP.Core.roundRatio FP.Core.b64 s K 1 (-(Q : Int)) := by
      refine FP.Core.roundRatio_congr hB (by decide) ?_
      rw [show e - -(Q : Int) = e + Q by omega, show -(Q : Int) - e = -(e + Q) by omega, Nat.mul_one]
      exact h
    rw [e1, FP.Core.roundRatio_exact FP.Core.good_b64 (by decide) hf hv]
    refine ⟨c, q, rfl, ?_⟩
    rw [show -(Q : Int) - q = -(q + Q) by omega, show q - -(Q : Int) = q + Q by omega, Nat.mul_one] at hv
    exact hv.symm
theorem ck_signed {s : Bool} {k : Int} {a b : Nat} (h : a = k.natAbs * b) (hs : k ≠ 0 → s = decide (k < 0)) : FP.Core.signed s a = k * (b : Int) := by
  rw [h, FP.Core.signed_mul]
  congr 1
  by_cases h0 : k = 0
  · rw [h0]; exact FP.Core.signed_zero s
  · rw [hs h0]
    unfold FP.Core.signed
    by_cases h : k < 0 <;> simp [h] <;> omega
theorem ck_rd {d : FP.Core.Datum} {k : Int} {Q : Nat} (h : FP.Core.Whole k (ck_sh Q d)) (hk : k.natAbs < 2 ^ 53) (hQ : Q ≤ 900) : FP.Core.Whole k (ck_sh Q (FP.Core.round FP.Core.b64 d)) := by
  cases d with
  | nan => exact h.elim
  | inf s => exact h.elim
  | fin s c q =>
    have h1 := FP.Core.whole_natAbs (h : FP.Core.Whole k (.fin s c (q + Q)))
    obtain ⟨c', q', e1, e2⟩ := ck_ratio (s := s) (A := c) (B := 1) (e := q) (by decide) hk hQ (by rw [Nat.mul_one]; exact h1)
    show FP.Core.Whole k (ck_sh Q (FP.Core.roundRatio FP.Core.b64 s c 1 q))
    rw [e1]
    exact ck_signed e2 (fun h0 => FP.Core.whole_sign (h : FP.Core.Whole k (.fin s c (q + Q))) h0)
theorem ck_dadd {x y : UInt64} {a b : Int} {Q : Nat} (hx : ck_dq x a Q) (hy : ck_dq y b Q) (h : (a + b).natAbs < 2 ^ 53) (hQ : Q ≤ 900) : ck_dq (FP.dadd x y) (a + b) Q := by
  show FP.Core.Whole _ (ck_sh Q (FP.Core.val64 (FP.Core.dadd x y)))
  rw [FP.Core.val64_dadd]
  exact ck_rd (by rw [ck_sh_sum]; exact FP.Core.whole_sum hx hy) h hQ
theorem ck_dsub {x y : UInt64} {a b : Int} {Q : Nat} (hx : ck_dq x a Q) (hy : ck_dq y b Q) (h : (a - b).natAbs < 2 ^ 53) (hQ : Q ≤ 900) : ck_dq (FP.dsub x y) (a - b) Q := by
  show FP.Core.Whole _ (ck_sh Q (FP.Core.val64 (FP.Core.dsub x y)))
  rw [FP.Core.val64_dsub]
  exact ck_rd (by rw [ck_sh_sum, ck_sh_neg, Int.sub_eq_add_neg]; exact FP.Core.whole_sum hx (FP.Core.whole_negate hy)) h hQ
theorem ck_dmul {x y : UInt64} {a b : Int} {Q R : Nat} (hx : ck_dq x a Q) (hy : ck_dq y b R) (h : (a * b).natAbs < 2 ^ 53) (hQ : Q + R ≤ 900) : ck_dq (FP.dmul x y) (a * b) (Q + R) := by
  obtain ⟨s, c, q, e1, -⟩ := ck_dq_fin hx
  obtain ⟨t, d, r, e2, -⟩ := ck_dq_fin hy
  show FP.Core.Whole _ (ck_sh (Q + R) (FP.Core.val64 (FP.Core.dmul x y)))
  rw [FP.Core.val64_dmul]
  exact ck_rd (by rw [ck_sh_prod _ _ _ _ ⟨_, _, _, e1⟩ ⟨_, _, _, e2⟩]; exact FP.Core.whole_product hx hy) h hQ
theorem ck_dneg {x : UInt64} {a : Int} {Q : Nat} (hx : ck_dq x a Q) : ck_dq (FP.dneg x) (-a) Q := by
  show FP.Core.Whole _ (ck_sh Q (FP.Core.val64 (FP.dneg x)))
  rw [FP.val64_dneg, ck_sh_neg]
  exact FP.Core.whole_negate hx
theorem ck_dq_of {x : UInt64} {k : Int} (h : FP.Core.Whole k (FP.Core.val64 x)) : ck_dq x k 0 := by
  unfold ck_dq
  cases hv : FP.Core.val64 x with
  | nan => rw [hv] at h; exact h.elim
  | inf s => rw [hv] at h; exact h.elim
  | fin s c q => rw [hv] at h; show FP.Core.Whole k (.fin s c (q + 0)); rw [Int.add_zero]; exact h
/-- a scale may be made finer -/
theorem ck_dq_up {x : UInt64} {k : Int} {Q : Nat} (P : Nat) (h : ck_dq x k Q) : ck_dq x (k * ((2 ^ P : Nat) : Int)) (Q + P) := by
  obtain ⟨s, c, q, hv, hw⟩ := ck_dq_fin h
  show FP.Core.Whole _ (ck_sh (Q + P) (FP.Core.val64 x))
  rw [hv]
  have h1 := FP.Core.whole_natAbs hw
  show FP.Core.signed s (c * 2 ^ (q + ((Q + P : Nat) : Int)).toNat) = _
  refine ck_signed ?_ (fun h0 => ?_)
  · refine Nat.eq_of_mul_eq_mul_right (Nat.two_pow_pos (-(q + (Q : Int))).toNat) ?_
    refine Nat.eq_of_mul_eq_mul_right (Nat.two_pow_pos ((q + (Q : Int))).toNat) ?_
    rw [Int.natAbs_mul, Int.natAbs_natCast]
    calc c * 2 ^ (q + ((Q + P : Nat) : Int)).toNat * 2 ^ (-(q + (Q : Int))).toNat * 2 ^ (q + (Q : Int)).toNat
        = (c * 2 ^ (q + (Q : Int)).toNat) * 2 ^ ((q + ((Q + P : Nat) : Int)).toNat + (-(q + (Q : Int))).toNat) := by simp only [Nat.pow_add]; ac_rfl
      _ = (k.natAbs * 2 ^ (-(q + (Q : Int))).toNat) * 2 ^ (P + (-(q + ((Q + P : Nat) : Int))).toNat + (q + (Q : Int)).toNat) := by rw [h1]; congr 2; omega
      _ = k.natAbs * 2 ^ P * 2 ^ (-(q + ((Q + P : Nat) : Int))).toNat * 2 ^ (-(q + (Q : Int))).toNat * 2 ^ (q + (Q : Int)).toNat := by simp only [Nat.pow_add]; ac_rfl
  · have hk : k ≠ 0 := fun e => h0 (by rw [e, Int.zero_mul])
    rw [FP.Core.whole_sign hw hk, decide_eq_decide]
    have p : (0 : Int) < ((2 ^ P : Nat) : Int) := by have := Nat.two_pow_pos P; omega
    constructor
    · intro hl; exact Int.mul_neg_of_neg_of_pos hl p
    · intro hl
      refine Int.lt_of_not_ge fun hge => ?_
      have := Int.mul_nonneg hge (Int.le_of_lt p)
      omega
theorem ck_i2d (x : Int32) : ck_dq (FP.i2d x) x.toInt 0 := by
  refine ck_dq_of ?_
  show FP.Core.Whole _ (FP.Core.val64 (FP.Core.i2d x))
  rw [FP.Core.val64_i2d]
  have h1 := x.toInt_lt
  have h2 := x.le_toInt
  exact FP.Core.whole_round FP.Core.good_b64 FP.Core.wide_b64 (by show _ ≤ 2 ^ 53; omega) (FP.Core.whole_ofInt _)
theorem ck_l2d {x : Int64} (h : x.toInt.natAbs < 2 ^ 53) : ck_dq (FP.l2d x) x.toInt 0 := by
  refine ck_dq_of ?_
  show FP.Core.Whole _ (FP.Core.val64 (FP.Core.l2d x))
  rw [FP.Core.val64_l2d]
  exact FP.Core.whole_round FP.Core.good_b64 FP.Core.wide_b64 (by show _ ≤ 2 ^ 53; omega) (FP.Core.whole_ofInt _)
theorem ck_zval {x : UInt64} {k : Int} {Q : Nat} (h : ck_dq x k Q) (hQ : Q ≤ 1074) : FP.Core.zval FP.Core.b64 (FP.Core.val64 x) = k * ((2 ^ (1074 - Q) : Nat) : Int) := by
  obtain ⟨s, c, q, hv, hw⟩ := ck_dq_fin h
  have hf := FP.Core.val64_fits x
  rw [hv] at hf ⊢
  have hq : (-1074 : Int) ≤ q := by
    have := hf.2.1
    have e : FP.Core.b64.qmin = -1074 := by decide
    omega
  have hu := FP.Core.whole_units hw (e := (Q : Int) - 1074) (by omega)
  rw [show ((Q : Int) - 1074).toNat = 0 by omega, show (-((Q : Int) - 1074)).toNat = 1074 - Q by omega] at hu
  show FP.Core.signed s (FP.Core.inUnits c q FP.Core.b64.qmin) = _
  rw [← hu, show FP.Core.b64.qmin = -1074 by decide]
  unfold FP.Core.inUnits
  rw [show q + (Q : Int) - ((Q : Int) - 1074) = q - -1074 by omega]
  simp
theorem ck_compare_mul (a b : Int) {P : Int} (hP : 0 < P) : compare (a * P) (b * P) = compare a b := by
  rw [FP.Core.compare_ite, FP.Core.compare_ite]
  have h1 : a * P < b * P ↔ a < b := ⟨fun h => Int.lt_of_mul_lt_mul_right h (Int.le_of_lt hP), fun h => Int.mul_lt_mul_of_pos_right h hP⟩
  have h2 : a * P = b * P ↔ a = b := ⟨fun h => Int.eq_of_mul_eq_mul_right (by omega) h, fun h => by rw [h]⟩
  simp only [h1, h2]
theorem ck_dcmp {x y : UInt64} {a b : Int} {Q : Nat} (hx : ck_dq x a Q) (hy : ck_dq y b Q) (hQ : Q ≤ 1074) : FP.dcmp x y = some (compare a b) := by
  show FP.Core.dcmp x y = _
  rw [FP.Core.dcmp_zval (ck_dq_nan hx) (ck_dq_nan hy), ck_zval hx hQ, ck_zval hy hQ]
  rw [ck_compare_mul]
  have := Nat.two_pow_pos (1074 - Q)
  omega
theorem ck_div_eq {a b a' b' : Nat} (hb : 0 < b) (hb' : 0 < b') (h : a * b' = a' * b) : a / b = a' / b' := by
  rw [← Nat.mul_div_mul_right a b hb', h, Nat.mul_comm b b', Nat.mul_div_mul_right a' b' hb]
theorem ck_trunc {s : Bool} {c : Nat} {q k : Int} {Q : Nat} (h : FP.Core.Whole k (.fin s c (q + Q))) : FP.Core.truncate s c q = k.tdiv ((2 ^ Q : Nat) : Int) := by
  have h1 := FP.Core.whole_natAbs h
  unfold FP.Core.truncate
  have e1 : c * 2 ^ q.toNat / 2 ^ (-q).toNat = k.natAbs / 2 ^ Q := by
    refine ck_div_eq (Nat.two_pow_pos _) (Nat.two_pow_pos _) ?_
    refine Nat.eq_of_mul_eq_mul_right (Nat.two_pow_pos (-(q + (Q : Int))).toNat) ?_
    calc c * 2 ^ q.toNat * 2 ^ Q * 2 ^ (-(q + (Q : Int))).toNat
        = c * 2 ^ (q.toNat + Q + (-(q + (Q : Int))).toNat) := by simp only [Nat.pow_add]; ac_rfl
      _ = c * 2 ^ ((q + (Q : Int)).toNat + (-q).toNat) := by congr 2; omega
      _ = (c * 2 ^ (q + (Q : Int)).toNat) * 2 ^ (-q).toNat := by simp only [Nat.pow_add]; ac_rfl
      _ = k.natAbs * 2 ^ (-q).toNat * 2 ^ (-(q + (Q : Int))).toNat := by rw [h1]; ac_rfl
  rw [e1]
  have hs : k ≠ 0 → s = decide (k < 0) := fun h0 => FP.Core.whole_sign h h0
  rcases Int.lt_trichotomy k 0 with hk | hk | hk
  · rw [hs (by omega)]
    obtain ⟨n, rfl⟩ : ∃ n : Nat, k = -(n : Int) := ⟨k.natAbs, by omega⟩
    rw [Int.neg_tdiv, ← Int.ofNat_tdiv]
    unfold FP.Core.signed
    rw [if_pos (by simpa using hk), Int.natAbs_neg, Int.natAbs_natCast]
  · subst hk
    simp [FP.Core.signed_zero]
  · rw [hs (by omega)]
    obtain ⟨n, rfl⟩ : ∃ n : Nat, k = (n : Int) := ⟨k.natAbs, by omega⟩
    rw [← Int.ofNat_tdiv]
    unfold FP.Core.signed
    rw [if_neg (by simp), Int.natAbs_natCast]
theorem ck_d2i {x : UInt64} {k : Int} {Q : Nat} (h : ck_dq x k Q) (h1 : -2147483648 ≤ k.tdiv ((2 ^ Q : Nat) : Int)) (h2 : k.tdiv ((2 ^ Q : Nat) : Int) < 2147483648) : FP.d2i x = Int32.ofInt (k.tdiv ((2 ^ Q : Nat) : Int)) := by
  obtain ⟨s, c, q, hv, hw⟩ := ck_dq_fin h
  show FP.Core.toI (FP.Core.decode FP.Core.b64 x.toNat) = _
  have hv' : FP.Core.decode FP.Core.b64 x.toNat = .fin s c q := hv
  rw [hv']
  show Int32.ofInt (max (-2 ^ 31) (min (2 ^ 31 - 1) (FP.Core.truncate s c q))) = _
  rw [ck_trunc hw]
  congr 1
  generalize k.tdiv ((2 ^ Q : Nat) : Int) = t at h1 h2 ⊢
  have e1 : (-2 ^ 31 : Int) = -2147483648 := by decide
  have e2 : (2 ^ 31 - 1 : Int) = 2147483647 := by decide
  rw [e1, e2]
  omega
theorem ck_d2l {x : UInt64} {k : Int} {Q : Nat} (h : ck_dq x k Q) (h1 : -9223372036854775808 ≤ k.tdiv ((2 ^ Q : Nat) : Int)) (h2 : k.tdiv ((2 ^ Q : Nat) : Int) < 9223372036854775808) : FP.d2l x = Int64.ofInt (k.tdiv ((2 ^ Q : Nat) : Int)) := by
  obtain ⟨s, c, q, hv, hw⟩ := ck_dq_fin h
  show FP.Core.toL (FP.Core.decode FP.Core.b64 x.toNat) = _
  have hv' : FP.Core.decode FP.Core.b64 x.toNat = .fin s c q := hv
  rw [hv']
  show Int64.ofInt (max (-2 ^ 63) (min (2 ^ 63 - 1) (FP.Core.truncate s c q))) = _
  rw [ck_trunc hw]
  congr 1
  generalize k.tdiv ((2 ^ Q : Nat) : Int) = t at h1 h2 ⊢
  have e1 : (-2 ^ 63 : Int) = -9223372036854775808 := by decide
  have e2 : (2 ^ 63 - 1 : Int) = 9223372036854775807 := by decide
  rw [e1, e2]
  omega
/-- division by a power of two -/
theorem ck_ddiv2 {x y : UInt64} {a : Int} {Q T : Nat} (hx : ck_dq x a Q) (hy : ck_dq y ((2 ^ T : Nat) : Int) 0) (h : a.natAbs < 2 ^ 53) (hQ : Q + T ≤ 900) : ck_dq (FP.ddiv x y) a (Q + T) := by
  obtain ⟨s, c, q, e1, w1⟩ := ck_dq_fin hx
  obtain ⟨t, d, r, e2, w2⟩ := ck_dq_fin hy
  have h1 := FP.Core.whole_natAbs w1
  have h2 := FP.Core.whole_natAbs w2
  rw [Int.natAbs_natCast, show r + ((0 : Nat) : Int) = r by omega] at h2
  have hd : d ≠ 0 := by
    intro e
    rw [e, Nat.zero_mul] at h2
    have p1 := Nat.two_pow_pos T
    have p2 := Nat.two_pow_pos (-r).toNat
    rcases Nat.mul_eq_zero.mp h2.symm with h | h <;> omega
  have ht : t = false := by
    have p1 : (0 : Int) < ((2 ^ T : Nat) : Int) := by have := Nat.two_pow_pos T; omega
    rw [FP.Core.whole_sign w2 (by omega)]
    exact decide_eq_false (by omega)
  obtain ⟨c', q', e3, e4⟩ := ck_ratio (s := (s != t)) (A := c) (B := d) (K := a.natAbs) (Q := Q + T) (e := q - r) (Nat.pos_of_ne_zero hd) h hQ (by
    refine Nat.eq_of_mul_eq_mul_right (Nat.two_pow_pos ((q + (Q : Int)).toNat + r.toNat)) ?_
    calc c * 2 ^ (q - r + ((Q + T : Nat) : Int)).toNat * 2 ^ ((q + (Q : Int)).toNat + r.toNat)
        = (c * 2 ^ (q + (Q : Int)).toNat) * 2 ^ ((q - r + ((Q + T : Nat) : Int)).toNat + r.toNat) := by simp only [Nat.pow_add]; ac_rfl
      _ = a.natAbs * (2 ^ (-(q + (Q : Int))).toNat * 2 ^ ((q - r + ((Q + T : Nat) : Int)).toNat + r.toNat)) := by rw [h1]; ac_rfl
      _ = a.natAbs * (2 ^ T * 2 ^ (-r).toNat * 2 ^ ((-(q - r + ((Q + T : Nat) : Int))).toNat + (q + (Q : Int)).toNat)) := by
          congr 1
          rw [← Nat.pow_add, ← Nat.pow_add, ← Nat.pow_add]
          congr 1
          omega
      _ = a.natAbs * (d * 2 ^ r.toNat * 2 ^ ((-(q - r + ((Q + T : Nat) : Int))).toNat + (q + (Q : Int)).toNat)) := by rw [h2]
      _ = a.natAbs * d * 2 ^ (-(q - r + ((Q + T : Nat) : Int))).toNat * 2 ^ ((q + (Q : Int)).toNat + r.toNat) := by simp only [Nat.pow_add]; ac_rfl)
  show FP.Core.Whole _ (ck_sh (Q + T) (FP.Core.val64 (FP.Core.ddiv x y)))
  rw [FP.Core.val64_ddiv, e1, e2]
  show FP.Core.Whole _ (ck_sh (Q + T) (if d = 0 then _ else FP.Core.roundRatio FP.Core.b64 (s != t) c d (q - r)))
  rw [if_neg hd, e3]
  refine ck_signed e4 (fun h0 => ?_)
  rw [ht, FP.Core.whole_sign w1 h0]
  simp
theorem ck_zmag_i2d {n : Nat} (h : n < 2147483648) : FP.Core.zmag FP.Core.b64 (FP.Core.val64 (FP.i2d (nI n))) = n * 2 ^ 1074 := by
  have h1 := ck_zval (ck_i2d (nI n)) (by decide : 0 ≤ 1074)
  rw [nI_toInt h] at h1
  have h2 := congrArg Int.natAbs h1
  unfold FP.Core.zval at h2
  rw [FP.Core.natAbs_signed, Int.natAbs_mul, Int.natAbs_natCast, Int.natAbs_natCast] at h2
  exact h2
/-- the quotient of two numbers, cut off: the whole part, or one more where it was rounded up to that -/
theorem ck_floor {x y : UInt64} {p C Q : Nat} (hx : ck_dq x (p : Int) Q) (hy : ck_dq y (C : Int) 0) (hC : 0 < C) (hk : p / (C * 2 ^ Q) + 1 < 2147483648) :
    vf_n64 (FP.ddiv x y) ∧ ∃ k : Nat, FP.d2i (FP.ddiv x y) = nI k ∧ (k = p / (C * 2 ^ Q) ∨ k = p / (C * 2 ^ Q) + 1) := by
  obtain ⟨s, c, q, e1, w1⟩ := ck_dq_fin hx
  obtain ⟨t, d, r, e2, w2⟩ := ck_dq_fin hy
  have h1 := FP.Core.whole_natAbs w1
  have h2 := FP.Core.whole_natAbs w2
  rw [Int.natAbs_natCast] at h1
  rw [Int.natAbs_natCast, show r + ((0 : Nat) : Int) = r by omega] at h2
  have hd : d ≠ 0 := by
    intro e
    rw [e, Nat.zero_mul] at h2
    have p2 := Nat.two_pow_pos (-r).toNat
    rcases Nat.mul_eq_zero.mp h2.symm with h | h <;> omega
  have ht : t = false := by
    rw [FP.Core.whole_sign w2 (by omega)]
    exact decide_eq_false (by omega)
  have hV : FP.Core.val64 (FP.ddiv x y) = FP.Core.roundRatio FP.Core.b64 (s != t) c d (q - r) := by
    show FP.Core.val64 (FP.Core.ddiv x y) = _
    rw [FP.Core.val64_ddiv, e1, e2]
    show (if d = 0 then _ else FP.Core.roundRatio FP.Core.b64 (s != t) c d (q - r)) = _
    rw [if_neg hd]
  have hnn : FP.Core.val64 (FP.ddiv x y) ≠ .nan := by rw [hV]; exact FP.Core.roundRatio_ne_nan _ _ _ _ _
  refine ⟨ck_n64 hnn, ?_⟩
  have hDpos : 0 < C * 2 ^ Q := Nat.mul_pos hC (Nat.two_pow_pos _)
  have hlo : p / (C * 2 ^ Q) * (C * 2 ^ Q) ≤ p := Nat.div_mul_le_self _ _
  have hhi : p ≤ (p / (C * 2 ^ Q) + 1) * (C * 2 ^ Q) := by
    have := Nat.lt_div_mul_add (a := p) hDpos
    rw [Nat.add_mul, Nat.one_mul]
    omega
  generalize hk0 : p / (C * 2 ^ Q) = k0 at hk hlo hhi ⊢
  obtain ⟨e0, he0⟩ : ∃ z : Int, z = min (-1074) (q - r) := ⟨_, rfl⟩
  have hqm : FP.Core.b64.qmin = -1074 := by decide
  -- both sides times the same power of two
  obtain ⟨T, hT⟩ : ∃ T : Nat, T = 1074 := ⟨_, rfl⟩
  have key : ∀ n : Nat, n * 2 ^ T * 2 ^ (FP.Core.b64.qmin - e0).toNat * d * 2 ^ ((q + (Q : Int)).toNat + r.toNat) = n * (C * 2 ^ Q) * 2 ^ ((-(q + (Q : Int))).toNat + (q - r - e0).toNat + r.toNat) := by
    intro n
    rw [hqm]
    calc n * 2 ^ T * 2 ^ (-1074 - e0).toNat * d * 2 ^ ((q + (Q : Int)).toNat + r.toNat)
        = n * (2 ^ T * 2 ^ (-1074 - e0).toNat * 2 ^ (q + (Q : Int)).toNat * (d * 2 ^ r.toNat)) := by simp only [Nat.pow_add]; ac_rfl
      _ = n * (2 ^ T * 2 ^ (-1074 - e0).toNat * 2 ^ (q + (Q : Int)).toNat * (C * 2 ^ (-r).toNat)) := by rw [h2]
      _ = n * C * (2 ^ T * 2 ^ (-1074 - e0).toNat * 2 ^ (q + (Q : Int)).toNat * 2 ^ (-r).toNat) := by ac_rfl
      _ = n * C * (2 ^ Q * 2 ^ ((-(q + (Q : Int))).toNat + (q - r - e0).toNat + r.toNat)) := by
          congr 1
          rw [← Nat.pow_add, ← Nat.pow_add, ← Nat.pow_add, ← Nat.pow_add]
          congr 1
          omega
      _ = n * (C * 2 ^ Q) * 2 ^ ((-(q + (Q : Int))).toNat + (q - r - e0).toNat + r.toNat) := by ac_rfl
  rw [hT] at key
  have keyc : FP.Core.inUnits c (q - r) e0 * 2 ^ ((q + (Q : Int)).toNat + r.toNat) = p * 2 ^ ((-(q + (Q : Int))).toNat + (q - r - e0).toNat + r.toNat) := by
    unfold FP.Core.inUnits
    calc c * 2 ^ (q - r - e0).toNat * 2 ^ ((q + (Q : Int)).toNat + r.toNat)
        = (c * 2 ^ (q + (Q : Int)).toNat) * (2 ^ (q - r - e0).toNat * 2 ^ r.toNat) := by simp only [Nat.pow_add]; ac_rfl
      _ = p * 2 ^ ((-(q + (Q : Int))).toNat + (q - r - e0).toNat + r.toNat) := by rw [h1]; simp only [Nat.pow_add]; ac_rfl
  have z1 := FP.Core.zmag_roundRatio_ge FP.Core.good_b64 (s := (s != t)) (A := c) (B := d) (e := q - r) (e0 := e0) (V := FP.Core.val64 (FP.i2d (nI k0))) (Nat.pos_of_ne_zero hd) (FP.Core.val64_fits _) (by omega) (by omega) (by
    rw [ck_zmag_i2d (by omega)]
    refine Nat.le_of_mul_le_mul_right (c := 2 ^ ((q + (Q : Int)).toNat + r.toNat)) ?_ (Nat.two_pow_pos _)
    rw [key, keyc]
    exact Nat.mul_le_mul_right _ hlo)
  have z2 := FP.Core.zmag_roundRatio_le FP.Core.good_b64 (s := (s != t)) (A := c) (B := d) (e := q - r) (e0 := e0) (V := FP.Core.val64 (FP.i2d (nI (k0 + 1)))) (Nat.pos_of_ne_zero hd) (FP.Core.val64_fits _) (ck_dq_nan (ck_i2d _)) (by omega) (by omega) (by
    rw [ck_zmag_i2d (by omega)]
    refine Nat.le_of_mul_le_mul_right (c := 2 ^ ((q + (Q : Int)).toNat + r.toNat)) ?_ (Nat.two_pow_pos _)
    rw [key, keyc]
    exact Nat.mul_le_mul_right _ hhi)
  rw [ck_zmag_i2d (by omega), ← hV] at z1 z2
  cases hv : FP.Core.val64 (FP.ddiv x y) with
  | nan => exact absurd hv hnn
  | inf u =>
    rw [hv] at z2
    have e : FP.Core.zmag FP.Core.b64 (.inf u) = 2 ^ 52 * 2 ^ 2046 := by
      cases u <;> decide +kernel
    rw [e] at z2
    have h3 : (k0 + 1) * 2 ^ 1074 < 2147483648 * 2 ^ 1074 := Nat.mul_lt_mul_of_pos_right hk (Nat.two_pow_pos _)
    have h4 : 2147483648 * 2 ^ 1074 ≤ 2 ^ 52 * 2 ^ 2046 := by
      rw [show 2147483648 = 2 ^ 31 from rfl, ← Nat.pow_add, ← Nat.pow_add]
      exact Nat.pow_le_pow_right (by decide) (by decide)
    omega
  | fin u c' q' =>
    have hf := FP.Core.val64_fits (FP.ddiv x y)
    rw [hv] at z1 z2 hf
    have hq' : (-1074 : Int) ≤ q' := by have := hf.2.1; omega
    have hz : FP.Core.zmag FP.Core.b64 (.fin u c' q') = c' * 2 ^ (q' + 1074).toNat := by
      show c' * 2 ^ (q' - FP.Core.b64.qmin).toNat = _
      rw [hqm, show q' - -1074 = q' + 1074 by omega]
    rw [hz] at z1 z2
    have ht2 : c' * 2 ^ q'.toNat / 2 ^ (-q').toNat = c' * 2 ^ (q' + 1074).toNat / 2 ^ 1074 := by
      refine ck_div_eq (Nat.two_pow_pos _) (Nat.two_pow_pos _) ?_
      rw [Nat.mul_assoc, Nat.mul_assoc, ← Nat.pow_add, ← Nat.pow_add]
      congr 2
      omega
    have hb1 : k0 ≤ c' * 2 ^ (q' + 1074).toNat / 2 ^ 1074 := (Nat.le_div_iff_mul_le (Nat.two_pow_pos _)).mpr z1
    have hb2 : c' * 2 ^ (q' + 1074).toNat / 2 ^ 1074 ≤ k0 + 1 := by
      have := Nat.div_le_div_right (c := 2 ^ 1074) z2
      rw [Nat.mul_div_cancel _ (Nat.two_pow_pos _)] at this
      exact this
    refine ⟨c' * 2 ^ (q' + 1074).toNat / 2 ^ 1074, ?_, by omega⟩
    have hs : FP.Core.signed u (c' * 2 ^ q'.toNat / 2 ^ (-q').toNat) = ((c' * 2 ^ (q' + 1074).toNat / 2 ^ 1074 : Nat) : Int) := by
      rw [ht2]
      by_cases hc : c = 0
      · have hr0 : FP.Core.roundRatio FP.Core.b64 (s != t) c d (q - r) = .fin (s != t) 0 FP.Core.b64.qmin := by unfold FP.Core.roundRatio; rw [if_pos hc]
        rw [← hV, hv] at hr0
        cases hr0
        simp [FP.Core.signed_zero]
      · have hp : (p : Int) ≠ 0 := fun e => hc ((FP.Core.whole_zero w1).mpr e)
        have hs1 : s = false := by
          rw [FP.Core.whole_sign w1 hp]
          exact decide_eq_false (by omega)
        have hu : u = (s != t) := by
          have := FP.Core.sgn_roundRatio FP.Core.b64 (s != t) c d (q - r)
          rw [← hV, hv] at this
          exact this
        rw [hu, hs1, ht]
        rfl
    show FP.Core.toI (FP.Core.decode FP.Core.b64 (FP.ddiv x y).toNat) = _
    have hv' : FP.Core.decode FP.Core.b64 (FP.ddiv x y).toNat = .fin u c' q' := hv
    rw [hv']
    show Int32.ofInt (max (-2 ^ 31) (min (2 ^ 31 - 1) (FP.Core.signed u (c' * 2 ^ q'.toNat / 2 ^ (-q').toNat)))) = _
    rw [hs]
    generalize c' * 2 ^ (q' + 1074).toNat / 2 ^ 1074 = kk at hb1 hb2 ⊢
    have e1 : (-2 ^ 31 : Int) = -2147483648 := by decide
    have e2 : (2 ^ 31 - 1 : Int) = 2147483647 := by decide
    rw [e1, e2, show max (-2147483648 : Int) (min 2147483647 (kk : Int)) = (kk : Int) by omega]
    rfl
