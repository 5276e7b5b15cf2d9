/-! BITS: rows of the kit's BITS.to-paste (bt, b_*, s_l, s_u), the same for Int64 (bl), and the CHECK of both programs. -/
def bt (x : Int32) (i : Nat) : Bool := x.toBitVec.getLsbD i
theorem b_ext {x y : Int32} (h : ∀ i, i < 32 → bt x i = bt y i) : x = y := Int32.toBitVec_inj.mp (BitVec.eq_of_getLsbD_eq (fun i hi => h i hi))
theorem b_or (x y : Int32) (i : Nat) : bt (x ||| y) i = (bt x i || bt y i) := by unfold bt; rw [Int32.toBitVec_or, BitVec.getLsbD_or]
theorem b_and (x y : Int32) (i : Nat) : bt (x &&& y) i = (bt x i && bt y i) := by unfold bt; rw [Int32.toBitVec_and, BitVec.getLsbD_and]
theorem b_xor (x y : Int32) (i : Nat) : bt (x ^^^ y) i = (bt x i ^^ bt y i) := by unfold bt; rw [Int32.toBitVec_xor, BitVec.getLsbD_xor]
theorem b_big {x : Int32} {i : Nat} (h : 32 ≤ i) : bt x i = false := BitVec.getLsbD_of_ge _ _ h
theorem b_255 (i : Nat) : bt 255 i = decide (i < 8) := by
  rcases Nat.lt_or_ge i 32 with h | h
  · exact (by decide +kernel : ∀ i, i < 32 → bt 255 i = decide (i < 8)) i h
  · rw [b_big h, decide_eq_false (by omega)]
theorem b_65535 (i : Nat) : bt 65535 i = decide (i < 16) := by
  rcases Nat.lt_or_ge i 32 with h | h
  · exact (by decide +kernel : ∀ i, i < 32 → bt 65535 i = decide (i < 16)) i h
  · rw [b_big h, decide_eq_false (by omega)]
theorem b_1 (i : Nat) : bt 1 i = decide (i = 0) := by
  rcases Nat.lt_or_ge i 32 with h | h
  · exact (by decide +kernel : ∀ i, i < 32 → bt 1 i = decide (i = 0)) i h
  · rw [b_big h, decide_eq_false (by omega)]
theorem b_m1 : ∀ i, i < 32 → bt (-1) i = true := by decide +kernel
theorem b_0 (i : Nat) : bt 0 i = false := BitVec.getLsbD_zero
theorem s_l : ∀ n, n < 32 → ((nI n &&& 31).toBitVec.smod 32).toNat = n := by decide +kernel
theorem s_u : ∀ n, n < 32 → (((nI n).toUInt32 &&& Int32.toUInt32 31).toBitVec % 32).toNat = n := by decide +kernel
theorem b_shl (n : Nat) (hn : n < 32) (x : Int32) {i : Nat} (hi : i < 32) : bt (x <<< (nI n &&& 31)) i = (decide (n ≤ i) && bt x (i - n)) := by
  unfold bt
  rw [Int32.toBitVec_shiftLeft]
  show (x.toBitVec <<< ((nI n &&& 31).toBitVec.smod 32).toNat).getLsbD i = _
  rw [s_l n hn, BitVec.getLsbD_shiftLeft]
  rcases Nat.lt_or_ge i n with h | h
  · simp [h, Nat.not_le.mpr h]
  · simp [hi, h, Nat.not_lt.mpr h]
theorem b_ushr (n : Nat) (hn : n < 32) (x : Int32) (i : Nat) : bt ((x.toUInt32 >>> ((nI n).toUInt32 &&& Int32.toUInt32 31)).toInt32) i = bt x (n + i) := by
  show (x.toUInt32 >>> ((nI n).toUInt32 &&& Int32.toUInt32 31)).toBitVec.getLsbD i = x.toUInt32.toBitVec.getLsbD (n + i)
  rw [UInt32.toBitVec_shiftRight]
  show (x.toUInt32.toBitVec >>> (((nI n).toUInt32 &&& Int32.toUInt32 31).toBitVec % 32).toNat).getLsbD i = _
  rw [s_u n hn, BitVec.getLsbD_ushiftRight]
theorem b_sshr (n : Nat) (hn : n < 32) (x : Int32) {i : Nat} (hi : i < 32) : bt (x >>> (nI n &&& 31)) i = if n + i < 32 then bt x (n + i) else bt x 31 := by
  unfold bt
  rw [Int32.toBitVec_shiftRight]
  show (x.toBitVec.sshiftRight ((nI n &&& 31).toBitVec.smod 32).toNat).getLsbD i = _
  rw [s_l n hn, BitVec.getLsbD_sshiftRight, BitVec.msb_eq_getLsbD_last]
  simp [hi]
/-! one bit, both shifts -/
theorem sh_1 (n : Nat) (hn : n < 32) (x : Int32) : ((x.toUInt32 >>> ((nI n).toUInt32 &&& Int32.toUInt32 31)).toInt32) &&& 1 = (x >>> (nI n &&& 31)) &&& 1 := by
  apply b_ext
  intro i hi
  rw [b_and, b_and, b_ushr n hn, b_sshr n hn x hi, b_1]
  by_cases h : i = 0
  · subst h
    rw [if_pos (by omega)]
  · simp [h]
/-! Int64 by its bits -/
def bl (x : Int64) (i : Nat) : Bool := x.toBitVec.getLsbD i
theorem l_ext {x y : Int64} (h : ∀ i, i < 64 → bl x i = bl y i) : x = y := Int64.toBitVec_inj.mp (BitVec.eq_of_getLsbD_eq (fun i hi => h i hi))
theorem l_or (x y : Int64) (i : Nat) : bl (x ||| y) i = (bl x i || bl y i) := by unfold bl; rw [Int64.toBitVec_or, BitVec.getLsbD_or]
theorem l_and (x y : Int64) (i : Nat) : bl (x &&& y) i = (bl x i && bl y i) := by unfold bl; rw [Int64.toBitVec_and, BitVec.getLsbD_and]
theorem l_big {x : Int64} {i : Nat} (h : 64 ≤ i) : bl x i = false := BitVec.getLsbD_of_ge _ _ h
theorem l_65535 (i : Nat) : bl 65535 i = decide (i < 16) := by
  rcases Nat.lt_or_ge i 64 with h | h
  · exact (by decide +kernel : ∀ i, i < 64 → bl 65535 i = decide (i < 16)) i h
  · rw [l_big h, decide_eq_false (by omega)]
theorem l_255 (i : Nat) : bl 255 i = decide (i < 8) := by
  rcases Nat.lt_or_ge i 64 with h | h
  · exact (by decide +kernel : ∀ i, i < 64 → bl 255 i = decide (i < 8)) i h
  · rw [l_big h, decide_eq_false (by omega)]
theorem l_0 (i : Nat) : bl 0 i = false := BitVec.getLsbD_zero
theorem sl_l : ∀ n, n < 64 → (((nI n).toInt64 &&& 63).toBitVec.smod 64).toNat = n := by decide +kernel
theorem sl_u : ∀ n, n < 64 → (((nI n).toInt64.toUInt64 &&& Int64.toUInt64 63).toBitVec % 64).toNat = n := by decide +kernel
theorem l_shl (n : Nat) (hn : n < 64) (x : Int64) {i : Nat} (hi : i < 64) : bl (x <<< ((nI n).toInt64 &&& 63)) i = (decide (n ≤ i) && bl x (i - n)) := by
  unfold bl
  rw [Int64.toBitVec_shiftLeft]
  show (x.toBitVec <<< (((nI n).toInt64 &&& 63).toBitVec.smod 64).toNat).getLsbD i = _
  rw [sl_l n hn, BitVec.getLsbD_shiftLeft]
  rcases Nat.lt_or_ge i n with h | h
  · simp [h, Nat.not_le.mpr h]
  · simp [hi, h, Nat.not_lt.mpr h]
theorem l_ushr (n : Nat) (hn : n < 64) (x : Int64) (i : Nat) : bl ((x.toUInt64 >>> ((nI n).toInt64.toUInt64 &&& Int64.toUInt64 63)).toInt64) i = bl x (n + i) := by
  show (x.toUInt64 >>> ((nI n).toInt64.toUInt64 &&& Int64.toUInt64 63)).toBitVec.getLsbD i = x.toUInt64.toBitVec.getLsbD (n + i)
  rw [UInt64.toBitVec_shiftRight]
  show (x.toUInt64.toBitVec >>> (((nI n).toInt64.toUInt64 &&& Int64.toUInt64 63).toBitVec % 64).toNat).getLsbD i = _
  rw [sl_u n hn, BitVec.getLsbD_ushiftRight]
theorem l_sshr (n : Nat) (hn : n < 64) (x : Int64) {i : Nat} (hi : i < 64) : bl (x >>> ((nI n).toInt64 &&& 63)) i = if n + i < 64 then bl x (n + i) else bl x 63 := by
  unfold bl
  rw [Int64.toBitVec_shiftRight]
  show (x.toBitVec.sshiftRight (((nI n).toInt64 &&& 63).toBitVec.smod 64).toNat).getLsbD i = _
  rw [sl_l n hn, BitVec.getLsbD_sshiftRight, BitVec.msb_eq_getLsbD_last]
  simp [hi]
theorem l_i (x : Int64) {i : Nat} (hi : i < 32) : bt x.toInt32 i = bl x i := by
  unfold bt bl
  rw [Int64.toBitVec_toInt32, BitVec.getLsbD_signExtend]
  simp [hi, show i < 64 by omega]
theorem i_l (x : Int32) {i : Nat} (hi : i < 64) : bl x.toInt64 i = if i < 32 then bt x i else bt x 31 := by
  unfold bt bl
  rw [Int32.toBitVec_toInt64, BitVec.getLsbD_signExtend, BitVec.msb_eq_getLsbD_last]
  simp [hi]
/-! the CHECK -/
def cb1 (v bit : Int32) : Int32 := if (v >>> ((14 : Int32) &&& 31)) &&& 1 = bit then (v <<< ((1 : Int32) &&& 31)) &&& 32767 else ((v <<< ((1 : Int32) &&& 31)) &&& 32767) ^^^ 17817
def cbs (x : Int32) : Nat → Int32 → Int32
  | 0, v => v
  | j + 1, v => cb1 (cbs x j v) ((x >>> (nI (7 - j) &&& 31)) &&& 1)
theorem cbs_cong {x y : Int32} (h : x &&& 255 = y &&& 255) (v : Int32) : ∀ j, j ≤ 8 → cbs x j v = cbs y j v
  | 0, _ => rfl
  | j + 1, hj => by
    rw [cbs, cbs, cbs_cong h v j (by omega)]
    congr 1
    apply b_ext
    intro i hi
    rw [b_and, b_and, b_sshr _ (by omega) _ hi, b_sshr _ (by omega) _ hi, b_1]
    by_cases h0 : i = 0
    · subst h0
      have e : bt (x &&& 255) (7 - j) = bt (y &&& 255) (7 - j) := by rw [h]
      rw [b_and, b_and, b_255, decide_eq_true (by omega), Bool.and_true, Bool.and_true] at e
      rw [if_pos (by omega), if_pos (by omega), Nat.add_zero, e]
    · simp [h0]
theorem cnt7 : ∀ j, j < 8 → (7 - nI j : Int32) = nI (7 - j) ∧ ¬ (7 - nI j : Int32) < 0 := by decide +kernel
section PURE
variable {nc nb : Nat} {σ : ck_S}
theorem m_checked {a0 a1 : Int32} {post : Int32 → ck_S → Prop} (h : post (cbs a1 8 a0) σ) : sp_X7_checked nc nb σ a0 a1 post := by
  unfold sp_X7_checked
  refine cu_4 8 (fun j => 7 - nI j) (fun j s x y => s = σ ∧ x = a1 ∧ y = cbs a1 j a0) ?_ ?_ 0 (by omega) _ _ _ ⟨rfl, rfl, rfl⟩ _ (by decide)
  · rintro j hj s x y ⟨rfl, rfl, rfl⟩ K hK
    unfold bd_X7_checked_5 sp_X7_checked_28 sp_X7_checked_52
    have hc := cnt7 j hj
    refine kb_f hc.2 ?_
    have nx : ∀ w, w = (7 - nI j : Int32) + (-1) → (7 - nI (j + 1) : Int32) = w := by
      intro w hw
      rw [hw, nI_succ]
      grind
    refine ⟨fun e => al_1 (kb_t rfl (fun w hw => hK _ _ _ ⟨rfl, rfl, ?_⟩ _ (nx w hw))), fun e => al_1 (kb_f (by decide) (fun w hw => hK _ _ _ ⟨rfl, rfl, ?_⟩ _ (nx w hw)))⟩
    · rw [cbs, cb1]
      simp only [hc.1] at e
      rw [if_pos e]
    · rw [cbs, cb1]
      simp only [hc.1] at e
      rw [if_neg e]
  · rintro s x y ⟨rfl, rfl, rfl⟩ K
    unfold bd_X7_checked_5
    exact kb_t (by decide) h
theorem c_withByte {a0 a1 : Int32} {post : Int32 → ck_S → Prop} (h : post (cbs a1 8 a0) σ) : sp_X2_withByte nc nb σ a0 a1 post := by
  unfold sp_X2_withByte
  refine cu_4 8 (fun j => 7 - nI j) (fun j s x y => s = σ ∧ x = a1 ∧ y = cbs a1 j a0) ?_ ?_ 0 (by omega) _ _ _ ⟨rfl, rfl, rfl⟩ _ (by decide)
  · rintro j hj s x y ⟨rfl, rfl, rfl⟩ K hK
    unfold bd_X2_withByte_5 sp_X2_withByte_28 sp_X2_withByte_49
    have hc := cnt7 j hj
    refine kb_f hc.2 ?_
    have nx : ∀ w, w = (7 - nI j : Int32) + (-1) → (7 - nI (j + 1) : Int32) = w := by
      intro w hw
      rw [hw, nI_succ]
      grind
    have e14 := sh_1 14 (by decide) (cbs x j a0)
    have e14 : (((cbs x j a0).toUInt32 >>> ((14 : Int32).toUInt32 &&& Int32.toUInt32 31)).toInt32) &&& 1 = ((cbs x j a0) >>> ((14 : Int32) &&& 31)) &&& 1 := e14
    refine ⟨fun e => al_1 (kb_t rfl (fun w hw => hK _ _ _ ⟨rfl, rfl, ?_⟩ _ (nx w hw))), fun e => al_1 (kb_f (by decide) (al_1 (fun w hw => hK _ _ _ ⟨rfl, rfl, ?_⟩ _ (nx w hw))))⟩
    · rw [cbs, cb1]
      simp only [hc.1] at e
      rw [sh_1 _ (by omega), e14] at e
      rw [if_pos e]
    · rw [cbs, cb1]
      simp only [hc.1] at e
      rw [sh_1 _ (by omega), e14] at e
      rw [if_neg e]
  · rintro s x y ⟨rfl, rfl, rfl⟩ K
    unfold bd_X2_withByte_5
    exact kb_t (by decide) h
/-! bytes of a reply -/
def byteM (a b : Int64) (k : Nat) : Int32 := (((if k < 8 then a else b) >>> ((nI (56 - 8 * (k % 8))).toInt64 &&& 63)).toInt32) &&& 255
theorem byte_sh : ∀ k, k < 16 → (56 - (8 * (nI k - nI k / 8 * 8)) : Int32) = nI (56 - 8 * (k % 8)) := by decide +kernel
theorem m_byteOf {a b : Int64} {k : Nat} (hk : k < 16) {x : Int32} (hx : x = nI k) {post : Int32 → ck_S → Prop} (h : post (byteM a b k) σ) : sp_X7_byteOf nc nb σ a b x post := by
  subst hx
  unfold sp_X7_byteOf sp_X7_byteOf_12
  rw [byte_sh k hk]
  unfold byteM at h
  by_cases h8 : k < 8
  · rw [if_pos h8] at h
    exact kb_f (nI_ge (b := 8) h8 (by decide)) h
  · rw [if_neg h8] at h
    exact kb_t (nI_le (a := 8) (by omega) (by omega)) h
def sealN (a b : Int64) : Nat → Int32
  | 0 => 0
  | j + 1 => cbs (byteM a b j) 8 (sealN a b j)
theorem m_sealOf {a b : Int64} {post : Int32 → ck_S → Prop} (h : post (sealN a b 14) σ) : sp_X7_sealOf nc nb σ a b post := by
  unfold sp_X7_sealOf
  refine cu_5 14 nI (fun j s x y z => s = σ ∧ x = a ∧ y = b ∧ z = sealN a b j) ?_ ?_ 0 (by omega) _ _ _ _ ⟨rfl, rfl, rfl, rfl⟩ _ rfl
  · rintro j hj s x y z ⟨rfl, rfl, rfl, rfl⟩ K hK
    unfold bd_X7_sealOf_6
    refine kb_f (nI_ge (b := 14) hj (by decide)) ?_
    exact m_byteOf (by omega) rfl (m_checked (fun w hw => hK _ _ _ _ ⟨rfl, rfl, rfl, rfl⟩ _ (by rw [hw, nI_succ])))
  · rintro s x y z ⟨rfl, rfl, rfl, rfl⟩ K
    unfold bd_X7_sealOf_6
    exact kb_t (nI_le (a := 14) (by omega) (by omega)) h
theorem byte_lo (x : Int64) (s : Nat) (hs : s ≤ 56) : ((x.toUInt64 >>> ((nI s).toInt64.toUInt64 &&& Int64.toUInt64 63)).toInt64).toInt32 &&& 255 = ((x >>> ((nI s).toInt64 &&& 63)).toInt32) &&& 255 := by
  apply b_ext
  intro i hi
  rw [b_and, b_and, l_i _ hi, l_i _ hi, l_ushr _ (by omega), l_sshr _ (by omega) _ (by omega), b_255]
  by_cases h : i < 8
  · rw [if_pos (by omega)]
  · simp [h]
theorem and_255 (x : Int32) : (x &&& 255) &&& 255 = x &&& 255 := by
  apply b_ext
  intro i hi
  rw [b_and, b_and, b_255]
  cases bt x i <;> simp
theorem cnt56 : ∀ j, j ≤ 8 → (j < 8 → (56 - 8 * nI j : Int32) = nI (56 - 8 * j) ∧ ¬ (56 - 8 * nI j : Int32) < 0) ∧ (j < 6 → ¬ (56 - 8 * nI j : Int32) < 16) := by decide +kernel
theorem c_ofReply {a b : Int64} {post : Int32 → ck_S → Prop} (h : post (sealN a b 14) σ) : sp_X2_ofReply nc nb σ a b post := by
  have nx : ∀ (j : Nat) (w : Int32), w = (56 - 8 * nI j : Int32) + (-8) → (56 - 8 * nI (j + 1) : Int32) = w := by
    intro j w hw
    rw [hw, nI_succ]
    grind
  unfold sp_X2_ofReply
  refine cu_5 8 (fun j => 56 - 8 * nI j) (fun j s x y z => s = σ ∧ x = a ∧ y = b ∧ z = sealN a b j) ?_ ?_ 0 (by omega) _ _ _ _ ⟨rfl, rfl, rfl, rfl⟩ _ (by decide)
  · rintro j hj s x y z ⟨rfl, rfl, rfl, rfl⟩ K hK
    unfold bd_X2_ofReply_7
    have hc := (cnt56 j (by omega)).1 hj
    refine kb_f hc.2 (c_withByte ?_)
    intro w hw
    refine hK _ _ _ _ ⟨rfl, rfl, rfl, ?_⟩ _ (nx j w hw)
    rw [sealN]
    apply cbs_cong _ _ 8 (by omega)
    simp only [hc.1]
    rw [byte_lo _ _ (by omega), byteM, and_255, if_pos hj, Nat.mod_eq_of_lt hj]
  · rintro s x y z ⟨rfl, rfl, rfl, rfl⟩ K
    unfold bd_X2_ofReply_7
    refine kb_t (by decide) ?_
    refine cu_4 6 (fun j => 56 - 8 * nI j) (fun j s' y' z' => s' = s ∧ y' = y ∧ z' = sealN x y (8 + j)) ?_ ?_ 0 (by omega) _ _ _ ⟨rfl, rfl, rfl⟩ _ (by decide)
    · rintro j hj s' y' z' ⟨rfl, rfl, rfl⟩ K hK
      unfold bd_X2_ofReply_34
      have hc := (cnt56 j (by omega)).1 (by omega)
      refine kb_f ((cnt56 j (by omega)).2 hj) (c_withByte ?_)
      intro w hw
      refine hK _ _ _ ⟨rfl, rfl, ?_⟩ _ (nx j w hw)
      rw [← Nat.add_assoc, sealN]
      apply cbs_cong _ _ 8 (by omega)
      simp only [hc.1]
      rw [byte_lo _ _ (by omega), byteM, and_255, if_neg (by omega), show (8 + j) % 8 = j by omega]
    · rintro s' y' z' ⟨rfl, rfl, rfl⟩ K
      unfold bd_X2_ofReply_34
      exact kb_t (by decide) h
/-! numbers of a reply -/
def twoM (a b : Int64) (k : Nat) : Int32 := (byteM a b (2 * k) <<< ((8 : Int32) &&& 31)) ||| byteM a b (2 * k + 1)
theorem m_two {a b : Int64} {k : Nat} (hk : k < 8) {x : Int32} (hx : x = nI k) {post : Int32 → ck_S → Prop} (h : post (twoM a b k) σ) : sp_X7_two nc nb σ a b x post := by
  subst hx
  unfold sp_X7_two
  exact m_byteOf (k := 2 * k) (by omega) (pk_mul 2 k) (m_byteOf (k := 2 * k + 1) (by omega) (by rw [show (2 : Int32) * nI k = nI (2 * k) from pk_mul 2 k, nI_succ]) h)
theorem two_bt (a b : Int64) (k : Nat) (hk : k < 8) {i : Nat} (hi : i < 32) : bt (twoM a b k) i = (decide (i < 16) && bl (if k < 4 then a else b) (48 - 16 * (k % 4) + i)) := by
  unfold twoM byteM
  rw [b_or, show ((8 : Int32) &&& 31) = (nI 8 &&& 31) from rfl, b_shl 8 (by omega) _ hi, b_and, b_and, l_i _ hi, b_255, b_255]
  have e1 : (if 2 * k < 8 then a else b) = (if k < 4 then a else b) := by split <;> split <;> first | rfl | omega
  have e2 : (if 2 * k + 1 < 8 then a else b) = (if k < 4 then a else b) := by split <;> split <;> first | rfl | omega
  rw [e1, e2]
  generalize (if k < 4 then a else b) = c
  rw [l_sshr _ (by omega) _ (by omega)]
  by_cases h8 : i < 8
  · rw [decide_eq_false (by omega : ¬ 8 ≤ i), decide_eq_true h8, decide_eq_true (by omega : i < 16), if_pos (by omega), show 56 - 8 * ((2 * k + 1) % 8) + i = 48 - 16 * (k % 4) + i by omega]
    simp
  · rw [decide_eq_true (by omega : 8 ≤ i), decide_eq_false h8, l_i _ (by omega), l_sshr _ (by omega) _ (by omega)]
    by_cases h16 : i < 16
    · rw [decide_eq_true (by omega : i - 8 < 8), decide_eq_true h16, if_pos (by omega), show 56 - 8 * ((2 * k) % 8) + (i - 8) = 48 - 16 * (k % 4) + i by omega]
      simp
    · rw [decide_eq_false (by omega : ¬ i - 8 < 8), decide_eq_false h16]
      simp
theorem two_c (a b : Int64) (k : Nat) (hk : k < 8) : (((if k < 4 then a else b).toUInt64 >>> ((nI (48 - 16 * (k % 4))).toInt64.toUInt64 &&& Int64.toUInt64 63)).toInt64 &&& 65535).toInt32 = twoM a b k := by
  apply b_ext
  intro i hi
  rw [two_bt a b k hk hi, l_i _ hi, l_and, l_ushr _ (by omega), l_65535, Bool.and_comm]
theorem two_7 (a b : Int64) : (twoM a b 7).toInt64 = b &&& 65535 := by
  apply l_ext
  intro i hi
  rw [i_l _ hi, l_and, l_65535]
  by_cases h : i < 32
  · rw [if_pos h, two_bt a b 7 (by omega) h, if_neg (by omega), Bool.and_comm]
    simp
  · rw [if_neg h, two_bt a b 7 (by omega) (by omega)]
    simp
    omega
theorem two_lt (a b : Int64) (k : Nat) (hk : k < 8) : ∃ s, s < 65536 ∧ twoM a b k = nI s := by
  have e : twoM a b k &&& 65535 = twoM a b k := by
    apply b_ext
    intro i hi
    rw [b_and, two_bt a b k hk hi, b_65535]
    cases decide (i < 16) <;> simp
  obtain ⟨j, hj, h⟩ := pk_andE (twoM a b k) (m := 65535) 16 (by decide)
  exact ⟨j, by omega, e ▸ h⟩
theorem c_numberIn {a b : Int64} {k : Nat} (hk : k < 6) {post : Int32 → ck_S → Prop} (h : post (twoM a b k) σ) : sp_X3_numberIn nc nb σ a b (nI k) post := by
  unfold sp_X3_numberIn sp_X3_numberIn_29
  rw [← two_c a b k (by omega)] at h
  by_cases h4 : k < 4
  · rw [if_pos h4] at h
    refine kb_f (nI_ge (b := 4) h4 (by decide)) ?_
    rw [(by decide +kernel : ∀ k, k < 4 → (48 - 16 * nI k : Int32) = nI (48 - 16 * (k % 4))) k h4]
    exact h
  · rw [if_neg h4] at h
    refine kb_t (nI_le (a := 4) (by omega) (by omega)) ?_
    rw [(by decide +kernel : ∀ k, k < 6 → 4 ≤ k → (112 - 16 * nI k : Int32) = nI (48 - 16 * (k % 4))) k hk (by omega)]
    exact h
theorem two_6 (a b : Int64) : ((b.toUInt64 >>> ((16 : Int32).toInt64.toUInt64 &&& Int64.toUInt64 63)).toInt64 &&& 65535).toInt32 = twoM a b 6 := two_c a b 6 (by omega)
end PURE
