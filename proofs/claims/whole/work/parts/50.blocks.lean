/-! BLOCKS: bytes laid and fetched, checks of rows. -/
abbrev sg (x : Int32) : Int32 := x.toInt8.toInt32
theorem b_8 (x : Int32) {i : Nat} (hi : i < 32) : bt (sg x) i = if i < 8 then bt x i else bt x 7 := by
  unfold bt
  rw [Int8.toBitVec_toInt32, BitVec.getLsbD_signExtend, Int32.toBitVec_toInt8, BitVec.msb_eq_getLsbD_last]
  by_cases h : i < 8
  · rw [if_pos h, BitVec.getLsbD_signExtend]
    simp [hi, h]
  · rw [if_neg h, BitVec.getLsbD_signExtend]
    simp [hi, h]
theorem sg_255 (x : Int32) : sg x &&& 255 = x &&& 255 := by
  apply b_ext
  intro i hi
  rw [b_and, b_and, b_8 x hi, b_255]
  by_cases h : i < 8
  · rw [if_pos h]
  · simp [h]
theorem sg_lo {x y : Int32} (h : x &&& 255 = y &&& 255) : sg x = sg y := by
  have e : ∀ i, i < 8 → bt x i = bt y i := by
    intro i hi
    have : bt (x &&& 255) i = bt (y &&& 255) i := by rw [h]
    rw [b_and, b_and, b_255, decide_eq_true hi, Bool.and_true, Bool.and_true] at this
    exact this
  apply b_ext
  intro i hi
  rw [b_8 x hi, b_8 y hi]
  split
  · rename_i h8
    exact e i h8
  · exact e 7 (by omega)
theorem sg_sg (x : Int32) : sg (sg x) = sg x := sg_lo (sg_255 x)
theorem sg_nar (x : Int32) : vp_nar .byte x = sg x := rfl
theorem by_256 (x : Int32) : ∃ v, v < 256 ∧ x &&& 255 = nI v := by
  obtain ⟨j, hj, h⟩ := pk_andE x (m := 255) 8 (by decide)
  exact ⟨j, hj, h⟩
/-! ranges of a row -/
def pt (f0 a l : Nat) (g : Nat → Int32) (σ : ck_S) : ck_S := (fun f i k => if f = f0 ∧ i = 0 ∧ a ≤ k ∧ k < a + l then g (k - a) else σ.1 f i k, σ.2)
theorem pt_0 (f0 a : Nat) (g : Nat → Int32) (σ : ck_S) : pt f0 a 0 g σ = σ := by
  unfold pt
  ext x y z
  · show (if x = f0 ∧ y = 0 ∧ a ≤ z ∧ z < a + 0 then _ else _) = _
    rw [if_neg (by omega)]
  · rfl
  · rfl
theorem pt_succ (f0 a j : Nat) (g : Nat → Int32) (σ : ck_S) : ck_ui (pt f0 a j g σ) f0 0 (a + j) (g j) = pt f0 a (j + 1) g σ := by
  unfold pt ck_ui ck_up
  ext x y z
  · show (if x = f0 ∧ y = 0 ∧ z = a + j then g j else if x = f0 ∧ y = 0 ∧ a ≤ z ∧ z < a + j then g (z - a) else σ.1 x y z) = if x = f0 ∧ y = 0 ∧ a ≤ z ∧ z < a + (j + 1) then g (z - a) else σ.1 x y z
    by_cases h : z = a + j
    · subst h
      by_cases h2 : x = f0 ∧ y = 0
      · rw [if_pos ⟨h2.1, h2.2, rfl⟩, if_pos ⟨h2.1, h2.2, by omega, by omega⟩, Nat.add_sub_cancel_left]
      · rw [if_neg (fun q => h2 ⟨q.1, q.2.1⟩), if_neg (fun q => h2 ⟨q.1, q.2.1⟩), if_neg (fun q => h2 ⟨q.1, q.2.1⟩)]
    · rw [if_neg (fun q => h q.2.2)]
      have : (x = f0 ∧ y = 0 ∧ a ≤ z ∧ z < a + j) ↔ (x = f0 ∧ y = 0 ∧ a ≤ z ∧ z < a + (j + 1)) := by omega
      simp only [this]
  · rfl
  · rfl
theorem pt_app {f0 a l : Nat} {g h : Nat → Int32} (hh : ∀ k, k < l → h k = g (a + k)) (σ : ck_S) : pt f0 a l h (pt f0 0 a g σ) = pt f0 0 (a + l) g σ := by
  unfold pt
  ext x y z
  · show (if x = f0 ∧ y = 0 ∧ a ≤ z ∧ z < a + l then h (z - a) else if x = f0 ∧ y = 0 ∧ 0 ≤ z ∧ z < 0 + a then g (z - 0) else σ.1 x y z) = if x = f0 ∧ y = 0 ∧ 0 ≤ z ∧ z < 0 + (a + l) then g (z - 0) else σ.1 x y z
    by_cases h2 : x = f0 ∧ y = 0
    · obtain ⟨rfl, rfl⟩ := h2
      by_cases h3 : z < a
      · rw [if_neg (by omega), if_pos (by omega), if_pos (by omega)]
      · by_cases h4 : z < a + l
        · rw [if_pos (by omega), if_pos (by omega), hh _ (by omega), show a + (z - a) = z - 0 by omega]
        · rw [if_neg (by omega), if_neg (by omega), if_neg (by omega)]
    · rw [if_neg (fun q => h2 ⟨q.1, q.2.1⟩), if_neg (fun q => h2 ⟨q.1, q.2.1⟩), if_neg (fun q => h2 ⟨q.1, q.2.1⟩)]
  · rfl
  · rfl
theorem pt_keep {f0 a l : Nat} {g : Nat → Int32} {σ : ck_S} (hh : ∀ k, k < l → σ.1 f0 0 (a + k) = g (a + k)) : pt f0 0 a g σ = pt f0 0 (a + l) g σ := by
  unfold pt
  ext x y z
  · show (if x = f0 ∧ y = 0 ∧ 0 ≤ z ∧ z < 0 + a then g (z - 0) else σ.1 x y z) = if x = f0 ∧ y = 0 ∧ 0 ≤ z ∧ z < 0 + (a + l) then g (z - 0) else σ.1 x y z
    by_cases h2 : x = f0 ∧ y = 0
    · obtain ⟨rfl, rfl⟩ := h2
      by_cases h3 : z < a
      · rw [if_pos (by omega), if_pos (by omega)]
      · by_cases h4 : z < a + l
        · have := hh (z - a) (by omega)
          rw [show a + (z - a) = z by omega] at this
          rw [if_neg (by omega), if_pos (by omega), this]
          rfl
        · rw [if_neg (by omega), if_neg (by omega)]
    · rw [if_neg (fun q => h2 ⟨q.1, q.2.1⟩), if_neg (fun q => h2 ⟨q.1, q.2.1⟩)]
  · rfl
  · rfl
theorem pt_in {f0 a l : Nat} {g : Nat → Int32} {σ : ck_S} {k : Nat} (h1 : a ≤ k) (h2 : k < a + l) : (pt f0 a l g σ).1 f0 0 k = g (k - a) := if_pos ⟨rfl, rfl, h1, h2⟩
theorem pt_out {f0 a l : Nat} {g : Nat → Int32} {σ : ck_S} {k : Nat} (h : k < a ∨ a + l ≤ k) : (pt f0 a l g σ).1 f0 0 k = σ.1 f0 0 k := if_neg (by omega)
theorem pt_f {f0 a l f : Nat} {g : Nat → Int32} {σ : ck_S} (h : f ≠ f0) : (pt f0 a l g σ).1 f = σ.1 f := by
  funext i k
  exact if_neg (fun q => h q.1)
/-! bytes of a number -/
def byL (v : Int64) (k : Nat) : Int32 := ((v >>> ((nI (8 * k)).toInt64 &&& 63)).toInt32) &&& 255
section PURE
variable {nc nb : Nat} {σ : ck_S}
theorem m_put {a l : Nat} (h32 : a + l ≤ 32) {v : Int64} {post : ck_S → Prop} (h : post (pt 12 a l (byL v) σ)) : sp_X7_putBlock nc nb σ (nI a) (nI l) v post := by
  unfold sp_X7_putBlock
  refine cu_5 l nI (fun j s x1 x2 x3 => pt 12 a j (byL v) σ = s ∧ nI a = x1 ∧ nI l = x2 ∧ v = x3) ?_ ?_ 0 (by omega) _ _ _ _ ⟨pt_0 _ _ _ _, rfl, rfl, rfl⟩ _ rfl
  · rintro j hj s x1 x2 x3 ⟨rfl, rfl, rfl, rfl⟩ K hK
    unfold bd_X7_putBlock_3
    rw [nI_add, show (8 : Int32) * nI j = nI (8 * j) from pk_mul 8 j]
    refine kb_f (nI_ge hj (by omega)) (al_1 ⟨vp_in_nI (by omega) (by decide), ?_⟩)
    rw [nI_clamp (by omega)]
    refine al_1 ?_
    intro w hw
    exact hK _ _ _ _ ⟨(pt_succ 12 a j (byL v) σ).symm, rfl, rfl, rfl⟩ _ (by rw [hw, nI_succ])
  · rintro s x1 x2 x3 ⟨rfl, rfl, rfl, rfl⟩ K
    unfold bd_X7_putBlock_3
    exact kb_t (nI_le (Nat.le_refl _) (by omega)) h
theorem c_lay {a l : Nat} (h32 : a + l ≤ 32) (h8 : l ≤ 8) {v : Int64} {post : ck_S → Prop} (h : post (pt 8 a l (fun k => sg (byL v k)) σ)) : sp_X1_lay nc nb σ (nI a) (nI l) v post := by
  unfold sp_X1_lay
  refine cu_5 l nI (fun j s x1 x2 x3 => pt 8 a j (fun k => sg (byL v k)) σ = s ∧ nI a = x1 ∧ nI l = x2 ∧ v = x3) ?_ ?_ 0 (by omega) _ _ _ _ ⟨pt_0 _ _ _ _, rfl, rfl, rfl⟩ _ rfl
  · rintro j hj s x1 x2 x3 ⟨rfl, rfl, rfl, rfl⟩ K hK
    unfold bd_X1_lay_3
    rw [nI_add, show (8 : Int32) * nI j = nI (8 * j) from pk_mul 8 j]
    refine kb_f (nI_ge hj (by omega)) (al_1 ⟨vp_in_nI (by omega) (by decide), ?_⟩)
    rw [nI_clamp (by omega)]
    refine al_1 ?_
    intro w hw
    refine hK _ _ _ _ ⟨?_, rfl, rfl, rfl⟩ _ (by rw [hw, nI_succ])
    rw [← pt_succ]
    congr 1
    rw [sg_nar]
    refine (sg_lo ?_).trans (sg_sg _).symm
    unfold byL
    rw [and_255, byte_lo _ _ (by omega)]
  · rintro s x1 x2 x3 ⟨rfl, rfl, rfl, rfl⟩ K
    unfold bd_X1_lay_3
    exact kb_t (nI_le (Nat.le_refl _) (by omega)) h
/-! checks of rows -/
def ckN (g : Nat → Int32) : Nat → Int32
  | 0 => 0
  | j + 1 => cbs (g j) 8 (ckN g j)
theorem ckN_cong {g h : Nat → Int32} : ∀ {n : Nat}, (∀ k, k < n → g k &&& 255 = h k &&& 255) → ckN g n = ckN h n
  | 0, _ => rfl
  | n + 1, q => by rw [ckN, ckN, ckN_cong (fun k hk => q k (by omega)), cbs_cong (q n (by omega)) _ 8 (by omega)]
theorem c_ofRow7 {a : Nat} (ha : a + 30 ≤ nb) (hb : nb ≤ 512) {post : Int32 → ck_S → Prop} (h : post (ckN (fun k => σ.1 7 0 (a + k)) 30) σ) : sp_X2_ofRow__7 nc nb σ (nI a) 30 post := by
  unfold sp_X2_ofRow__7
  rw [show nI a + 30 = nI (a + 30) from nI_add a 30]
  have e1 : (if nI (a + 30) < nI nb then nI (a + 30) else nI nb) = nI (a + 30) := by
    by_cases e : a + 30 = nb
    · rw [e]; simp
    · rw [if_pos (nI_lt (by omega) (by omega))]
  have e2 : (if (0 : Int32) < nI a then nI a else 0) = nI a := by
    by_cases e : a = 0
    · subst e; rfl
    · rw [if_pos (show (0 : Int32) < nI a from nI_lt (a := 0) (b := a) (by omega) (by omega))]
  rw [e1, e2]
  refine al_1 (al_1 ?_)
  refine cu_4 30 (fun j => nI (a + j)) (fun j s x3 x4 => σ = s ∧ nI (a + 30) = x3 ∧ ckN (fun k => σ.1 7 0 (a + k)) j = x4) ?_ ?_ 0 (by omega) _ _ _ ⟨rfl, rfl, rfl⟩ _ rfl
  · rintro j hj s x3 x4 ⟨rfl, rfl, rfl⟩ K hK
    unfold bd_X2_ofRow__7_19
    rw [nI_clamp (by omega)]
    refine kb_f (nI_ge (by omega) (by omega)) ⟨vp_in_nI (by omega) (by omega), c_withByte ?_⟩
    intro w hw
    exact hK _ _ _ ⟨rfl, rfl, rfl⟩ _ (by rw [hw, ← Nat.add_assoc, nI_succ])
  · rintro s x3 x4 ⟨rfl, rfl, rfl⟩ K
    unfold bd_X2_ofRow__7_19
    exact kb_t (nI_le (Nat.le_refl _) (by omega)) h
theorem c_ofRow8 {post : Int32 → ck_S → Prop} (h : post (ckN (fun k => σ.1 8 0 k) 30) σ) : sp_X2_ofRow__8 nc nb σ 0 30 post := by
  unfold sp_X2_ofRow__8
  have e1 : (if (0 + 30 : Int32) < nI 32 then (0 + 30 : Int32) else nI 32) = nI 30 := by decide
  have e2 : (if (0 : Int32) < 0 then (0 : Int32) else 0) = nI 0 := by decide
  rw [e1, e2]
  refine al_1 (al_1 ?_)
  refine cu_4 30 nI (fun j s x3 x4 => σ = s ∧ nI 30 = x3 ∧ ckN (fun k => σ.1 8 0 k) j = x4) ?_ ?_ 0 (by omega) _ _ _ ⟨rfl, rfl, rfl⟩ _ rfl
  · rintro j hj s x3 x4 ⟨rfl, rfl, rfl⟩ K hK
    unfold bd_X2_ofRow__8_19
    rw [nI_clamp (by omega)]
    refine kb_f (nI_ge (by omega) (by omega)) ⟨vp_in_nI (by omega) (by omega), c_withByte ?_⟩
    intro w hw
    exact hK _ _ _ ⟨rfl, rfl, rfl⟩ _ (by rw [hw, nI_succ])
  · rintro s x3 x4 ⟨rfl, rfl, rfl⟩ K
    unfold bd_X2_ofRow__8_19
    exact kb_t (nI_le (Nat.le_refl _) (by omega)) h
theorem c_floorMod {a d : Nat} (ha : a < 2 ^ 31) (hd : 0 < d) (hd2 : d < 2 ^ 31) {post : Int32 → ck_S → Prop} (h : post (nI (a % d)) σ) : sp_J9_floorMod_7cf53 nc nb σ (nI a) (nI d) post := by
  unfold sp_J9_floorMod_7cf53
  rw [pk_rem ha hd hd2]
  refine ⟨nI_ne0 hd hd2, al_1 (kb_t ?_ h)⟩
  have e : nI a ^^^ nI d = nI (a ^^^ d) := by
    apply Int32.toBitVec_inj.1
    show BitVec.ofNat 32 a ^^^ BitVec.ofNat 32 d = BitVec.ofNat 32 (a ^^^ d)
    apply BitVec.eq_of_getLsbD_eq
    intro i hi
    simp [hi]
  rw [e]
  exact nI_pos' (Nat.xor_lt_two_pow ha hd2)
/-! numbers out of bytes -/
def nuC (g : Nat → Int32) : Nat → Int64
  | 0 => 0
  | j + 1 => nuC g j ||| ((g j).toInt64 <<< ((nI (8 * j)).toInt64 &&& 63))
theorem bt_nI {v i : Nat} (hv : v < 256) (h8 : 8 ≤ i) : bt (nI v) i = false := by
  show (BitVec.ofNat 32 v).getLsbD i = false
  rw [BitVec.getLsbD_ofNat]
  have : v.testBit i = false := Nat.testBit_lt_two_pow (Nat.lt_of_lt_of_le hv (Nat.pow_le_pow_right (n := 2) (by decide) h8 : 2 ^ 8 ≤ 2 ^ i))
  rw [this, Bool.and_false]
theorem nu_bits {g : Nat → Int32} : ∀ {j : Nat}, j ≤ 8 → (∀ k, k < j → ∃ v, v < 256 ∧ g k = nI v) → ∀ i, i < 64 → bl (nuC g j) i = (decide (i < 8 * j) && bt (g (i / 8)) (i % 8))
  | 0, _, _, i, _ => by
    rw [nuC, l_0]
    simp
  | j + 1, hj, hg, i, hi => by
    rw [nuC, l_or, nu_bits (by omega) (fun k hk => hg k (by omega)) i hi, l_shl _ (by omega) _ hi]
    obtain ⟨v, hv, e⟩ := hg j (by omega)
    by_cases h1 : i < 8 * j
    · rw [decide_eq_true h1, decide_eq_true (by omega : i < 8 * (j + 1)), decide_eq_false (by omega : ¬ 8 * j ≤ i)]
      simp
    · rw [decide_eq_false h1, decide_eq_true (by omega : 8 * j ≤ i), i_l _ (by omega)]
      by_cases h2 : i < 8 * (j + 1)
      · rw [decide_eq_true h2, if_pos (by omega), show i / 8 = j by omega, show i % 8 = i - 8 * j by omega]
        simp
      · rw [decide_eq_false h2]
        rw [e]
        split
        · rw [bt_nI hv (by omega)]
          simp
        · rw [bt_nI hv (by omega)]
          simp
theorem m_number {a m : Nat} (hm : m ≤ 8) (ha : a + m ≤ 512) (hg : ∀ k, k < m → ∃ v, v < 256 ∧ σ.1 11 0 (a + k) = nI v) {post : Int64 → ck_S → Prop} (h : post (nuC (fun k => σ.1 11 0 (a + k)) m) σ) : sp_X7_number nc nb σ (nI a) (nI m) post := by
  unfold sp_X7_number
  refine al_1 ?_
  have nx : ∀ (j : Nat) (w : Int32), w = (nI m - 1 - nI j : Int32) + (-1) → (nI m - 1 - nI (j + 1) : Int32) = w := by
    intro j w hw
    rw [hw, nI_succ]
    grind
  refine cu_4 m (fun j => nI m - 1 - nI j) (fun j s x1 x3 => σ = s ∧ nI a = x1 ∧ ∀ i, i < 64 → bl x3 i = (decide (i < 8 * j) && bt (σ.1 11 0 (a + (m - j + i / 8))) (i % 8))) ?_ ?_ 0 (by omega) _ _ _ ⟨rfl, rfl, fun i hi => by rw [l_0]; simp⟩ _ (by rw [nI_0]; grind)
  · rintro j hj s x1 x3 ⟨rfl, rfl, hb⟩ K hK
    unfold bd_X7_number_7
    have ec : (nI m - 1 - nI j : Int32) = nI (m - 1 - j) := by
      rw [show (1 : Int32) = nI 1 from rfl, pk_sub (by omega), pk_sub (by omega)]
    have hx : ¬ (nI m - 1 - nI j : Int32) < 0 := by rw [ec]; exact nI_pos (by omega)
    refine kb_f hx (al_1 ?_)
    have e2 : nI a + (nI m - 1 - nI j) = nI (a + (m - 1 - j)) := by rw [ec, nI_add]
    simp only [e2]
    rw [nI_clamp (by omega)]
    refine ⟨vp_in_nI (by omega) (by decide), al_1 ?_⟩
    intro w hw
    refine hK _ _ _ ⟨rfl, rfl, ?_⟩ _ (nx j w hw)
    intro i hi
    obtain ⟨v, hv, e⟩ := hg (m - 1 - j) (by omega)
    have es : ((8 : Int32).toInt64 &&& 63) = ((nI 8).toInt64 &&& 63) := rfl
    rw [l_or, es, l_shl 8 (by omega) _ hi, i_l _ hi]
    show ((decide (8 ≤ i) && bl x3 (i - 8)) || if i < 32 then bt (σ.1 11 0 (a + (m - 1 - j))) i else bt (σ.1 11 0 (a + (m - 1 - j))) 31) = _
    by_cases h8 : i < 8
    · rw [decide_eq_false (by omega : ¬ 8 ≤ i), if_pos (by omega), decide_eq_true (by omega : i < 8 * (j + 1)), show m - (j + 1) + i / 8 = m - 1 - j by omega, show i % 8 = i by omega]
      simp
    · have hz : (if i < 32 then bt (σ.1 11 0 (a + (m - 1 - j))) i else bt (σ.1 11 0 (a + (m - 1 - j))) 31) = false := by
        rw [e]
        split
        · exact bt_nI hv (by omega)
        · exact bt_nI hv (by omega)
      rw [hz, decide_eq_true (by omega : 8 ≤ i), hb (i - 8) (by omega), show m - (j + 1) + i / 8 = m - j + (i - 8) / 8 by omega, show (i - 8) % 8 = i % 8 by omega]
      have : decide (i - 8 < 8 * j) = decide (i < 8 * (j + 1)) := by
        by_cases q : i < 8 * (j + 1)
        · rw [decide_eq_true q, decide_eq_true (by omega)]
        · rw [decide_eq_false q, decide_eq_false (by omega)]
      rw [this]
      simp
  · rintro s x1 x3 ⟨rfl, rfl, hb⟩ K
    unfold bd_X7_number_7
    refine kb_t ?_ ?_
    · show (nI m - 1 - nI m : Int32) < 0
      have : (nI m - 1 - nI m : Int32) = -1 := by grind
      rw [this]
      decide
    · have : x3 = nuC (fun k => σ.1 11 0 (a + k)) m := by
        apply l_ext
        intro i hi
        rw [hb i hi, nu_bits hm hg i hi, Nat.sub_self, Nat.zero_add]
      rw [this]
      exact h
theorem sg_long : ∀ v, v < 256 → ((sg (nI v)).toInt64 &&& 255) = (nI v).toInt64 := by decide +kernel
theorem c_fetch {a m : Nat} (hm : m ≤ 8) (ha : a + m ≤ nb) (hb : nb ≤ 512) {g : Nat → Int32} (hg : ∀ k, k < m → ∃ v, v < 256 ∧ g k = nI v) (hs : ∀ k, k < m → σ.1 7 0 (a + k) = sg (g k)) {post : Int64 → ck_S → Prop} (h : post (nuC g m) σ) : sp_X1_fetch nc nb σ (nI a) (nI m) post := by
  unfold sp_X1_fetch
  refine cu_5 m nI (fun j s x1 x2 x3 => σ = s ∧ nI a = x1 ∧ nI m = x2 ∧ nuC g j = x3) ?_ ?_ 0 (by omega) _ _ _ _ ⟨rfl, rfl, rfl, rfl⟩ _ rfl
  · rintro j hj s x1 x2 x3 ⟨rfl, rfl, rfl, rfl⟩ K hK
    unfold bd_X1_fetch_5
    rw [nI_add, show (8 : Int32) * nI j = nI (8 * j) from pk_mul 8 j]
    refine kb_f (nI_ge hj (by omega)) (al_1 ⟨vp_in_nI (by omega) (by omega), ?_⟩)
    rw [nI_clamp (by omega)]
    refine al_1 ?_
    intro w hw
    refine hK _ _ _ _ ⟨rfl, rfl, rfl, ?_⟩ _ (by rw [hw, nI_succ])
    have e : ck_gi σ 7 0 (a + j) = sg (g j) := hs j hj
    obtain ⟨v, hv, ev⟩ := hg j hj
    rw [e, nuC, ev, sg_long v hv]
  · rintro s x1 x2 x3 ⟨rfl, rfl, rfl, rfl⟩ K
    unfold bd_X1_fetch_5
    exact kb_t (nI_le (Nat.le_refl _) (by omega)) h
end PURE
