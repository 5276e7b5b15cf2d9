/-! POWER: begin of the reference, power of the class. -/
def jN (J : Nat → Int32) (a m : Nat) : Int64 := nuC (fun k => J (a + k)) m
def vN (J : Nat → Int32) (p : Nat) : Nat := (jN J (32 * p) 4).toBitVec.toNat
def gJ (J : Nat → Int32) : Prop := ∀ k, k < 512 → ∃ v, v < 256 ∧ J k = nI v
theorem lN_tn (x : Int64) : x = lN x.toBitVec.toNat := by
  apply Int64.toBitVec_inj.mp
  show _ = BitVec.ofNat 64 _
  simp
theorem vN_lt {J : Nat → Int32} (hJ : gJ J) {p : Nat} (hp : p < 16) : vN J p < 2 ^ 32 := by
  unfold vN
  apply Nat.lt_pow_two_of_testBit
  intro i hi
  rcases Nat.lt_or_ge i 64 with h | h
  · have := nu_bits (g := fun k => J (32 * p + k)) (j := 4) (by omega) (fun k hk => hJ _ (by omega)) i h
    rw [decide_eq_false (by omega)] at this
    exact this
  · exact BitVec.getLsbD_of_ge _ _ h
theorem vN_e (J : Nat → Int32) (p : Nat) : jN J (32 * p) 4 = lN (vN J p) := lN_tn _
def rightB (J : Nat → Int32) (b p : Nat) : Bool := decide (jN J (32 * p + 30) 2 = (ckN (fun k => J (32 * p + k)) 30).toInt64) && decide (1 ≤ vN J p ∧ vN J p ≤ 1000000000) && decide ((vN J p - 1) % b = p)
def bst (J : Nat → Int32) (b : Nat) : Nat → Nat
  | 0 => 0
  | j + 1 => if rightB J b j = true ∧ (bst J b j = 0 ∨ vN J (bst J b j - 1) < vN J j) then j + 1 else bst J b j
theorem bst_ok (J : Nat → Int32) (b : Nat) : ∀ j, bst J b j ≤ j ∧ (0 < bst J b j → rightB J b (bst J b j - 1) = true)
  | 0 => ⟨Nat.le_refl _, fun h => absurd h (by simp [bst])⟩
  | j + 1 => by
    have ih := bst_ok J b j
    rw [bst]
    split
    · rename_i h
      exact ⟨Nat.le_refl _, fun _ => by rw [Nat.add_sub_cancel]; exact h.1⟩
    · exact ⟨by omega, ih.2⟩
theorem right_v {J : Nat → Int32} {b p : Nat} (h : rightB J b p = true) : 1 ≤ vN J p ∧ vN J p ≤ 1000000000 := by
  unfold rightB at h
  simp only [Bool.and_eq_true, decide_eq_true_eq] at h
  exact h.1.2
def encI (e : Nat) : Int32 := if e = 0 then -1 else nI (e - 1)
section PURE
variable {nc nb : Nat} {σ : ck_S}
theorem m_num {J : Nat → Int32} (hJ : gJ J) (hs : σ.1 11 0 = J) {a m : Nat} (hm : m ≤ 8) (ha : a + m ≤ 512) {x : Int32} (hx : x = nI a) {post : Int64 → ck_S → Prop} (h : post (jN J a m) σ) : sp_X7_number nc nb σ x (nI m) post := by
  subst hs hx
  exact m_number hm ha (fun k hk => hJ _ (by omega)) h
theorem p32 {p : Nat} : (32 : Int32) * nI p = nI (32 * p) := pk_mul 32 p
theorem m_isRight {J : Nat → Int32} (hJ : gJ J) (hs : σ.1 11 0 = J) {b p : Nat} (hb1 : 2 ≤ b) (hb2 : b ≤ 16) (h2 : σ.1 10 0 2 = nI b) (hp : p < b) {post : Int32 → ck_S → Prop} (h : post (b2 (rightB J b p)) σ) : sp_X7_isRight nc nb σ (nI p) post := by
  unfold sp_X7_isRight
  refine cu_4 30 nI (fun j s x1 x2 => σ = s ∧ nI p = x1 ∧ ckN (fun k => J (32 * p + k)) j = x2) ?_ ?_ 0 (by omega) _ _ _ ⟨rfl, rfl, rfl⟩ _ rfl
  · rintro j hj s x1 x2 ⟨rfl, rfl, rfl⟩ K hK
    unfold bd_X7_isRight_4
    rw [p32, nI_add]
    refine kb_f (nI_ge (b := 30) hj (by decide)) (al_1 ⟨vp_in_nI (by omega) (by decide), m_checked ?_⟩)
    intro w hw
    refine hK _ _ _ ⟨rfl, rfl, ?_⟩ _ (by rw [hw, nI_succ])
    rw [nI_clamp (by omega), ckN]
    subst hs
    rfl
  · rintro s x1 x2 ⟨rfl, rfl, rfl⟩ K
    unfold bd_X7_isRight_4
    refine kb_t (by decide) ?_
    have e30 : (32 : Int32) * nI p + 30 = nI (32 * p + 30) := by rw [p32]; exact nI_add _ 30
    refine m_num (a := 32 * p) (m := 4) hJ hs (by omega) (by omega) p32 (m_num (a := 32 * p + 30) (m := 2) hJ hs (by omega) (by omega) e30 ?_)
    have hv := vN_lt hJ (p := p) (by omega)
    rw [vN_e]
    simp only [lg_cmp_eq, lg_cmp_lt, lg_cmp_gt]
    have e1 : (lN (vN J p) < 1) ↔ vN J p < 1 := pk_lLT (b := 1) (by omega) (by decide)
    have e2 : (1000000000 < lN (vN J p)) ↔ 1000000000 < vN J p := pk_lLT (a := 1000000000) (by decide) (by omega)
    rw [e1, e2]
    unfold rightB at h
    refine ⟨fun a => ⟨b2_b false, ?_⟩, fun a => ⟨fun c => ⟨b2_b false, ?_⟩, fun c => ⟨fun d => ⟨b2_b false, ?_⟩, fun d => ?_⟩⟩⟩
    · rw [decide_eq_false a] at h
      exact h
    · rw [decide_eq_false (by omega : ¬ (1 ≤ vN J p ∧ vN J p ≤ 1000000000))] at h
      exact (by simpa using h : post (b2 false) σ)
    · rw [decide_eq_false (by omega : ¬ (1 ≤ vN J p ∧ vN J p ≤ 1000000000))] at h
      exact (by simpa using h : post (b2 false) σ)
    · have e3 : lN (vN J p) - 1 = lN (vN J p - 1) := lN_sub (b := 1) (by omega)
      have e4 : (ck_gi σ 10 0 2).toInt64 = lN b := by
        show (σ.1 10 0 2).toInt64 = lN b
        rw [h2, nI_l (by omega)]
      rw [e3, e4]
      refine al_1 (al_1 ⟨?_, ?_⟩)
      · intro q
        have := (lN_eq (b := 0) (by omega) (by decide)).mp q
        omega
      · have hm : (vN J p - 1) % b < b := Nat.mod_lt _ (by omega)
        rw [pk_lRem (by omega) (by omega) (by omega), nI_l (by omega), lN_eq (by omega) (by omega)]
        rw [decide_eq_true a, decide_eq_true (by omega : 1 ≤ vN J p ∧ vN J p ≤ 1000000000)] at h
        refine ⟨fun q => ⟨b2_b false, ?_⟩, fun q => ⟨b2_b true, ?_⟩⟩
        · rw [decide_eq_false q] at h
          exact h
        · rw [decide_eq_true q] at h
          exact h
def qCl (capJ y : Int64) : Int64 := if y < 0 then 0 else if 8192 * capJ < y then 8192 * capJ else y
/-- the fields that the best block sets -/
def mSet (J : Nat → Int32) (p : Nat) (capJ : Int64) (τ : ck_S) : ck_S := ck_ui (ck_uj (ck_ui (ck_ui τ 10 0 8 (nI (vN J p + 1))) 10 0 10 (jN J (32 * p + 4) 4).toInt32) 10 0 11 (qCl capJ (jN J (32 * p + 8) 8))) 10 0 26 ((jN J (32 * p + 16) 2).toInt32 &&& 511)
theorem uj_uj (σ : ck_S) (f i k : Nat) (v w : Int64) : ck_uj (ck_uj σ f i k v) f i k w = ck_uj σ f i k w := by
  unfold ck_uj ck_up
  ext <;> grind
theorem m_beg146 {J : Nat → Int32} (hJ : gJ J) (hs : σ.1 11 0 = J) {b : Nat} (hb1 : 2 ≤ b) (hb2 : b ≤ 16) (h2 : σ.1 10 0 2 = nI b) {post : ck_S → Prop} (h : post (if bst J b b = 0 then σ else mSet J (bst J b b - 1) (σ.2.1 10 0 3) σ)) : lx_3 (bd_X7_begin_146 nc nb post) σ (-1) 0 := by
  refine cu_3 b nI (fun j s x => σ = s ∧ encI (bst J b j) = x) ?_ ?_ 0 (by omega) _ _ ⟨rfl, rfl⟩ _ rfl
  · rintro p hp s x ⟨rfl, rfl⟩ K hK
    unfold bd_X7_begin_146
    have e2 : ck_gi σ 10 0 2 = nI b := h2
    rw [e2]
    refine kb_f (nI_ge hp (by omega)) ?_
    refine m_isRight hJ hs hb1 hb2 h2 hp ?_
    rw [b2_0]
    have ih := bst_ok J b p
    have hvp := vN_lt hJ (p := p) (by omega)
    unfold sp_X7_begin_188 sp_X7_begin_190
    refine ⟨fun a w hw => hK _ _ ⟨rfl, ?_⟩ _ (by rw [hw, nI_succ]), fun a => ?_⟩
    · rw [bst, if_neg (by rw [a]; simp)]
    · rw [Bool.not_eq_false] at a
      by_cases e0 : bst J b p = 0
      · have en : encI (bst J b p) = -1 := by rw [e0]; rfl
        rw [en]
        refine kb_t (by decide) ?_
        intro w hw
        refine hK _ _ ⟨rfl, ?_⟩ _ (by rw [hw, nI_succ])
        rw [bst, if_pos ⟨a, Or.inl e0⟩]
        rfl
      · have en : encI (bst J b p) = nI (bst J b p - 1) := if_neg e0
        rw [en]
        refine kb_f (nI_pos (by omega)) ?_
        have hvq := vN_lt hJ (p := bst J b p - 1) (by omega)
        refine m_num (a := 32 * p) (m := 4) hJ hs (by omega) (by omega) p32 (m_num (a := 32 * (bst J b p - 1)) (m := 4) hJ hs (by omega) (by omega) p32 ?_)
        rw [vN_e, vN_e]
        simp only [lg_cmp_le]
        rw [pk_lLE (by omega) (by omega)]
        refine ⟨fun c w hw => hK _ _ ⟨rfl, ?_⟩ _ (by rw [hw, nI_succ]), fun c w hw => hK _ _ ⟨rfl, ?_⟩ _ (by rw [hw, nI_succ])⟩
        · rw [bst, if_neg (by omega), en]
        · rw [bst, if_pos ⟨a, Or.inr (by omega)⟩]
          rfl
  · rintro s x ⟨rfl, rfl⟩ K
    unfold bd_X7_begin_146
    have e2 : ck_gi σ 10 0 2 = nI b := h2
    rw [e2]
    refine kb_t (nI_le (Nat.le_refl _) (by omega)) ?_
    have ih := bst_ok J b b
    by_cases e0 : bst J b b = 0
    · have en : encI (bst J b b) = -1 := by rw [e0]; rfl
      rw [en]
      rw [if_pos e0] at h
      exact kb_t (by decide) h
    · have en : encI (bst J b b) = nI (bst J b b - 1) := if_neg e0
      rw [en]
      rw [if_neg e0] at h
      refine kb_f (nI_pos (by omega)) ?_
      have hp : bst J b b - 1 < 16 := by omega
      generalize bst J b b - 1 = p at h hp ⊢
      have hvp := vN_lt hJ hp
      have e4 : (32 : Int32) * nI p + 4 = nI (32 * p + 4) := by rw [p32]; exact nI_add _ 4
      have e8 : (32 : Int32) * nI p + 8 = nI (32 * p + 8) := by rw [p32]; exact nI_add _ 8
      have e16 : (32 : Int32) * nI p + 16 = nI (32 * p + 16) := by rw [p32]; exact nI_add _ 16
      refine m_num (a := 32 * p) (m := 4) hJ hs (by omega) (by omega) p32 (al_1 ?_)
      rw [vN_e, lN_i, nI_1]
      refine m_num (σ := ck_ui σ 10 0 8 _) (a := 32 * p + 4) (m := 4) hJ hs (by omega) (by omega) e4 (al_1 ?_)
      refine m_num (σ := ck_ui (ck_ui σ 10 0 8 _) 10 0 10 _) (a := 32 * p + 8) (m := 8) hJ hs (by omega) (by omega) e8 (al_1 ?_)
      have fin : ∀ v, v = qCl (σ.2.1 10 0 3) (jN J (32 * p + 8) 8) → sp_X7_begin_294 nc nb post (ck_uj (ck_ui (ck_ui σ 10 0 8 (nI (vN J p + 1))) 10 0 10 (jN J (32 * p + 4) 4).toInt32) 10 0 11 (jN J (32 * p + 8) 8)) (nI p) v := by
        intro v hv
        unfold sp_X7_begin_294
        refine al_1 ?_
        rw [uj_uj]
        refine m_num (σ := ck_uj (ck_ui (ck_ui σ 10 0 8 _) 10 0 10 _) 10 0 11 _) (a := 32 * p + 16) (m := 2) hJ hs (by omega) (by omega) e16 (al_1 ?_)
        subst hv
        exact h
      simp only [lg_cmp_ge, lg_cmp_le]
      have er : ∀ (a : Int32) (t : Int32) (y : Int64), ck_gj (ck_uj (ck_ui (ck_ui σ 10 0 8 a) 10 0 10 t) 10 0 11 y) 10 0 11 = y := fun a t y => rfl
      have er2 : ∀ (a : Int32) (t : Int32) (y : Int64), ck_gj (ck_uj (ck_ui (ck_ui σ 10 0 8 a) 10 0 10 t) 10 0 11 y) 10 0 3 = σ.2.1 10 0 3 := fun a t y => rfl
      rw [er, er2]
      refine ⟨fun a => ⟨fun c => fin _ ?_, fun c => fin _ ?_⟩, fun a => fin _ ?_⟩
      · unfold qCl
        rw [if_neg (by grind), if_neg (by grind)]
      · unfold qCl
        rw [if_neg (by grind), if_pos (by grind)]
      · unfold qCl
        rw [if_pos (by grind)]
def mBeg0 (σ : ck_S) : ck_S := ck_ui (ck_ui (ck_ui (ck_ui (ck_ui (ck_uj (ck_uj (ck_ui (ck_ui (ck_ui (ck_uj (ck_uj (ck_uj (ck_ui (ck_ui σ 10 0 9 0) 10 0 10 0) 10 0 11 0) 10 0 12 0) 10 0 13 0) 10 0 15 0) 10 0 16 0) 10 0 17 0) 10 0 23 0) 10 0 24 0) 10 0 26 0) 10 0 28 0) 10 0 29 0) 10 0 31 32) 10 0 8 1
def mChips (j : Nat) (σ : ck_S) : ck_S := (fun f i k => if f = 17 ∧ i = 0 ∧ k < j then 0 else if f = 18 ∧ i = 0 ∧ k < j then 1000 else if f = 20 ∧ i = 0 ∧ k < j then 0 else σ.1 f i k, fun f i k => if f = 13 ∧ i = 0 ∧ k < j then 160 else σ.2.1 f i k, σ.2.2)
theorem mChips_0 (σ : ck_S) : mChips 0 σ = σ := by
  unfold mChips
  ext <;> simp
theorem mChips_succ (j : Nat) (σ : ck_S) : ck_ui (ck_ui (ck_ui (ck_uj (mChips j σ) 13 0 j 160) 17 0 j 0) 18 0 j 1000) 20 0 j 0 = mChips (j + 1) σ := by
  unfold mChips ck_ui ck_uj ck_up
  ext a b c
  · show (if a = 20 ∧ b = 0 ∧ c = j then (0 : Int32) else if a = 18 ∧ b = 0 ∧ c = j then 1000 else if a = 17 ∧ b = 0 ∧ c = j then 0 else if a = 17 ∧ b = 0 ∧ c < j then 0 else if a = 18 ∧ b = 0 ∧ c < j then 1000 else if a = 20 ∧ b = 0 ∧ c < j then 0 else σ.1 a b c) = if a = 17 ∧ b = 0 ∧ c < j + 1 then 0 else if a = 18 ∧ b = 0 ∧ c < j + 1 then 1000 else if a = 20 ∧ b = 0 ∧ c < j + 1 then 0 else σ.1 a b c
    by_cases hb : b = 0 <;> by_cases hc : c = j <;> grind (splits := 30)
  · show (if a = 13 ∧ b = 0 ∧ c = j then (160 : Int64) else if a = 13 ∧ b = 0 ∧ c < j then 160 else σ.2.1 a b c) = if a = 13 ∧ b = 0 ∧ c < j + 1 then 160 else σ.2.1 a b c
    grind
  · rfl
def mBegT (σ : ck_S) : ck_S := mChips 4 (pt 19 0 7 (fun _ => 0) (mBeg0 σ))
theorem m_begin {J : Nat → Int32} (hJ : gJ J) (hs : σ.1 11 0 = J) {b : Nat} (hb1 : 2 ≤ b) (hb2 : b ≤ 16) (h2 : σ.1 10 0 2 = nI b) {post : ck_S → Prop} (h : post (if bst J b b = 0 then mBegT σ else mSet J (bst J b b - 1) (σ.2.1 10 0 3) (mBegT σ))) : sp_X7_begin nc nb σ post := by
  unfold sp_X7_begin
  refine al_1 (al_1 (al_1 (al_1 (al_1 (al_1 (al_1 (al_1 (al_1 (al_1 (al_1 (al_1 (al_1 (al_1 (al_1 ?_))))))))))))))
  have eb : ck_ui (ck_ui (ck_ui (ck_ui (ck_ui (ck_uj (ck_uj (ck_ui (ck_ui (ck_ui (ck_uj (ck_uj (ck_uj (ck_ui (ck_ui σ 10 0 9 0) 10 0 10 0) 10 0 11 0) 10 0 12 0) 10 0 13 0) 10 0 15 0) 10 0 16 0) 10 0 17 0) 10 0 23 0) 10 0 24 0) 10 0 26 0) 10 0 28 0) 10 0 29 0) 10 0 31 32) 10 0 8 1 = mBeg0 σ := rfl
  rw [eb]
  refine cu_2 7 nI (fun j s => pt 19 0 j (fun _ => 0) (mBeg0 σ) = s) ?_ ?_ 0 (by omega) _ (pt_0 _ _ _ _) _ rfl
  · rintro j hj s hs' K hK
    unfold bd_X7_begin_78
    rw [nI_clamp (by omega)]
    refine kb_f (nI_ge (b := 7) hj (by decide)) ⟨vp_in_nI hj (by decide), al_1 ?_⟩
    intro w hw
    refine hK _ ?_ _ (by rw [hw, nI_succ])
    rw [← hs']
    have := pt_succ 19 0 j (fun _ => 0) (mBeg0 σ)
    rw [Nat.zero_add] at this
    exact this.symm
  · rintro s hs' K
    unfold bd_X7_begin_78
    refine kb_t (by decide) ?_
    refine cu_2 4 nI (fun j s2 => mChips j s = s2) ?_ ?_ 0 (by omega) _ (mChips_0 _) _ rfl
    · rintro j hj s2 hs2 K2 hK2
      unfold bd_X7_begin_99
      have hv : vp_in (nI j) 4 := vp_in_nI hj (by decide)
      rw [nI_clamp (by omega)]
      refine kb_f (nI_ge (b := 4) hj (by decide)) ⟨hv, al_1 ⟨hv, al_1 ⟨hv, al_1 ⟨hv, al_1 ?_⟩⟩⟩⟩
      intro w hw
      refine hK2 _ ?_ _ (by rw [hw, nI_succ])
      rw [← hs2]
      exact (mChips_succ j s).symm
    · rintro s2 hs2 K2
      unfold bd_X7_begin_99
      refine kb_t (by decide) ?_
      have es : s2 = mBegT σ := by rw [← hs2, ← hs']; rfl
      subst es
      exact m_beg146 (σ := mBegT σ) hJ hs hb1 hb2 h2 h
end PURE
