/-! READINGS OF THE MODEL: the reply part R of a state, and what the reference reads in it. -/
abbrev ck_R : Type := (Nat → Int32) × (Nat → Int32) × (Nat → Int32) × (Nat → Int32) × (Nat → Int64) × (Nat → Int64)
abbrev rp (σ : ck_S) : ck_R := (σ.1 14 0, σ.1 16 0, σ.1 17 0, σ.1 18 0, σ.2.1 15 0, σ.2.1 13 0)
abbrev rN (R : ck_R) : Nat → Int32 := R.1
abbrev rS (R : ck_R) : Nat → Int32 := R.2.1
abbrev rU (R : ck_R) : Nat → Int32 := R.2.2.1
abbrev rA (R : ck_R) : Nat → Int32 := R.2.2.2.1
abbrev rC (R : ck_R) : Nat → Int64 := R.2.2.2.2.1
abbrev rW (R : ck_R) : Nat → Int64 := R.2.2.2.2.2
def mU (R : ck_R) (c : Nat) : Nat := (rU R c).toNatClampNeg
def mSt (R : ck_R) (c : Nat) : Bool := decide (rU R c = 0 ∨ ¬ rA R c ≤ 10)
def mNo (R : ck_R) (c k j : Nat) : Int32 := rN R (6 * (8 * c + (mU R c - 1 - j) % 8) + k)
def cMin (R : ck_R) (c : Nat) : Nat → Int64
  | 0 => rC R (8 * c)
  | j + 1 => if rC R (8 * c + j) < cMin R c j then rC R (8 * c + j) else cMin R c j
def cMax (R : ck_R) (c : Nat) : Nat → Int64
  | 0 => rC R (8 * c)
  | j + 1 => if cMax R c j < rC R (8 * c + j) then rC R (8 * c + j) else cMax R c j
def mNe (R : ck_R) (c k j : Nat) : Bool := decide (¬ mNo R c k j = mNo R c k 0)
def mStuck (R : ck_R) (c k : Nat) : Bool := decide (8 ≤ mU R c) && !(anyB (mNe R c k) 8) && decide (64 < cMax R c 8 - cMin R c 8)
def mV (R : ck_R) (c k : Nat) : Bool := !mSt R c && decide (500 ≤ mNo R c k 0) && decide (mNo R c k 0 ≤ 4999) && decide (((rS R c) >>> (nI k &&& 31)) &&& 1 = 0) && !mStuck R c k
def mBad (R : ck_R) (i : Nat) : Bool := !mV R (i / 6) (i % 6)
def mSum (R : ck_R) : Nat → Int32
  | 0 => 0
  | j + 1 => if mV R (j / 6) (j % 6) then mSum R j + mNo R (j / 6) (j % 6) 0 else mSum R j
def mHot (R : ck_R) : Nat → Int
  | 0 => -800
  | j + 1 => if mHot R j < (rW R j).toInt then (rW R j).toInt else mHot R j
def mCold (R : ck_R) : Nat → Int
  | 0 => 1600
  | j + 1 => if (rW R j).toInt < mCold R j then (rW R j).toInt else mCold R j
def mLeast (R : ck_R) : Nat → Int32
  | 0 => 100000
  | j + 1 => if mV R (j / 6) (j % 6) = true ∧ mNo R (j / 6) (j % 6) 0 < mLeast R j then mNo R (j / 6) (j % 6) 0 else mLeast R j
def gU (R : ck_R) (c u : Nat) : Prop := u ≤ 1000000 ∧ rU R c = nI u
def gR (n : Nat) (R : ck_R) : Prop := ∀ c, c < n → ∃ u, gU R c u
theorem mU_of {R : ck_R} {c u : Nat} (h : gU R c u) : mU R c = u := by unfold mU; rw [h.2, nI_clamp (by have := h.1; omega)]
theorem mV_used {R : ck_R} {c k : Nat} (h : mV R c k = true) {u : Nat} (hu : gU R c u) : 0 < u := by
  rcases Nat.eq_zero_or_pos u with e | e
  · subst e
    have : mSt R c = true := by unfold mSt; rw [hu.2]; simp [nI_0]
    unfold mV at h
    rw [this] at h
    simp at h
  · exact e
section PURE
variable {nc nb : Nat} {σ : ck_S} {R : ck_R}
theorem m_isStale (hR : rp σ = R) {c : Nat} (hc : c < 4) {post : Int32 → ck_S → Prop} (h : post (b2 (mSt R c)) σ) : sp_X7_isStale nc nb σ (nI c) post := by
  subst hR
  have hv : vp_in (nI c) 4 := vp_in_nI hc (by decide)
  unfold sp_X7_isStale
  rw [nI_clamp (by omega)]
  unfold mSt at h
  refine ⟨hv, ⟨fun e => ⟨b2_b true, ?_⟩, fun e => ⟨hv, ⟨fun e2 => ⟨b2_b false, ?_⟩, fun e2 => ⟨b2_b true, ?_⟩⟩⟩⟩⟩
  · have e : rU (rp σ) c = 0 := e
    rw [decide_eq_true (Or.inl e)] at h
    exact h
  · have e : ¬ rU (rp σ) c = 0 := e
    have e2 : rA (rp σ) c ≤ 10 := e2
    rw [decide_eq_false (fun q => q.elim e (fun q => q e2))] at h
    exact h
  · have e2 : ¬ rA (rp σ) c ≤ 10 := e2
    rw [decide_eq_true (Or.inr e2)] at h
    exact h
theorem m_numberOf (hR : rp σ = R) {c k j u : Nat} (hc : c < 4) (hk : k < 6) (hu : gU R c u) (hj : j < u) {post : Int32 → ck_S → Prop} (h : post (mNo R c k j) σ) : sp_X7_numberOf nc nb σ (nI c) (nI k) (nI j) post := by
  subst hR
  have hv : vp_in (nI c) 4 := vp_in_nI hc (by decide)
  have hu1 := hu.1
  unfold sp_X7_numberOf
  rw [nI_clamp (by omega)]
  refine ⟨hv, ?_⟩
  have e : (ck_gi σ 17 0 c) = nI u := hu.2
  rw [e, show (1 : Int32) = nI 1 from rfl, pk_sub (by omega), pk_sub (by omega)]
  refine al_1 (al_1 (al_1 ?_))
  rw [show (8 : Int32) = nI 8 from rfl, pk_rem (by omega) (by decide) (by decide), pk_mul, nI_add, show (6 : Int32) = nI 6 from rfl, pk_mul, nI_add]
  have hlt : 6 * (8 * c + (u - 1 - j) % 8) + k < 192 := by omega
  refine ⟨vp_in_nI hlt (by decide), ?_⟩
  rw [nI_clamp (by omega)]
  unfold mNo at h
  rw [mU_of hu] at h
  exact h
theorem m_isStuck (hR : rp σ = R) {c k u : Nat} (hc : c < 4) (hk : k < 6) (hu : gU R c u) {post : Int32 → ck_S → Prop} (h : post (b2 (mStuck R c k)) σ) : sp_X7_isStuck nc nb σ (nI c) (nI k) post := by
  have hv : vp_in (nI c) 4 := vp_in_nI hc (by decide)
  have hu1 := hu.1
  unfold sp_X7_isStuck
  rw [nI_clamp (by omega)]
  refine ⟨hv, ?_⟩
  have eu : (ck_gi σ 17 0 c) = nI u := by subst hR; exact hu.2
  rw [eu]
  unfold mStuck at h
  rw [mU_of hu] at h
  by_cases h8 : 8 ≤ u
  · rw [decide_eq_true h8, Bool.true_and] at h
    refine kb_t (nI_le (a := 8) h8 (by omega)) ?_
    refine al_1 ?_
    rw [show (8 : Int32) * nI c = nI (8 * c) from pk_mul 8 c, nI_clamp (by omega)]
    refine ⟨vp_in_nI (by omega) (by decide), al_1 ?_⟩
    refine cu_7 8 nI (fun j s x1 x2 x3 x4 x6 => σ = s ∧ nI c = x1 ∧ nI k = x2 ∧ b2 (!(anyB (mNe R c k) j)) = x3 ∧ cMin R c j = x4 ∧ cMax R c j = x6) ?_ ?_ 0 (by omega) _ _ _ _ _ _ ⟨rfl, rfl, rfl, rfl, by subst hR; rfl, by subst hR; rfl⟩ _ rfl
    · rintro j hj s x1 x2 x3 x4 x6 ⟨rfl, rfl, rfl, rfl, rfl, rfl⟩ K hK
      have h67 : ∀ s0, s0 = b2 (!(anyB (mNe R c k) (j + 1))) → sp_X7_isStuck_67 nc nb post K σ (nI c) (nI k) (cMin R c j) (cMax R c j) (nI j) s0 := by
        intro s0 hs0
        unfold sp_X7_isStuck_67 sp_X7_isStuck_97 sp_X7_isStuck_114
        rw [show (8 : Int32) * nI c = nI (8 * c) from pk_mul 8 c, nI_add]
        refine al_1 ?_
        rw [nI_clamp (by omega)]
        refine ⟨vp_in_nI (by omega) (by decide), al_1 ?_⟩
        have eC : ck_gj σ 15 0 (8 * c + j) = rC R (8 * c + j) := by subst hR; rfl
        rw [eC]
        simp only [lg_cmp_ge, lg_cmp_le]
        refine ⟨fun a => ⟨fun b w hw => ?_, fun b w hw => ?_⟩, fun a => ⟨fun b w hw => ?_, fun b w hw => ?_⟩⟩ <;>
        · refine hK _ _ _ _ _ _ ⟨rfl, rfl, rfl, hs0.symm, ?_, ?_⟩ _ (by rw [hw, nI_succ]) <;> simp only [cMin, cMax] <;> grind
      unfold bd_X7_isStuck_33
      refine kb_f (nI_ge (b := 8) hj (by decide)) ?_
      unfold sp_X7_isStuck_66
      rw [b2_0]
      refine ⟨fun a => h67 0 ?_, fun a => ?_⟩
      · rw [anyB, (by simpa using a : anyB (mNe R c k) j = true)]
        rfl
      · have a : anyB (mNe R c k) j = false := by simpa using a
        refine m_numberOf hR hc hk hu (by omega) (m_numberOf (j := 0) hR hc hk hu (by omega) ⟨fun e => h67 0 ?_, fun e => h67 1 ?_⟩)
        · rw [anyB, a, mNe, decide_eq_true e]
          rfl
        · rw [anyB, a, mNe, decide_eq_false (fun q => q e)]
          rfl
    · rintro s x1 x2 x3 x4 x6 ⟨rfl, rfl, rfl, rfl, rfl, rfl⟩ K
      unfold bd_X7_isStuck_33
      refine kb_t (by decide) ?_
      rw [b2_0]
      simp only [lg_cmp_le]
      refine ⟨fun a => ⟨b2_b false, ?_⟩, fun a => ⟨fun b => ⟨b2_b false, ?_⟩, fun b => ⟨b2_b true, ?_⟩⟩⟩
      · rw [a] at h
        exact h
      · rw [decide_eq_false (by grind), Bool.and_false] at h
        exact h
      · have a : (!(anyB (mNe R c k) 8)) = true := by simpa using a
        rw [a, decide_eq_true (by grind)] at h
        exact h
  · rw [decide_eq_false h8] at h
    exact kb_f (nI_ge (b := 8) (by omega) (by decide)) ⟨b2_b false, h⟩
theorem m_isValid (hR : rp σ = R) {c k u : Nat} (hc : c < 4) (hk : k < 6) (hu : gU R c u) {post : Int32 → ck_S → Prop} (h : post (b2 (mV R c k)) σ) : sp_X7_isValid nc nb σ (nI c) (nI k) post := by
  have hv : vp_in (nI c) 4 := vp_in_nI hc (by decide)
  unfold sp_X7_isValid
  refine m_isStale hR hc ?_
  rw [b2_0]
  unfold mV at h
  refine ⟨fun a => ?_, fun a => ⟨b2_b false, ?_⟩⟩
  · have hu0 : 0 < u := by
      rcases Nat.eq_zero_or_pos u with e | e
      · subst e
        have : mSt R c = true := by unfold mSt; rw [hu.2]; simp [nI_0]
        rw [this] at a
        exact absurd a (by decide)
      · exact e
    refine m_numberOf (j := 0) hR hc hk hu hu0 ?_
    rw [a] at h
    rw [nI_clamp (by omega)]
    have eS : ck_gi σ 16 0 c = rS R c := by subst hR; rfl
    rw [eS]
    refine ⟨fun a1 => ⟨b2_b false, ?_⟩, fun a1 => ⟨fun a2 => ⟨b2_b false, ?_⟩, fun a2 => ⟨hv, ⟨fun a3 => ⟨b2_b false, ?_⟩, fun a3 => ?_⟩⟩⟩⟩
    · rw [decide_eq_false (by grind : ¬ 500 ≤ mNo R c k 0)] at h
      exact (by simpa using h : post (b2 false) σ)
    · rw [decide_eq_false (by grind : ¬ mNo R c k 0 ≤ 4999)] at h
      exact (by simpa using h : post (b2 false) σ)
    · rw [decide_eq_false a3] at h
      exact (by simpa using h : post (b2 false) σ)
    · refine m_isStuck hR hc hk hu ?_
      rw [decide_eq_true (by grind : 500 ≤ mNo R c k 0), decide_eq_true (by grind : mNo R c k 0 ≤ 4999), decide_eq_true a3] at h
      rw [b2_0]
      refine ⟨fun a4 => ⟨b2_b false, ?_⟩, fun a4 => ⟨b2_b true, ?_⟩⟩
      · rw [Bool.not_eq_false] at a4
        rw [a4] at h
        exact h
      · rw [a4] at h
        exact h
  · rw [Bool.not_eq_false] at a
    rw [a] at h
    exact h
/-! the flat loops over 6 n cells -/
theorem m_cell {n j : Nat} (hj : j < 6 * n) (hn : n ≤ 4) : nI j / 6 = nI (j / 6) ∧ nI j - nI j / 6 * 6 = nI (j % 6) ∧ j / 6 < 4 ∧ j / 6 < n ∧ j % 6 < 6 :=
  ⟨pk_div (d := 6) (by omega) (by decide) (by decide), pk_rem (d := 6) (by omega) (by decide) (by decide), by omega, by omega, by omega⟩
theorem m_areAllValid (hR : rp σ = R) {n : Nat} (hn : n ≤ 4) (h1 : σ.1 10 0 1 = nI n) (hg : gR n R) {post : Int32 → ck_S → Prop} (h : post (b2 (!anyB (mBad R) (6 * n))) σ) : sp_X7_areAllValid nc nb σ post := by
  unfold sp_X7_areAllValid
  have h6 : (6 : Int32) * ck_gi σ 10 0 1 = nI (6 * n) := by show (6 : Int32) * σ.1 10 0 1 = _; rw [h1]; exact pk_mul 6 n
  refine cu_3 (6 * n) nI (fun j s x => σ = s ∧ b2 (!anyB (mBad R) j) = x) ?_ ?_ 0 (by omega) _ _ ⟨rfl, rfl⟩ _ rfl
  · rintro j hj s x ⟨rfl, rfl⟩ K hK
    unfold bd_X7_areAllValid_4 sp_X7_areAllValid_38 sp_X7_areAllValid_39
    rw [h6]
    obtain ⟨e1, e2, l1, l2, l3⟩ := m_cell hj hn
    obtain ⟨u, hu⟩ := hg _ l2
    refine kb_f (nI_ge hj (by omega)) ?_
    rw [b2_0]
    refine ⟨fun a w hw => hK _ _ ⟨rfl, ?_⟩ _ (by rw [hw, nI_succ]), fun a => ?_⟩
    · rw [anyB]
      have a : anyB (mBad R) j = true := by simpa using a
      rw [a]
      rfl
    · have a : anyB (mBad R) j = false := by simpa using a
      rw [e2, e1]
      refine m_isValid hR l1 l3 hu ?_
      rw [b2_0]
      refine ⟨fun b w hw => hK _ _ ⟨rfl, ?_⟩ _ (by rw [hw, nI_succ]), fun b w hw => hK _ _ ⟨rfl, ?_⟩ _ (by rw [hw, nI_succ])⟩
      · rw [anyB, a, mBad, b]
        rfl
      · rw [Bool.not_eq_false] at b
        rw [anyB, a, mBad, b]
        rfl
  · rintro s x ⟨rfl, rfl⟩ K
    unfold bd_X7_areAllValid_4
    rw [h6]
    exact kb_t (nI_le (Nat.le_refl _) (by omega)) ⟨b2_b _, h⟩
theorem m_sum (hR : rp σ = R) {n : Nat} (hn : n ≤ 4) (h1 : σ.1 10 0 1 = nI n) (hg : gR n R) {post : Int32 → ck_S → Prop} (h : post (mSum R (6 * n)) σ) : sp_X7_sum nc nb σ post := by
  unfold sp_X7_sum
  have h6 : (6 : Int32) * ck_gi σ 10 0 1 = nI (6 * n) := by show (6 : Int32) * σ.1 10 0 1 = _; rw [h1]; exact pk_mul 6 n
  refine cu_3 (6 * n) nI (fun j s x => σ = s ∧ mSum R j = x) ?_ ?_ 0 (by omega) _ _ ⟨rfl, rfl⟩ _ rfl
  · rintro j hj s x ⟨rfl, rfl⟩ K hK
    unfold bd_X7_sum_4 sp_X7_sum_49
    rw [h6]
    obtain ⟨e1, e2, l1, l2, l3⟩ := m_cell hj hn
    obtain ⟨u, hu⟩ := hg _ l2
    refine kb_f (nI_ge hj (by omega)) ?_
    rw [e2, e1]
    refine m_isValid hR l1 l3 hu ?_
    rw [b2_0]
    refine ⟨fun b w hw => hK _ _ ⟨rfl, ?_⟩ _ (by rw [hw, nI_succ]), fun b => ?_⟩
    · rw [mSum, b]
      rfl
    · rw [Bool.not_eq_false] at b
      refine m_numberOf (j := 0) hR l1 l3 hu (mV_used b hu) (fun w hw => hK _ _ ⟨rfl, ?_⟩ _ (by rw [hw, nI_succ]))
      rw [mSum, b]
      rfl
  · rintro s x ⟨rfl, rfl⟩ K
    unfold bd_X7_sum_4
    rw [h6]
    exact kb_t (nI_le (Nat.le_refl _) (by omega)) h
theorem m_hottest (hR : rp σ = R) {n : Nat} (hn : n ≤ 4) (hn1 : 1 ≤ n) (h1 : σ.1 10 0 1 = nI n) (hw0 : -800 ≤ (rW R 0).toInt) {post : Int64 → ck_S → Prop} (h : ∀ y : Int64, y.toInt = mHot R n → post y σ) : sp_X7_hottest nc nb σ post := by
  unfold sp_X7_hottest
  refine ⟨vp_in_nI (n := 0) (by decide) (by decide), al_1 ?_⟩
  have h6 : ck_gi σ 10 0 1 = nI n := h1
  refine cu_3 n nI (fun j s x => σ = s ∧ x.toInt = mHot R j) ?_ ?_ 1 hn1 _ _ ⟨rfl, ?_⟩ _ rfl
  · rintro j hj s x ⟨rfl, hx⟩ K hK
    unfold bd_X7_hottest_9 sp_X7_hottest_38
    rw [h6, nI_clamp (by omega)]
    refine kb_f (nI_ge hj (by omega)) ⟨vp_in_nI (by omega) (by decide), ?_⟩
    have eC : ck_gj σ 13 0 j = rW R j := by subst hR; rfl
    rw [eC]
    simp only [lg_cmp_le]
    refine ⟨fun b w hw => hK _ _ ⟨rfl, ?_⟩ _ (by rw [hw, nI_succ]), fun b => ⟨vp_in_nI (by omega) (by decide), fun w hw => hK _ _ ⟨rfl, ?_⟩ _ (by rw [hw, nI_succ])⟩⟩
    · rw [Int64.le_iff_toInt_le] at b
      rw [mHot, if_neg (by omega), hx]
    · rw [Int64.le_iff_toInt_le] at b
      rw [mHot, if_pos (by omega)]
  · rintro s x ⟨rfl, hx⟩ K
    unfold bd_X7_hottest_9
    rw [h6]
    exact kb_t (nI_le (Nat.le_refl _) (by omega)) (h _ hx)
  · subst hR
    have : -800 ≤ (σ.2.1 13 0 0).toInt := hw0
    show (σ.2.1 13 0 0).toInt = if -800 < (σ.2.1 13 0 0).toInt then (σ.2.1 13 0 0).toInt else -800
    omega
theorem m_coldest (hR : rp σ = R) {n : Nat} (hn : n ≤ 4) (hn1 : 1 ≤ n) (h1 : σ.1 10 0 1 = nI n) (hw0 : (rW R 0).toInt ≤ 1600) {post : Int64 → ck_S → Prop} (h : ∀ y : Int64, y.toInt = mCold R n → post y σ) : sp_X7_coldest nc nb σ post := by
  unfold sp_X7_coldest
  refine ⟨vp_in_nI (n := 0) (by decide) (by decide), al_1 ?_⟩
  have h6 : ck_gi σ 10 0 1 = nI n := h1
  refine cu_3 n nI (fun j s x => σ = s ∧ x.toInt = mCold R j) ?_ ?_ 1 hn1 _ _ ⟨rfl, ?_⟩ _ rfl
  · rintro j hj s x ⟨rfl, hx⟩ K hK
    unfold bd_X7_coldest_9 sp_X7_coldest_38
    rw [h6, nI_clamp (by omega)]
    refine kb_f (nI_ge hj (by omega)) ⟨vp_in_nI (by omega) (by decide), ?_⟩
    have eC : ck_gj σ 13 0 j = rW R j := by subst hR; rfl
    rw [eC]
    simp only [lg_cmp_ge]
    refine ⟨fun b w hw => hK _ _ ⟨rfl, ?_⟩ _ (by rw [hw, nI_succ]), fun b => ⟨vp_in_nI (by omega) (by decide), fun w hw => hK _ _ ⟨rfl, ?_⟩ _ (by rw [hw, nI_succ])⟩⟩
    · rw [Int64.le_iff_toInt_le] at b
      rw [mCold, if_neg (by omega), hx]
    · rw [Int64.le_iff_toInt_le] at b
      rw [mCold, if_pos (by omega)]
  · rintro s x ⟨rfl, hx⟩ K
    unfold bd_X7_coldest_9
    rw [h6]
    exact kb_t (nI_le (Nat.le_refl _) (by omega)) (h _ hx)
  · subst hR
    have : (σ.2.1 13 0 0).toInt ≤ 1600 := hw0
    show (σ.2.1 13 0 0).toInt = if (σ.2.1 13 0 0).toInt < 1600 then (σ.2.1 13 0 0).toInt else 1600
    omega
end PURE
