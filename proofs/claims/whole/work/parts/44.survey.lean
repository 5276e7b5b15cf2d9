/-! THE CLASS'S CHIPS AND SURVEY. -/
theorem kd_8 : ck_dq 4620693217682128896 8 0 := (show FP.i2d 8 = 4620693217682128896 by decide +kernel) ▸ ck_i2d 8
theorem kd_1024 : ck_dq 4652218415073722368 1024 0 := (show FP.i2d 1024 = 4652218415073722368 by decide +kernel) ▸ ck_i2d 1024
theorem kd_10000 : ck_dq 4666723172467343360 10000 0 := (show FP.i2d 10000 = 4666723172467343360 by decide +kernel) ▸ ck_i2d 10000
theorem kd_45 : ck_dq 4631530004285489152 45 0 := (show FP.i2d 45 = 4631530004285489152 by decide +kernel) ▸ ck_i2d 45
theorem kd_61 : ck_dq 4633781804099174400 61 0 := (show FP.i2d 61 = 4633781804099174400 by decide +kernel) ▸ ck_i2d 61
theorem kd_4 : ck_dq 4616189618054758400 4 0 := (show FP.i2d 4 = 4616189618054758400 by decide +kernel) ▸ ck_i2d 4
theorem kd_64 : ck_dq 4634204016564240384 64 0 := (show FP.i2d 64 = 4634204016564240384 by decide +kernel) ▸ ck_i2d 64
theorem kd_10 : ck_dq 4621819117588971520 10 0 := (show FP.i2d 10 = 4621819117588971520 by decide +kernel) ▸ ck_i2d 10
theorem kd_m22 : ck_dq 13850257704024539136 (-22) 0 := (show FP.i2d (-22) = 13850257704024539136 by decide +kernel) ▸ ck_i2d (-22)
theorem kd_22 : ck_dq 4626885667169763328 22 0 := (show FP.i2d 22 = 4626885667169763328 by decide +kernel) ▸ ck_i2d 22
theorem kd_2 : ck_dq 4611686018427387904 2 0 := (show FP.i2d 2 = 4611686018427387904 by decide +kernel) ▸ ck_i2d 2
theorem kd_512 : ck_dq 4647714815446351872 512 0 := (show FP.i2d 512 = 4647714815446351872 by decide +kernel) ▸ ck_i2d 512
theorem kd_300 : ck_dq 4643985272004935680 300 0 := (show FP.i2d 300 = 4643985272004935680 by decide +kernel) ▸ ck_i2d 300
theorem kd_150 : ck_dq 4639481672377565184 150 0 := (show FP.i2d 150 = 4639481672377565184 by decide +kernel) ▸ ck_i2d 150
theorem kd_60 : ck_dq 4633641066610819072 60 0 := (show FP.i2d 60 = 4633641066610819072 by decide +kernel) ▸ ck_i2d 60
theorem kd_m30 : ck_dq 13852509503838224384 (-30) 0 := (show FP.i2d (-30) = 13852509503838224384 by decide +kernel) ▸ ck_i2d (-30)
theorem kd_8192 : ck_dq 4665729213955833856 8192 0 := (show FP.i2d 8192 = 4665729213955833856 by decide +kernel) ▸ ck_i2d 8192
theorem kd_20 : ck_dq 4626322717216342016 20 0 := (show FP.i2d 20 = 4626322717216342016 by decide +kernel) ▸ ck_i2d 20
theorem kd_m100 : ck_dq 13860109328209412096 (-100) 0 := (show FP.i2d (-100) = 13860109328209412096 by decide +kernel) ▸ ck_i2d (-100)
theorem kd_200 : ck_dq 4641240890982006784 200 0 := (show FP.i2d 200 = 4641240890982006784 by decide +kernel) ▸ ck_i2d 200
theorem kd_m2000 : ck_dq 13879882945323335680 (-2000) 0 := (show FP.i2d (-2000) = 13879882945323335680 by decide +kernel) ▸ ck_i2d (-2000)
theorem kd_2000 : ck_dq 4656510908468559872 2000 0 := (show FP.i2d 2000 = 4656510908468559872 by decide +kernel) ▸ ck_i2d 2000
theorem kd_100 : ck_dq 4636737291354636288 100 0 := (show FP.i2d 100 = 4636737291354636288 by decide +kernel) ▸ ck_i2d 100
theorem kd_0 : ck_dq FP.dconst0 0 0 := (show FP.i2d 0 = FP.dconst0 by decide +kernel) ▸ ck_i2d 0
theorem kd_half : ck_dq 4602678819172646912 1 1 := (show FP.ddiv (FP.i2d 1) (FP.i2d 2) = 4602678819172646912 by decide +kernel) ▸ ck_ddiv2 (Q := 0) (T := 1) (ck_i2d 1) (ck_i2d 2) (by decide) (by decide)
theorem kd_8th : ck_dq 4593671619917905920 1 3 := (show FP.ddiv (FP.i2d 1) (FP.i2d 8) = 4593671619917905920 by decide +kernel) ▸ ck_ddiv2 (Q := 0) (T := 3) (ck_i2d 1) (ck_i2d 8) (by decide) (by decide)
/-! the chip's relation -/
abbrev ck_T : Type := (Nat → Int32) × (Nat → Int32) × (Nat → Int32) × (Nat → UInt64) × (Nat → UInt64)
abbrev cp (σ : ck_S) (c : Nat) : ck_T := (σ.1 30 c, σ.1 31 c, σ.1 32 c, σ.2.2 33 c, σ.2.2 30 c)
def Rch (B : Nat) (T : ck_T) (R : ck_R) (c : Nat) : Prop :=
  ∃ u g, u ≤ B ∧ g ≤ B ∧ T.1 4 = nI u ∧ rU R c = nI u ∧ T.1 5 = nI g ∧ (0 < u → rA R c = nI (min g 1000)) ∧ (0 < u → T.1 3 = rS R c) ∧
  (∀ k, k < 6 → 0 < u → T.2.1 k = mNo R c k 0) ∧
  (∀ k, k < 6 → 0 < u → ∃ a, 1 ≤ a ∧ a ≤ u ∧ T.2.2.1 k = nI a ∧ ∀ m, m ≤ 8 → m ≤ u → ((∀ j, j < m → mNo R c k j = mNo R c k 0) ↔ m ≤ a)) ∧
  (∀ j, j < 8 → ck_dq (T.2.2.2.1 j) (rC R (8 * c + j)).toInt 3 ∧ -16000 ≤ (rC R (8 * c + j)).toInt ∧ (rC R (8 * c + j)).toInt ≤ 16000) ∧
  ck_dq (T.2.2.2.2 6) (rW R c).toInt 3 ∧ -800 ≤ (rW R c).toInt ∧ (rW R c).toInt ≤ 1600
theorem Rch_gU {B : Nat} (hB : B ≤ 1000000) {T : ck_T} {R : ck_R} {c : Nat} (h : Rch B T R c) : ∃ u, gU R c u := by
  obtain ⟨u, g, h1, h2, h3, h4, h5⟩ := h
  exact ⟨u, by omega, h4⟩
theorem cMin_b {R : ck_R} {c : Nat} (h : ∀ j, j < 8 → -16000 ≤ (rC R (8 * c + j)).toInt ∧ (rC R (8 * c + j)).toInt ≤ 16000) : ∀ j, j ≤ 8 → (-16000 ≤ (cMin R c j).toInt ∧ (cMin R c j).toInt ≤ 16000) ∧ (-16000 ≤ (cMax R c j).toInt ∧ (cMax R c j).toInt ≤ 16000)
  | 0, _ => ⟨h 0 (by omega), h 0 (by omega)⟩
  | j + 1, hj => by
    have ih := cMin_b h j (by omega)
    have hc := h j (by omega)
    rw [cMin, cMax]
    constructor
    · split <;> first | exact hc | exact ih.1
    · split <;> first | exact hc | exact ih.2
section PURE
variable {nc nb : Nat} {σ : ck_S} {R : ck_R} {c B : Nat}
theorem c_isStale (hB : B ≤ 1000000) (hT : Rch B (cp σ c) R c) {post : Int32 → ck_S → Prop} (h : post (b2 (mSt R c)) σ) : sp_X3_isStale nc nb σ c post := by
  obtain ⟨u, g, h1, h2, h3, h4, h5, h6, h7⟩ := hT
  unfold sp_X3_isStale
  have h3 : ck_gi σ 30 c 4 = nI u := h3
  have h5 : ck_gi σ 30 c 5 = nI g := h5
  rw [h3, h5]
  unfold mSt at h
  rw [h4] at h
  refine ⟨fun e => ⟨b2_b true, ?_⟩, fun e => ⟨fun e2 => ⟨b2_b false, ?_⟩, fun e2 => ⟨b2_b true, ?_⟩⟩⟩
  · rw [decide_eq_true (Or.inl e)] at h
    exact h
  · have hu : 0 < u := by
      rcases Nat.eq_zero_or_pos u with e3 | e3
      · subst e3; exact absurd rfl e
      · exact e3
    rw [h6 hu] at h
    have : g ≤ 10 := (nI_leI (b := 10) (by omega) (by decide)).mp e2
    have : nI (min g 1000) ≤ 10 := nI_le (b := 10) (by omega) (by decide)
    rw [decide_eq_false (fun q => q.elim e (fun q => q this))] at h
    exact h
  · have hu : 0 < u := by
      rcases Nat.eq_zero_or_pos u with e3 | e3
      · subst e3; exact absurd rfl e
      · exact e3
    rw [h6 hu] at h
    have : 10 < g := by
      rcases Nat.lt_or_ge 10 g with q | q
      · exact q
      · exact absurd (nI_le (b := 10) q (by decide)) e2
    have : ¬ nI (min g 1000) ≤ 10 := nI_ge (a := 10) (by omega) (by omega)
    rw [decide_eq_true (Or.inr this)] at h
    exact h
theorem c_swing (hT : Rch B (cp σ c) R c) {post : Int32 → ck_S → Prop} (h : post (b2 (decide (64 < cMax R c 8 - cMin R c 8))) σ) : sp_X3_currentsSwing nc nb σ c post := by
  obtain ⟨u, g, h1, h2, h3, h4, h5, h6, h7, h8, h9, h10, h11⟩ := hT
  have hb : ∀ j, j < 8 → -16000 ≤ (rC R (8 * c + j)).toInt ∧ (rC R (8 * c + j)).toInt ≤ 16000 := fun j hj => (h10 j hj).2
  have hv : vp_in 0 8 := vp_in_nI (n := 0) (by decide) (by decide)
  unfold sp_X3_currentsSwing
  refine ⟨hv, al_1 ⟨hv, al_1 (al_1 ?_)⟩⟩
  refine cu_5 8 nI (fun j s x1 x3 x6 => σ = s ∧ ck_dq x1 (cMin R c j).toInt 3 ∧ ck_dq x3 (cMax R c j).toInt 3 ∧ nI 8 = x6) ?_ ?_ 0 (by omega) _ _ _ _ ⟨rfl, (h10 0 (by omega)).1, (h10 0 (by omega)).1, rfl⟩ _ rfl
  · rintro j hj s x1 x3 x6 ⟨rfl, d1, d3, rfl⟩ K hK
    unfold bd_X3_currentsSwing_28
    refine kb_f (nI_ge hj (by decide)) ⟨vp_in_nI hj (by decide), al_1 ?_⟩
    rw [nI_clamp (by omega)]
    have dz : ck_dq (ck_gd σ 33 c j) (rC R (8 * c + j)).toInt 3 := (h10 j hj).1
    unfold sp_X3_currentsSwing_55 sp_X3_currentsSwing_69
    rw [ck_dcmp dz d1 (by decide), ck_dcmp dz d3 (by decide)]
    simp only [cv_ge, cv_le]
    refine ⟨fun a => ⟨fun b w hw => ?_, fun b w hw => ?_⟩, fun a => ⟨fun b w hw => ?_, fun b w hw => ?_⟩⟩
    · refine hK _ _ _ _ ⟨rfl, ?_, ?_, rfl⟩ _ (by rw [hw, nI_succ])
      · rw [cMin, if_neg (by rw [Int64.lt_iff_toInt_lt]; omega)]; exact d1
      · rw [cMax, if_neg (by rw [Int64.lt_iff_toInt_lt]; omega)]; exact d3
    · refine hK _ _ _ _ ⟨rfl, ?_, ?_, rfl⟩ _ (by rw [hw, nI_succ])
      · rw [cMin, if_neg (by rw [Int64.lt_iff_toInt_lt]; omega)]; exact d1
      · rw [cMax, if_pos (by rw [Int64.lt_iff_toInt_lt]; omega)]; exact dz
    · refine hK _ _ _ _ ⟨rfl, ?_, ?_, rfl⟩ _ (by rw [hw, nI_succ])
      · rw [cMin, if_pos (by rw [Int64.lt_iff_toInt_lt]; omega)]; exact dz
      · rw [cMax, if_neg (by rw [Int64.lt_iff_toInt_lt]; omega)]; exact d3
    · refine hK _ _ _ _ ⟨rfl, ?_, ?_, rfl⟩ _ (by rw [hw, nI_succ])
      · rw [cMin, if_pos (by rw [Int64.lt_iff_toInt_lt]; omega)]; exact dz
      · rw [cMax, if_pos (by rw [Int64.lt_iff_toInt_lt]; omega)]; exact dz
  · rintro s x1 x3 x6 ⟨rfl, d1, d3, rfl⟩ K
    unfold bd_X3_currentsSwing_28
    refine kb_t (by decide) ?_
    have bb := cMin_b hb 8 (by omega)
    have ds := ck_dsub d3 d1 (by omega) (by decide)
    refine ⟨ck_dq_n64 ds, ?_⟩
    rw [ck_dcmp ds (ck_dq_up 3 kd_8) (by decide)]
    simp only [cv_le]
    have e : (cMax R c 8 - cMin R c 8).toInt = (cMax R c 8).toInt - (cMin R c 8).toInt := by
      rw [Int64.toInt_sub]
      exact Int.bmod_eq_of_le (by omega) (by omega)
    have e2 : (64 < cMax R c 8 - cMin R c 8) ↔ 64 < (cMax R c 8).toInt - (cMin R c 8).toInt := by
      rw [Int64.lt_iff_toInt_lt, e]
      exact Iff.rfl
    refine ⟨fun a => ⟨b2_b false, ?_⟩, fun a => ⟨b2_b true, ?_⟩⟩
    · rw [decide_eq_false (by rw [e2]; omega)] at h
      exact h
    · rw [decide_eq_true (by rw [e2]; omega)] at h
      exact h
theorem c_isStuck (hB : B ≤ 1000000) (hT : Rch B (cp σ c) R c) {k : Nat} (hk : k < 6) (hs : mSt R c = false) {post : Int32 → ck_S → Prop} (h : post (b2 (mStuck R c k)) σ) : sp_X3_isStuck nc nb σ c (nI k) post := by
  have hT0 := hT
  obtain ⟨u, g, h1, h2, h3, h4, h5, h6, h7, h8, h9, h10, h11⟩ := hT
  have hu0 : 0 < u := by
    rcases Nat.eq_zero_or_pos u with e | e
    · subst e
      have : mSt R c = true := by unfold mSt; rw [h4]; simp [nI_0]
      rw [this] at hs
      exact absurd hs (by decide)
    · exact e
  obtain ⟨a, a1, a2, a3, a4⟩ := h9 k hk hu0
  unfold sp_X3_isStuck
  rw [nI_clamp (by omega)]
  have a3 : ck_gi σ 32 c k = nI a := a3
  rw [a3]
  refine ⟨vp_in_nI hk (by decide), ?_⟩
  unfold mStuck at h
  rw [mU_of (⟨by omega, h4⟩ : gU R c u)] at h
  by_cases h8a : a < 8
  · refine kb_t (nI_lt (b := 8) h8a (by decide)) ⟨b2_b false, ?_⟩
    by_cases hu8 : 8 ≤ u
    · have : anyB (mNe R c k) 8 = true := by
        rcases hq : anyB (mNe R c k) 8 with _ | _
        · exfalso
          rw [anyB_false] at hq
          have := (a4 8 (by omega) hu8).mp (fun j hj => by
            have := hq j hj
            unfold mNe at this
            simpa using this)
          omega
        · rfl
      rw [this] at h
      simpa [b2] using h
    · rw [decide_eq_false hu8] at h
      exact h
  · refine kb_f (nI_nlt (b := 8) (by omega) (by omega)) (c_swing hT0 ?_)
    have hall := (a4 8 (by omega) (by omega)).mpr (by omega)
    have : anyB (mNe R c k) 8 = false := by
      rw [anyB_false]
      intro j hj
      unfold mNe
      simpa using hall j hj
    rw [this, decide_eq_true (by omega : 8 ≤ u)] at h
    rw [b2_0]
    refine ⟨fun e => ⟨b2_b false, ?_⟩, fun e => ⟨b2_b true, ?_⟩⟩
    · rw [e] at h
      exact h
    · rw [Bool.not_eq_false] at e
      rw [e] at h
      exact h
theorem c_number (hB : B ≤ 1000000) (hT : Rch B (cp σ c) R c) {k : Nat} (hk : k < 6) (hs : mSt R c = false) : σ.1 31 c k = mNo R c k 0 := by
  obtain ⟨u, g, h1, h2, h3, h4, h5, h6, h7, h8, h9, h10, h11⟩ := hT
  have hu0 : 0 < u := by
    rcases Nat.eq_zero_or_pos u with e | e
    · subst e
      have : mSt R c = true := by unfold mSt; rw [h4]; simp [nI_0]
      rw [this] at hs
      exact absurd hs (by decide)
    · exact e
  exact h8 k hk hu0
theorem c_isValid (hB : B ≤ 1000000) (hT : Rch B (cp σ c) R c) {k : Nat} (hk : k < 6) {post : Int32 → ck_S → Prop} (h : post (b2 (mV R c k)) σ) : sp_X3_isValid nc nb σ c (nI k) post := by
  have hv : vp_in (nI k) 6 := vp_in_nI hk (by decide)
  unfold sp_X3_isValid
  refine c_isStale hB hT ?_
  rw [b2_0]
  unfold mV at h
  refine ⟨fun a => ⟨b2_b false, ?_⟩, fun a => ⟨hv, ?_⟩⟩
  · rw [Bool.not_eq_false] at a
    rw [a] at h
    exact h
  · rw [nI_clamp (by omega)]
    have e1 : ck_gi σ 31 c k = mNo R c k 0 := c_number hB hT hk a
    have e2 : ck_gi σ 30 c 3 = rS R c := by
      obtain ⟨u, g, h1, h2, h3, h4, h5, h6, h7, h8, h9, h10, h11⟩ := hT
      have hu0 : 0 < u := by
        rcases Nat.eq_zero_or_pos u with e | e
        · subst e
          have : mSt R c = true := by unfold mSt; rw [h4]; simp [nI_0]
          rw [this] at a
          exact absurd a (by decide)
        · exact e
      exact h7 hu0
    rw [e1, e2, sh_1 k (by omega)]
    rw [a] at h
    refine ⟨fun a1 => ⟨b2_b false, ?_⟩, fun a1 => ⟨hv, ⟨fun a2 => ⟨fun a3 => ⟨b2_b false, ?_⟩, fun a3 => ?_⟩, fun a2 => ⟨b2_b false, ?_⟩⟩⟩⟩
    · rw [decide_eq_false (by grind : ¬ 500 ≤ mNo R c k 0)] at h
      exact (by simpa using h : post (b2 false) σ)
    · rw [decide_eq_false a3] at h
      exact (by simpa using h : post (b2 false) σ)
    · refine c_isStuck hB hT hk a ?_
      rw [decide_eq_true (by grind : 500 ≤ mNo R c k 0), decide_eq_true a2, decide_eq_true a3] at h
      rw [b2_0]
      refine ⟨fun a4 => ⟨b2_b false, ?_⟩, fun a4 => ⟨b2_b true, ?_⟩⟩
      · rw [Bool.not_eq_false] at a4
        rw [a4] at h
        exact h
      · rw [a4] at h
        exact h
    · rw [decide_eq_false a2] at h
      exact (by simpa using h : post (b2 false) σ)
end PURE
/-! what a look shows -/
def mInv (R : ck_R) (i : Nat) : Bool := !mSt R (i / 6) && !mV R (i / 6) (i % 6)
def sLeast (R : ck_R) : Nat → Int32
  | 0 => 2147483647
  | j + 1 => if mV R (j / 6) (j % 6) = true ∧ mNo R (j / 6) (j % 6) 0 < sLeast R j then mNo R (j / 6) (j % 6) 0 else sLeast R j
def sMost (R : ck_R) : Nat → Int32
  | 0 => 0
  | j + 1 => if mV R (j / 6) (j % 6) = true ∧ sMost R j < mNo R (j / 6) (j % 6) 0 then mNo R (j / 6) (j % 6) 0 else sMost R j
def SVp (c f : Nat) (σ : ck_S) (R : ck_R) : Prop := σ.1 2 0 0 = b2 (anyB (mSt R) c) ∧ σ.1 2 0 1 = b2 (anyB (mInv R) f) ∧ σ.1 2 0 2 = mSum R f ∧ σ.1 2 0 3 = sLeast R f ∧ σ.1 2 0 4 = sMost R f
def SVd (c : Nat) (σ : ck_S) (R : ck_R) : Prop := ck_dq (σ.2.2 2 0 5) (mHot R c) 3 ∧ ck_dq (σ.2.2 2 0 6) (mCold R c) 3
/-- only family f0 may differ -/
def Fr (f0 : Nat) (σ τ : ck_S) : Prop := ∀ f, f ≠ f0 → τ.1 f = σ.1 f ∧ τ.2.1 f = σ.2.1 f ∧ τ.2.2 f = σ.2.2 f
theorem Fr_refl (f0 : Nat) (σ : ck_S) : Fr f0 σ σ := fun _ _ => ⟨rfl, rfl, rfl⟩
theorem Fr_ui {f0 : Nat} {σ τ : ck_S} (h : Fr f0 σ τ) (i k : Nat) (v : Int32) : Fr f0 σ (ck_ui τ f0 i k v) := fun f hf => by
  obtain ⟨h1, h2, h3⟩ := h f hf
  refine ⟨?_, h2, h3⟩
  rw [← h1]
  funext a b
  simp [ck_ui, ck_up, hf]
theorem Fr_ud {f0 : Nat} {σ τ : ck_S} (h : Fr f0 σ τ) (i k : Nat) (v : UInt64) : Fr f0 σ (ck_ud τ f0 i k v) := fun f hf => by
  obtain ⟨h1, h2, h3⟩ := h f hf
  refine ⟨h1, h2, ?_⟩
  rw [← h3]
  funext a b
  simp [ck_ud, ck_up, hf]
theorem Fr_cp {σ τ : ck_S} (h : Fr 2 σ τ) (c : Nat) : cp τ c = cp σ c := by
  show (τ.1 30 c, τ.1 31 c, τ.1 32 c, τ.2.2 33 c, τ.2.2 30 c) = _
  rw [(h 30 (by decide)).1, (h 31 (by decide)).1, (h 32 (by decide)).1, (h 33 (by decide)).2.2, (h 30 (by decide)).2.2]
theorem sv_stale {R : ck_R} {c : Nat} (hs : mSt R c = true) : ∀ k, k ≤ 6 → anyB (mInv R) (6 * c + k) = anyB (mInv R) (6 * c) ∧ mSum R (6 * c + k) = mSum R (6 * c) ∧ sLeast R (6 * c + k) = sLeast R (6 * c) ∧ sMost R (6 * c + k) = sMost R (6 * c)
  | 0, _ => ⟨rfl, rfl, rfl, rfl⟩
  | k + 1, hk => by
    obtain ⟨h1, h2, h3, h4⟩ := sv_stale hs k (by omega)
    have e1 : (6 * c + k) / 6 = c := by omega
    have hv : ∀ j, mV R c j = false := by
      intro j
      unfold mV
      rw [hs]
      simp
    rw [← Nat.add_assoc]
    refine ⟨?_, ?_, ?_, ?_⟩
    · rw [anyB, h1, mInv, e1, hs]
      simp
    · rw [mSum, e1, hv, h2]
      rfl
    · rw [sLeast, e1, hv, h3]
      simp
    · rw [sMost, e1, hv, h4]
      simp
section PURE2
variable {nc nb : Nat} {σ : ck_S} {R : ck_R} {B : Nat}
theorem c_lookAtCells (hB : B ≤ 1000000) {c n : Nat} (hT : Rch B (cp σ c) R c) (hs : mSt R c = false) {τ : ck_S} (hF : Fr 2 σ τ) (hS : SVp n (6 * c) τ R) {post : ck_S → Prop} (h : ∀ υ, Fr 2 σ υ → υ.2.2 = τ.2.2 → SVp n (6 * c + 6) υ R → post υ) : sp_X5_lookAtCells nc nb τ c post := by
  unfold sp_X5_lookAtCells
  refine cu_2 6 nI (fun k s => Fr 2 σ s ∧ s.2.2 = τ.2.2 ∧ SVp n (6 * c + k) s R) ?_ ?_ 0 (by omega) _ ⟨hF, rfl, hS⟩ _ rfl
  · rintro k hk s ⟨f1, f2, s1, s2, s3, s4, s5⟩ K hK
    unfold bd_X5_lookAtCells_2 sp_X5_lookAtCells_65
    refine kb_f (nI_ge (b := 6) hk (by decide)) ?_
    refine c_isValid hB (Fr_cp f1 c ▸ hT) hk ?_
    rw [b2_0]
    have e1 : (6 * c + k) / 6 = c := by omega
    have e2 : (6 * c + k) % 6 = k := by omega
    refine ⟨fun a => al_1 (fun w hw => hK _ ⟨Fr_ui f1 _ _ _, f2, ?_⟩ _ (by rw [hw, nI_succ])), fun a => ⟨vp_in_nI hk (by decide), al_1 (al_1 (al_1 (al_1 (fun w hw => hK _ ⟨Fr_ui (Fr_ui (Fr_ui f1 _ _ _) _ _ _) _ _ _, f2, ?_⟩ _ (by rw [hw, nI_succ])))))⟩⟩
    · refine ⟨s1, ?_, ?_, ?_, ?_⟩
      · show (1 : Int32) = _
        rw [← Nat.add_assoc, anyB, mInv, e1, e2, a, hs]
        simp [b2]
      · show s.1 2 0 2 = _
        rw [← Nat.add_assoc, mSum, e1, e2, a, s3]
        rfl
      · show s.1 2 0 3 = _
        rw [← Nat.add_assoc, sLeast, e1, e2, a, s4]
        simp
      · show s.1 2 0 4 = _
        rw [← Nat.add_assoc, sMost, e1, e2, a, s5]
        simp
    · rw [Bool.not_eq_false] at a
      rw [nI_clamp (by omega)]
      have e3 : ck_gi s 31 c k = mNo R c k 0 := c_number hB (Fr_cp f1 c ▸ hT) hk hs
      rw [e3]
      refine ⟨s1, ?_, ?_, ?_, ?_⟩
      · show s.1 2 0 1 = _
        rw [← Nat.add_assoc, anyB, mInv, e1, e2, a, hs, s2]
        simp
      · show s.1 2 0 2 + _ = _
        rw [← Nat.add_assoc, mSum, e1, e2, a, s3]
        rfl
      · show (if mNo R c k 0 < s.1 2 0 3 then mNo R c k 0 else s.1 2 0 3) = _
        rw [← Nat.add_assoc, sLeast, e1, e2, a, s4]
        simp
      · show (if s.1 2 0 4 < mNo R c k 0 then mNo R c k 0 else s.1 2 0 4) = _
        rw [← Nat.add_assoc, sMost, e1, e2, a, s5]
        simp
  · rintro s ⟨f1, f2, s1⟩ K
    unfold bd_X5_lookAtCells_2
    exact kb_t (by decide) (h s f1 f2 s1)
theorem c_look (hB : B ≤ 1000000) (hn : nc ≤ 4) (hT : ∀ c, c < nc → Rch B (cp σ c) R c) {post : ck_S → Prop} (h : ∀ υ, Fr 2 σ υ → SVp nc (6 * nc) υ R → SVd nc υ R → post υ) : sp_X5_look nc nb σ post := by
  unfold sp_X5_look
  refine al_1 (al_1 (al_1 (al_1 (al_1 (al_1 (al_1 (al_1 ?_)))))))
  refine cu_3 nc nI (fun c s x => Fr 2 σ s ∧ SVp c (6 * c) s R ∧ SVd c s R ∧ nI nc = x) ?_ ?_ 0 (by omega) _ _ ⟨?_, ?_, ?_, rfl⟩ _ rfl
  · rintro c hc s x ⟨f1, s1, ⟨d1, d2⟩, rfl⟩ K hK
    unfold bd_X5_look_48
    rw [nI_clamp (by omega)]
    refine kb_f (nI_ge hc (by omega)) ⟨vp_in_nI hc (by omega), al_1 ?_⟩
    have hTc := hT c hc
    have hTc' := hTc
    obtain ⟨u, g, h1, h2, h3, h4, h5, h6, h7, h8, h9, h10, h11, h12, h13⟩ := hTc'
    have hd : ∀ τ : ck_S, Fr 2 σ τ → ck_dq (τ.2.2 30 c 6) (rW R c).toInt 3 := by
      intro τ hτ
      rw [(hτ 30 (by decide)).2.2]
      exact h11
    have key : ∀ z1 z2, ck_dq z1 (mHot R (c + 1)) 3 → ck_dq z2 (mCold R (c + 1)) 3 → sp_X5_look_115 nc nb post K (ck_ud s 2 0 5 z1) (nI nc) (nI c) c z2 := by
      intro z1 z2 q1 q2
      unfold sp_X5_look_115 sp_X5_look_140
      refine al_1 ?_
      have f2 : Fr 2 σ (ck_ud (ck_ud s 2 0 5 z1) 2 0 6 z2) := Fr_ud (Fr_ud f1 _ _ _) _ _ _
      have s1' : SVp c (6 * c) (ck_ud (ck_ud s 2 0 5 z1) 2 0 6 z2) R := s1
      refine c_isStale hB (Fr_cp f2 c ▸ hTc) ?_
      rw [b2_0]
      refine ⟨fun a => ?_, fun a => ?_⟩
      · refine c_lookAtCells hB hTc a f2 s1' (fun υ f3 f4 s3 => fun w hw => hK _ _ ⟨f3, ?_, ?_, rfl⟩ _ (by rw [hw, nI_succ]))
        · obtain ⟨t1, t2, t3, t4, t5⟩ := s3
          refine ⟨?_, t2, t3, t4, t5⟩
          rw [t1, anyB, a]
          simp
        · unfold SVd
          rw [f4]
          exact ⟨q1, q2⟩
      · rw [Bool.not_eq_false] at a
        refine al_1 (fun w hw => hK _ _ ⟨Fr_ui f2 _ _ _, ?_, ⟨q1, q2⟩, rfl⟩ _ (by rw [hw, nI_succ]))
        obtain ⟨t1, t2, t3, t4, t5⟩ := s1'
        obtain ⟨v1, v2, v3, v4⟩ := sv_stale a 6 (by omega)
        refine ⟨?_, ?_, ?_, ?_, ?_⟩
        · show (1 : Int32) = _
          rw [anyB, a]
          simp [b2]
        · show s.1 2 0 1 = _
          rw [Nat.mul_add, Nat.mul_one, v1]
          exact t2
        · show s.1 2 0 2 = _
          rw [Nat.mul_add, Nat.mul_one, v2]
          exact t3
        · show s.1 2 0 3 = _
          rw [Nat.mul_add, Nat.mul_one, v3]
          exact t4
        · show s.1 2 0 4 = _
          rw [Nat.mul_add, Nat.mul_one, v4]
          exact t5
    have key2 : ∀ z1, ck_dq z1 (mHot R (c + 1)) 3 → sp_X5_look_86 nc nb post K s (nI nc) (nI c) c z1 := by
      intro z1 q1
      unfold sp_X5_look_86
      refine al_1 ?_
      have dd : ck_dq (ck_gd (ck_ud s 2 0 5 z1) 30 c 6) (rW R c).toInt 3 := hd _ (Fr_ud f1 _ _ _)
      have dc : ck_dq (ck_gd (ck_ud s 2 0 5 z1) 2 0 6) (mCold R c) 3 := d2
      rw [ck_dcmp dd dc (by decide)]
      simp only [cv_ge]
      refine ⟨fun a => key z1 _ q1 ?_, fun a => key z1 _ q1 ?_⟩
      · rw [mCold, if_neg (by omega)]
        exact dc
      · rw [mCold, if_pos (by omega)]
        exact dd
    have dd : ck_dq (ck_gd s 30 c 6) (rW R c).toInt 3 := hd _ f1
    have dc : ck_dq (ck_gd s 2 0 5) (mHot R c) 3 := d1
    rw [ck_dcmp dd dc (by decide)]
    simp only [cv_le]
    refine ⟨fun a => key2 _ ?_, fun a => key2 _ ?_⟩
    · rw [mHot, if_neg (by omega)]
      exact dc
    · rw [mHot, if_pos (by omega)]
      exact dd
  · rintro s x ⟨f1, s1, d1, rfl⟩ K
    unfold bd_X5_look_48
    exact kb_t (nI_le (Nat.le_refl _) (by omega)) (h s f1 s1 d1)
  · exact Fr_ud (Fr_ud (Fr_ui (Fr_ui (Fr_ui (Fr_ui (Fr_ui (Fr_refl _ _) _ _ _) _ _ _) _ _ _) _ _ _) _ _ _) _ _ _) _ _ _
  · exact ⟨rfl, rfl, rfl, rfl, rfl⟩
  · exact ⟨ck_dq_up 3 kd_m100, ck_dq_up 3 kd_200⟩
end PURE2
