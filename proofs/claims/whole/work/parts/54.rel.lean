/-! THE RELATION of the class half of γ and the model half of μ. -/
def Rk (n b : Nat) (cap : Int) (γ μ : ck_S) : Prop := 1 ≤ n ∧ n ≤ 4 ∧ 2 ≤ b ∧ b ≤ 16 ∧ 100 ≤ cap ∧ cap ≤ 400000 ∧ (γ.1 0 0 1).toInt = cap ∧ (μ.2.1 10 0 3).toInt = cap ∧ μ.1 10 0 1 = nI n ∧ μ.1 10 0 2 = nI b ∧ γ.1 6 0 0 = nI b ∧ γ.1 0 0 2 = μ.1 10 0 5 ∧ ¬ μ.1 10 0 5 = 0 ∧ γ.1 3 0 0 = μ.1 10 0 4
def Rq (cap : Int) (γ μ : ck_S) : Prop := ck_dq (γ.2.2 0 0 9) (μ.2.1 10 0 11).toInt 13 ∧ 0 ≤ (μ.2.1 10 0 11).toInt ∧ (μ.2.1 10 0 11).toInt ≤ 8192 * cap
def Rt (γ μ : ck_S) : Prop := ck_dq (γ.2.2 0 0 10) (μ.2.1 10 0 12).toInt 3 ∧ 0 ≤ (μ.2.1 10 0 12).toInt ∧ (μ.2.1 10 0 12).toInt < 80000
def Ra (γ μ : ck_S) : Prop := ck_dq (γ.2.2 0 0 12) (μ.2.1 10 0 13).toInt 3 ∧ -16000 ≤ (μ.2.1 10 0 13).toInt ∧ (μ.2.1 10 0 13).toInt ≤ 16000
def Rg (γ μ : ck_S) : Prop := ck_dq (γ.2.2 0 0 15) (μ.2.1 10 0 23).toInt 6 ∧ 0 ≤ (μ.2.1 10 0 23).toInt ∧ (μ.2.1 10 0 23).toInt ≤ 19200 ∧ ck_dq (γ.2.2 0 0 16) (μ.2.1 10 0 24).toInt 6 ∧ 0 ≤ (μ.2.1 10 0 24).toInt ∧ (μ.2.1 10 0 24).toInt ≤ 19200
def Rs (γ μ : ck_S) : Prop := γ.1 0 0 7 = μ.1 10 0 9 ∧ ck_b (μ.1 10 0 9) ∧ γ.1 0 0 8 = μ.1 10 0 10 ∧ γ.1 0 0 11 = μ.1 10 0 17 ∧ γ.1 0 0 13 = μ.1 10 0 15 ∧ 0 ≤ (μ.1 10 0 15).toInt ∧ (μ.1 10 0 15).toInt ≤ 1000000 ∧ γ.1 0 0 14 = μ.1 10 0 16 ∧ ck_b (μ.1 10 0 16)
def Rl (γ μ : ck_S) : Prop := (∀ k, k < 7 → γ.1 4 0 k = μ.1 19 0 k ∧ ∃ x, x ≤ 255 ∧ μ.1 19 0 k = nI x) ∧ γ.1 3 0 2 = μ.1 10 0 26 ∧ ∃ F, F < 512 ∧ μ.1 10 0 26 = nI F
def Rf (γ μ : ck_S) : Prop := γ.1 3 0 3 = μ.1 10 0 27 ∧ ck_b (μ.1 10 0 27)
def Ro (γ μ : ck_S) : Prop := γ.1 5 0 0 = μ.1 10 0 28 ∧ (∃ s, s ≤ 4 ∧ μ.1 10 0 28 = nI s) ∧ γ.1 5 0 1 = μ.1 10 0 29
def Rb (b B : Nat) (γ μ : ck_S) : Prop := γ.1 6 0 3 = μ.1 10 0 8 ∧ (∃ m, 1 ≤ m ∧ m ≤ 1000000001 + B ∧ μ.1 10 0 8 = nI m) ∧ γ.1 6 0 4 = μ.1 10 0 31 ∧ (∃ l, l ≤ 32 ∧ μ.1 10 0 31 = nI l) ∧ gJ (μ.1 11 0) ∧ sJ (32 * b) (μ.1 11 0) γ ∧ ∀ k, 20 ≤ k → k < 30 → γ.1 8 0 k = 0
def Rc (n B : Nat) (γ μ : ck_S) : Prop := ∀ c, c < n → Rch B (cp γ c) (rp μ) c ∧ γ.1 30 c 7 = μ.1 20 0 c
def RC (n b B : Nat) (cap : Int) (γ μ : ck_S) : Prop := Rk n b cap γ μ ∧ Rq cap γ μ ∧ Rt γ μ ∧ Ra γ μ ∧ Rg γ μ ∧ Rs γ μ ∧ Rl γ μ ∧ Ro γ μ ∧ Rb b B γ μ ∧ Rc n B γ μ
def SV (n : Nat) (γ μ : ck_S) : Prop := SVp n (6 * n) γ (rp μ) ∧ SVd n γ (rp μ)
theorem Rch_mono {B B' : Nat} (h : B ≤ B') {T : ck_T} {R : ck_R} {c : Nat} (q : Rch B T R c) : Rch B' T R c := by
  obtain ⟨u, g, h1, h2, h3⟩ := q
  exact ⟨u, g, by omega, by omega, h3⟩
theorem RC_mono {n b B B' : Nat} (h : B ≤ B') {cap : Int} {γ μ : ck_S} (q : RC n b B cap γ μ) : RC n b B' cap γ μ := by
  obtain ⟨h1, h2, h3, h4, h5, h6, h7, h8, ⟨i1, ⟨m, i2, i3, i4⟩, i5⟩, h10⟩ := q
  exact ⟨h1, h2, h3, h4, h5, h6, h7, h8, ⟨i1, ⟨m, i2, by omega, i4⟩, i5⟩, fun c hc => ⟨Rch_mono h (h10 c hc).1, (h10 c hc).2⟩⟩
theorem Rc_gR {n B : Nat} (hB : B ≤ 1000000) {γ μ : ck_S} (h : Rc n B γ μ) : gR n (rp μ) := fun c hc => Rch_gU hB (h c hc).1
theorem Rc_w {n B : Nat} {γ μ : ck_S} (h : Rc n B γ μ) : ∀ c, c < n → -800 ≤ (μ.2.1 13 0 c).toInt ∧ (μ.2.1 13 0 c).toInt ≤ 1600 := by
  intro c hc
  obtain ⟨⟨u, g, h1, h2, h3, h4, h5, h6, h7, h8, h9, h10, h11, h12⟩, -⟩ := h c hc
  exact h12
theorem hot_rng {R : ck_R} : ∀ {n : Nat}, (∀ c, c < n → -800 ≤ (rW R c).toInt ∧ (rW R c).toInt ≤ 1600) → (-800 ≤ mHot R n ∧ mHot R n ≤ 1600) ∧ (-800 ≤ mCold R n ∧ mCold R n ≤ 1600)
  | 0, _ => by simp [mHot, mCold]
  | n + 1, h => by
    have ih := hot_rng (n := n) (fun c hc => h c (by omega))
    have hn := h n (by omega)
    rw [mHot, mCold]
    constructor
    · split <;> omega
    · split <;> omega
/-! a new age -/
def cAge (j : Nat) (σ : ck_S) : ck_S := (fun f i k => if f = 30 ∧ i < j ∧ k = 5 then σ.1 30 i 5 + 1 else σ.1 f i k, σ.2)
def mAg (x : Int32) : Int32 := if 1000 ≤ x then 1000 else x + 1
def mAge (j : Nat) (σ : ck_S) : ck_S := (fun f i k => if f = 18 ∧ i = 0 ∧ k < j then mAg (σ.1 18 0 k) else σ.1 f i k, σ.2)
theorem cAge_0 (σ : ck_S) : cAge 0 σ = σ := by
  unfold cAge
  ext <;> simp
theorem mAge_0 (σ : ck_S) : mAge 0 σ = σ := by
  unfold mAge
  ext <;> simp
theorem cAge_succ (j : Nat) (σ : ck_S) : ck_ui (cAge j σ) 30 j 5 (ck_gi (cAge j σ) 30 j 5 + 1) = cAge (j + 1) σ := by
  unfold cAge ck_ui ck_up ck_gi
  ext a b c
  · show (if a = 30 ∧ b = j ∧ c = 5 then (if (30 : Nat) = 30 ∧ j < j ∧ (5 : Nat) = 5 then σ.1 30 j 5 + 1 else σ.1 30 j 5) + 1 else if a = 30 ∧ b < j ∧ c = 5 then σ.1 30 b 5 + 1 else σ.1 a b c) = if a = 30 ∧ b < j + 1 ∧ c = 5 then σ.1 30 b 5 + 1 else σ.1 a b c
    rw [if_neg (c := ((30 : Nat) = 30 ∧ j < j ∧ (5 : Nat) = 5)) (by omega)]
    by_cases hb : b = j
    · subst hb; simp
    · have : b < j + 1 ↔ b < j := by omega
      simp [hb, this]
  · rfl
  · rfl
theorem mAge_succ (j : Nat) (σ : ck_S) : ck_ui (mAge j σ) 18 0 j (mAg (ck_gi (mAge j σ) 18 0 j)) = mAge (j + 1) σ := by
  unfold mAge ck_ui ck_up ck_gi
  ext a b c
  · show (if a = 18 ∧ b = 0 ∧ c = j then mAg (if (18 : Nat) = 18 ∧ (0 : Nat) = 0 ∧ j < j then mAg (σ.1 18 0 j) else σ.1 18 0 j) else if a = 18 ∧ b = 0 ∧ c < j then mAg (σ.1 18 0 c) else σ.1 a b c) = if a = 18 ∧ b = 0 ∧ c < j + 1 then mAg (σ.1 18 0 c) else σ.1 a b c
    rw [if_neg (c := ((18 : Nat) = 18 ∧ (0 : Nat) = 0 ∧ j < j)) (by omega)]
    by_cases hb : c = j
    · subst hb; simp
    · have : c < j + 1 ↔ c < j := by omega
      simp [hb, this]
  · rfl
  · rfl
theorem cAge_ne {n c k : Nat} {σ : ck_S} (h : k ≠ 5) : (cAge n σ).1 30 c k = σ.1 30 c k := by simp [cAge, h]
theorem cAge_5 {n c : Nat} {σ : ck_S} (h : c < n) : (cAge n σ).1 30 c 5 = σ.1 30 c 5 + 1 := by simp [cAge, h]
theorem mAge_c {n c : Nat} {σ : ck_S} (h : c < n) : (mAge n σ).1 18 0 c = mAg (σ.1 18 0 c) := by simp [mAge, h]
theorem mAg_min {g : Nat} (hg : g ≤ 1000000) : mAg (nI (min g 1000)) = nI (min (g + 1) 1000) := by
  unfold mAg
  by_cases h : g < 1000
  · rw [if_neg (show ¬ (1000 : Int32) ≤ nI (min g 1000) from nI_ge (a := min g 1000) (b := 1000) (by omega) (by decide)), nI_1, show min g 1000 + 1 = min (g + 1) 1000 by omega]
  · rw [if_pos (show (1000 : Int32) ≤ nI (min g 1000) from nI_le (a := 1000) (b := min g 1000) (by omega) (by omega)), show min (g + 1) 1000 = 1000 by omega]
    rfl
theorem age_rel {n b B : Nat} {cap : Int} {γ μ : ck_S} (h : RC n b B cap γ μ) (hB : B ≤ 1000000) : RC n b (B + 1) cap (cAge n (ck_ui γ 0 0 8 (γ.1 0 0 8 + 1))) (mAge n (ck_ui μ 10 0 10 (μ.1 10 0 10 + 1))) := by
  have h10 := h.2.2.2.2.2.2.2.2.2
  have h := RC_mono (Nat.le_succ B) h
  obtain ⟨h1, h2, h3, h4, h5, ⟨s1, s2, s3, s4, s5, s6, s7, s8, s9⟩, h7, h8, h9, -⟩ := h
  refine ⟨h1, h2, h3, h4, h5, ⟨s1, s2, ?_, s4, s5, s6, s7, s8, s9⟩, h7, h8, h9, ?_⟩
  · show γ.1 0 0 8 + 1 = μ.1 10 0 10 + 1
    rw [s3]
  · intro c hc
    obtain ⟨⟨u, g, q1, q2, q3, q4, q5, q6, q7, q8, q9, q10, q11⟩, e7⟩ := h10 c hc
    refine ⟨⟨u, g + 1, by omega, by omega, ?_, q4, ?_, fun hu => ?_, fun hu => ?_, q8, q9, q10, q11⟩, ?_⟩
    · exact (cAge_ne (by decide)).trans q3
    · refine (cAge_5 hc).trans ?_
      show γ.1 30 c 5 + 1 = _
      rw [show γ.1 30 c 5 = nI g from q5, nI_1]
    · refine (mAge_c hc).trans ?_
      show mAg (μ.1 18 0 c) = _
      rw [show μ.1 18 0 c = nI (min g 1000) from q6 hu, mAg_min (by omega)]
    · exact (cAge_ne (by decide)).trans (q7 hu)
    · exact (cAge_ne (by decide)).trans e7
/-! a look -/
theorem look_rel {n b B : Nat} {cap : Int} {γ μ μ0 υ : ck_S} (h : RC n b B cap γ μ) (F : Fr 2 (ck_mk γ μ0) υ) : RC n b B cap υ μ ∧ υ = ck_mk υ μ0 := by
  have e0 : υ.1 0 = γ.1 0 := (F 0 (by decide)).1
  have e3 : υ.1 3 = γ.1 3 := (F 3 (by decide)).1
  have e4 : υ.1 4 = γ.1 4 := (F 4 (by decide)).1
  have e5 : υ.1 5 = γ.1 5 := (F 5 (by decide)).1
  have e6 : υ.1 6 = γ.1 6 := (F 6 (by decide)).1
  have e7 : υ.1 7 = γ.1 7 := (F 7 (by decide)).1
  have e8 : υ.1 8 = γ.1 8 := (F 8 (by decide)).1
  have e30 : υ.1 30 = γ.1 30 := (F 30 (by decide)).1
  have d0 : υ.2.2 0 = γ.2.2 0 := (F 0 (by decide)).2.2
  constructor
  · unfold RC Rk Rq Rt Ra Rg Rs Rl Ro Rb Rc sJ at h ⊢
    rw [e0, e3, e4, e5, e6, e7, e8, e30, d0]
    obtain ⟨h1, h2, h3, h4, h5, h6, h7, h8, h9, h10⟩ := h
    refine ⟨h1, h2, h3, h4, h5, h6, h7, h8, h9, fun c hc => ⟨?_, (h10 c hc).2⟩⟩
    have : cp υ c = cp γ c := Fr_cp F c
    rw [this]
    exact (h10 c hc).1
  · unfold ck_mk
    ext f i k
    · show υ.1 f i k = if 10 ≤ f ∧ f ≤ 20 then μ0.1 f i k else υ.1 f i k
      split
      · rename_i hf
        rw [(F f (by omega)).1]
        exact if_pos hf
      · rfl
    · show υ.2.1 f i k = if 10 ≤ f ∧ f ≤ 20 then μ0.2.1 f i k else υ.2.1 f i k
      split
      · rename_i hf
        rw [(F f (by omega)).2.1]
        exact if_pos hf
      · rfl
    · show υ.2.2 f i k = if 10 ≤ f ∧ f ≤ 20 then μ0.2.2 f i k else υ.2.2 f i k
      split
      · rename_i hf
        rw [(F f (by omega)).2.2]
        exact if_pos hf
      · rfl
