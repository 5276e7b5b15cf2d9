/-! BLEEDING. -/
theorem even_rem (x : Int32) : (x - x / 2 * 2 = 0) ↔ (x &&& 1 = 0) := by
  have r := fb_rng x
  have z2 : (2 : Int32).toInt = 2 := by decide
  have t := Int.tdiv_mul_le x.toInt (b := 2) (by decide)
  have hq : (x / 2).toInt = x.toInt.tdiv 2 := by
    rw [Int32.toInt_div, z2, fb_bmod]
    · rcases Int.le_total 0 x.toInt with h | h
      · rw [Int.tdiv_eq_ediv_of_nonneg h]; omega
      · have : x.toInt.tdiv 2 = -((-x.toInt) / 2) := by
          rw [← Int.tdiv_eq_ediv_of_nonneg (by omega), Int.neg_tdiv, Int.neg_neg]
        omega
    · rcases Int.le_total 0 x.toInt with h | h
      · rw [Int.tdiv_eq_ediv_of_nonneg h]; omega
      · have : x.toInt.tdiv 2 = -((-x.toInt) / 2) := by
          rw [← Int.tdiv_eq_ediv_of_nonneg (by omega), Int.neg_tdiv, Int.neg_neg]
        omega
  have hq2 : x.toInt.tdiv 2 = if 0 ≤ x.toInt then x.toInt / 2 else -((-x.toInt) / 2) := by
    split
    · rw [Int.tdiv_eq_ediv_of_nonneg (by omega)]
    · rw [← Int.tdiv_eq_ediv_of_nonneg (by omega), Int.neg_tdiv, Int.neg_neg]
  have h1 : (x - x / 2 * 2 = 0) ↔ x.toInt % 2 = 0 := by
    rw [← Int32.toInt_inj, fb_subI, fb_mulI, hq, z2]
    · show _ = (0 : Int) ↔ _
      split at hq2 <;> omega
    · rw [hq, z2]; split at hq2 <;> omega
    · rw [hq, z2]; split at hq2 <;> omega
    · rw [fb_mulI (by rw [hq, z2]; split at hq2 <;> omega) (by rw [hq, z2]; split at hq2 <;> omega), hq, z2]; split at hq2 <;> omega
    · rw [fb_mulI (by rw [hq, z2]; split at hq2 <;> omega) (by rw [hq, z2]; split at hq2 <;> omega), hq, z2]; split at hq2 <;> omega
  have h2 : (x &&& 1 = 0) ↔ x.toInt % 2 = 0 := by
    rw [pk_and x 1 (by decide), show (0 : Int32) = nI 0 from rfl, nI_eq (by omega) (by decide)]
    have : x.toInt = if 2 * x.toBitVec.toNat < 2 ^ 32 then (x.toBitVec.toNat : Int) else (x.toBitVec.toNat : Int) - ((2 ^ 32 : Nat) : Int) := BitVec.toInt_eq_toNat_cond _
    split at this <;> omega
  rw [h1, h2]
def mBit (R : ck_R) (time least : Int32) (c k : Nat) : Bool := decide ((nI k + time) &&& 1 = 0) && mV R c k && decide (3300 < mNo R c k 0) && decide (least + 8 < mNo R c k 0)
def mBits (R : ck_R) (time least : Int32) (c : Nat) : Nat → Int32
  | 0 => 0
  | k + 1 => if mBit R time least c k = true then mBits R time least c k ||| ((1 : Int32) <<< (nI k &&& 31)) else mBits R time least c k
def mBl (may : Bool) (R : ck_R) (time least : Int32) (c : Nat) : Int32 := if may = true then mBits R time least c 6 else 0
def mBle (bl : Nat → Int32) (j : Nat) (σ : ck_S) : ck_S := (fun f i k => if f = 20 ∧ i = 0 ∧ k < j then bl k else σ.1 f i k, σ.2)
theorem mBle_succ (bl : Nat → Int32) (j : Nat) (σ : ck_S) : ck_ui (mBle bl j σ) 20 0 j (bl j) = mBle bl (j + 1) σ := by
  unfold mBle ck_ui ck_up
  ext a b c
  · show (if a = 20 ∧ b = 0 ∧ c = j then bl j else if a = 20 ∧ b = 0 ∧ c < j then bl c else σ.1 a b c) = if a = 20 ∧ b = 0 ∧ c < j + 1 then bl c else σ.1 a b c
    by_cases h : c = j
    · subst h; simp
    · have : c < j + 1 ↔ c < j := by omega
      simp [h, this]
  · rfl
  · rfl
theorem mBle_0 (bl : Nat → Int32) (σ : ck_S) : mBle bl 0 σ = σ := by
  unfold mBle
  ext <;> simp
theorem ui_ui (σ : ck_S) (f i k : Nat) (v w : Int32) : ck_ui (ck_ui σ f i k v) f i k w = ck_ui σ f i k w := by
  unfold ck_ui ck_up
  ext <;> grind
section PURE
variable {nc nb : Nat} {σ : ck_S} {R : ck_R}
theorem m_bleed112 {n : Nat} (hn : n ≤ 4) (h1 : σ.1 10 0 1 = nI n) (hR : rp σ = R) (hg : gR n R) {may : Bool} {least : Int32} {post : ck_S → Prop} (h : post (mBle (mBl may R (σ.1 10 0 10) least) n σ)) : lx_4 (bd_X7_bleed_112 nc nb post) σ (b2 may) least 0 := by
  generalize hT : σ.1 10 0 10 = time at h
  refine cu_4 n nI (fun j s x1 x2 => mBle (mBl may R time least) j σ = s ∧ b2 may = x1 ∧ least = x2) ?_ ?_ 0 (by omega) _ _ _ ⟨mBle_0 _ _, rfl, rfl⟩ _ rfl
  · rintro c hc s x1 x2 ⟨rfl, rfl, rfl⟩ K hK
    have hv : vp_in (nI c) 4 := vp_in_nI (by omega) (by decide)
    have e1 : ck_gi (mBle (mBl may R time least) c σ) 10 0 1 = nI n := h1
    obtain ⟨u, hu⟩ := hg c hc
    unfold bd_X7_bleed_112
    rw [e1, nI_clamp (by omega)]
    refine kb_f (nI_ge hc (by omega)) ⟨hv, al_1 ?_⟩
    have nx : ∀ s, mBle (mBl may R time least) (c + 1) σ = s → sp_X7_bleed_227 nc nb post K s (b2 may) least (nI c) := by
      intro s hs
      unfold sp_X7_bleed_227
      exact fun w hw => hK _ _ _ ⟨hs, rfl, rfl⟩ _ (by rw [hw, nI_succ])
    rcases hm : may with _ | _
    · rw [hm] at nx
      refine cu_5 0 nI (fun j s x1 x2 x3 => ck_ui (mBle (mBl false R time least) c σ) 20 0 c 0 = s ∧ b2 false = x1 ∧ least = x2 ∧ nI c = x3) (fun j hj => absurd hj (by omega)) ?_ 0 (by omega) _ _ _ _ ⟨rfl, rfl, rfl, rfl⟩ _ rfl
      rintro s x1 x2 x3 ⟨rfl, rfl, rfl, rfl⟩ K2
      unfold bd_X7_bleed_130
      refine kb_f (by decide) (kb_t rfl (nx _ ?_))
      rw [← mBle_succ]
      rfl
    · rw [hm] at nx
      have hblc : mBl true R time least c = mBits R time least c 6 := rfl
      refine cu_5 6 nI (fun k s x1 x2 x3 => ck_ui (mBle (mBl true R time least) c σ) 20 0 c (mBits R time least c k) = s ∧ b2 true = x1 ∧ least = x2 ∧ nI c = x3) ?_ ?_ 0 (by omega) _ _ _ _ ⟨rfl, rfl, rfl, rfl⟩ _ rfl
      · rintro k hk s x1 x2 x3 ⟨rfl, rfl, rfl, rfl⟩ K2 hK2
        generalize hτ : mBle (mBl true R time least) c σ = τ
        have eR : rp (ck_ui τ 20 0 c (mBits R time least c k)) = R := by subst hτ; exact hR
        have eT : ck_gi (ck_ui τ 20 0 c (mBits R time least c k)) 10 0 10 = time := by subst hτ; exact hT
        have eB : ck_gi (ck_ui τ 20 0 c (mBits R time least c k)) 20 0 c = mBits R time least c k := by simp [ck_gi, ck_ui, ck_up]
        unfold bd_X7_bleed_130
        rw [eT]
        refine kb_f (nI_ge (b := 6) hk (by decide)) (kb_f (by decide) (al_1 ?_))
        rw [even_rem]
        have skip : mBit R time least c k = false → ∀ w, w = nI k + 1 → K2 (ck_ui τ 20 0 c (mBits R time least c k)) (b2 true) least (nI c) w := by
          intro q w hw
          refine hK2 _ _ _ _ ⟨?_, rfl, rfl, rfl⟩ _ (by rw [hw, nI_succ])
          rw [hτ, mBits, if_neg (by rw [q]; decide)]
        unfold sp_X7_bleed_158 sp_X7_bleed_221
        refine ⟨fun a => kb_t rfl (skip ?_), fun a => kb_f (by decide) ?_⟩
        · unfold mBit
          rw [decide_eq_false a]
          rfl
        · refine m_isValid eR (by omega) hk hu ?_
          rw [b2_0]
          refine ⟨fun b => skip ?_, fun b => ?_⟩
          · unfold mBit
            rw [b]
            simp
          · rw [Bool.not_eq_false] at b
            refine m_numberOf (j := 0) eR (by omega) hk hu (mV_used b hu) ⟨fun d => skip ?_, fun d => ?_⟩
            · unfold mBit
              rw [decide_eq_false (by grind : ¬ 3300 < mNo R c k 0)]
              simp
            · refine m_numberOf (j := 0) eR (by omega) hk hu (mV_used b hu) ⟨fun e => skip ?_, fun e => ⟨hv, hv, ?_⟩⟩
              · unfold mBit
                rw [decide_eq_false (by grind : ¬ least + 8 < mNo R c k 0)]
                simp
              · rw [nI_clamp (by omega)]
                refine al_1 ?_
                intro w hw
                refine hK2 _ _ _ _ ⟨?_, rfl, rfl, rfl⟩ _ (by rw [hw, nI_succ])
                rw [eB, ui_ui, hτ, mBits, if_pos]
                unfold mBit
                rw [decide_eq_true a, b, decide_eq_true (by grind : 3300 < mNo R c k 0), decide_eq_true (by grind : least + 8 < mNo R c k 0)]
                rfl
      · rintro s x1 x2 x3 ⟨rfl, rfl, rfl, rfl⟩ K2
        unfold bd_X7_bleed_130
        refine kb_t (by decide) (nx _ ?_)
        rw [← mBle_succ, hblc]
  · rintro s x1 x2 ⟨rfl, rfl, rfl⟩ K
    have e1 : ck_gi (mBle (mBl may R time least) n σ) 10 0 1 = nI n := h1
    unfold bd_X7_bleed_112
    rw [e1]
    exact kb_t (nI_le (Nat.le_refl _) (by omega)) h
theorem m_bleed41 {n : Nat} (hn : n ≤ 4) (h1 : σ.1 10 0 1 = nI n) (hR : rp σ = R) (hg : gR n R) {may : Bool} {post : ck_S → Prop} (h : post (mBle (mBl may R (σ.1 10 0 10) (mLeast R (6 * n))) n σ)) : sp_X7_bleed_41 nc nb post σ (b2 may) := by
  unfold sp_X7_bleed_41
  have h6 : (6 : Int32) * ck_gi σ 10 0 1 = nI (6 * n) := by show (6 : Int32) * σ.1 10 0 1 = _; rw [h1]; exact pk_mul 6 n
  refine cu_4 (6 * n) nI (fun j s x1 x2 => σ = s ∧ b2 may = x1 ∧ mLeast R j = x2) ?_ ?_ 0 (by omega) _ _ _ ⟨rfl, rfl, rfl⟩ _ rfl
  · rintro j hj s x1 x2 ⟨rfl, rfl, rfl⟩ K hK
    unfold bd_X7_bleed_47 sp_X7_bleed_104
    rw [h6]
    obtain ⟨e1, e2, l1, l2, l3⟩ := m_cell hj hn
    obtain ⟨u, hu⟩ := hg _ l2
    refine kb_f (nI_ge hj (by omega)) ?_
    rw [e2, e1]
    refine m_isValid hR l1 l3 hu ?_
    rw [b2_0]
    refine ⟨fun b w hw => hK _ _ _ ⟨rfl, rfl, ?_⟩ _ (by rw [hw, nI_succ]), fun b => ?_⟩
    · rw [mLeast, if_neg (by rw [b]; simp)]
    · rw [Bool.not_eq_false] at b
      refine m_numberOf (j := 0) hR l1 l3 hu (mV_used b hu) ⟨fun d w hw => hK _ _ _ ⟨rfl, rfl, ?_⟩ _ (by rw [hw, nI_succ]), fun d => m_numberOf (j := 0) hR l1 l3 hu (mV_used b hu) (fun w hw => hK _ _ _ ⟨rfl, rfl, ?_⟩ _ (by rw [hw, nI_succ]))⟩
      · rw [mLeast, if_neg (by grind)]
      · rw [mLeast, if_pos ⟨b, by grind⟩]
  · rintro s x1 x2 ⟨rfl, rfl, rfl⟩ K
    unfold bd_X7_bleed_47
    rw [h6]
    exact kb_t (nI_le (Nat.le_refl _) (by omega)) (m_bleed112 hn h1 hR hg h)
def mMay (σ : ck_S) : Bool := decide (σ.1 10 0 28 = 0 ∨ σ.1 10 0 28 = 3) && !mSer σ && decide (szL (σ.2.1 10 0 13) < 16)
theorem m_bleed {n : Nat} (hn : n ≤ 4) (h1 : σ.1 10 0 1 = nI n) (hR : rp σ = R) (hg : gR n R) {post : ck_S → Prop} (h : post (mBle (mBl (mMay σ) R (σ.1 10 0 10) (mLeast R (6 * n))) n σ)) : sp_X7_bleed nc nb σ post := by
  have key : ∀ may, may = mMay σ → sp_X7_bleed_41 nc nb post σ (b2 may) := by
    intro may hm
    subst hm
    exact m_bleed41 hn h1 hR hg h
  have t15 : decide (σ.1 10 0 28 = 0 ∨ σ.1 10 0 28 = 3) = true → sp_X7_bleed_15 nc nb post σ := by
    intro q
    unfold sp_X7_bleed_15 sp_X7_bleed_40
    refine m_serious ?_
    rw [b2_0]
    refine ⟨fun b => key false ?_, fun b => m_sizeOf ?_⟩
    · rw [Bool.not_eq_false] at b
      unfold mMay
      rw [b]
      simp
    · simp only [lg_cmp_ge]
      have e : ck_gj σ 10 0 13 = σ.2.1 10 0 13 := rfl
      rw [e]
      refine ⟨fun d => key false ?_, fun d => key true ?_⟩
      · unfold mMay
        rw [decide_eq_false (by grind : ¬ szL (σ.2.1 10 0 13) < 16)]
        simp
      · unfold mMay
        rw [q, b, decide_eq_true (by grind : szL (σ.2.1 10 0 13) < 16)]
        rfl
  unfold sp_X7_bleed sp_X7_bleed_40
  refine ⟨fun a => t15 (decide_eq_true (Or.inl a)), fun a => ⟨fun b => key false ?_, fun b => t15 (decide_eq_true (Or.inr b))⟩⟩
  have a : ¬ σ.1 10 0 28 = 0 := a
  have b : ¬ σ.1 10 0 28 = 3 := b
  unfold mMay
  rw [decide_eq_false (fun q => q.elim a b)]
  rfl
/-! the class -/
theorem c_cells {B c : Nat} (hB : B ≤ 1000000) (hT : Rch B (cp σ c) R c) {l time least : Int32} (hle : ∀ k, k < 6 → mV R c k = true → (¬ (mNo R c k 0 - l) ≤ 8 ↔ least + 8 < mNo R c k 0)) {post : Int32 → ck_S → Prop} (h : post (mBits R time least c 6) σ) : sp_X3_cellsToBleed nc nb σ c l time post := by
  unfold sp_X3_cellsToBleed
  refine cu_5 6 nI (fun k s x1 x2 x3 => σ = s ∧ l = x1 ∧ time = x2 ∧ mBits R time least c k = x3) ?_ ?_ 0 (by omega) _ _ _ _ ⟨rfl, rfl, rfl, rfl⟩ _ rfl
  · rintro k hk s x1 x2 x3 ⟨rfl, rfl, rfl, rfl⟩ K hK
    unfold bd_X3_cellsToBleed_5
    rw [nI_clamp (by omega)]
    refine kb_f (nI_ge (b := 6) hk (by decide)) ⟨vp_in_nI hk (by decide), al_1 ?_⟩
    have skip : mBit R time least c k = false → ∀ w, w = nI k + 1 → K σ l time (mBits R time least c k) w := by
      intro q w hw
      refine hK _ _ _ _ ⟨rfl, rfl, rfl, ?_⟩ _ (by rw [hw, nI_succ])
      rw [mBits, if_neg (by rw [q]; decide)]
    unfold sp_X3_cellsToBleed_35 sp_X3_cellsToBleed_75
    refine ⟨fun a => kb_t rfl (skip ?_), fun a => kb_f (by decide) (c_isValid hB hT hk ?_)⟩
    · unfold mBit
      rw [decide_eq_false a]
      rfl
    · rw [b2_0]
      refine ⟨fun b => skip ?_, fun b => ?_⟩
      · unfold mBit
        rw [b]
        simp
      · rw [Bool.not_eq_false] at b
        have hs : mSt R c = false := by
          unfold mV at b
          simp only [Bool.and_eq_true, Bool.not_eq_true'] at b
          exact b.1.1.1.1
        have e : ck_gi σ 31 c k = mNo R c k 0 := c_number hB hT hk hs
        rw [e]
        have hl := hle k hk b
        refine ⟨fun d => skip ?_, fun d => ⟨fun e => skip ?_, fun e => al_1 ?_⟩⟩
        · unfold mBit
          rw [decide_eq_false (by grind : ¬ 3300 < mNo R c k 0)]
          simp
        · unfold mBit
          rw [decide_eq_false (fun q => hl.mpr q e)]
          simp
        · intro w hw
          refine hK _ _ _ _ ⟨rfl, rfl, rfl, ?_⟩ _ (by rw [hw, nI_succ])
          rw [mBits, if_pos]
          unfold mBit
          rw [decide_eq_true a, b, decide_eq_true (by grind : 3300 < mNo R c k 0), decide_eq_true (hl.mp e)]
          rfl
  · rintro s x1 x2 x3 ⟨rfl, rfl, rfl, rfl⟩ K
    unfold bd_X3_cellsToBleed_5
    exact kb_t (by decide) h
def cBle (bl : Nat → Int32) (j : Nat) (σ : ck_S) : ck_S := (fun f i k => if f = 30 ∧ i < j ∧ k = 7 then bl i else σ.1 f i k, σ.2)
theorem cBle_succ (bl : Nat → Int32) (j : Nat) (σ : ck_S) : ck_ui (cBle bl j σ) 30 j 7 (bl j) = cBle bl (j + 1) σ := by
  unfold cBle ck_ui ck_up
  ext a b c
  · show (if a = 30 ∧ b = j ∧ c = 7 then bl j else if a = 30 ∧ b < j ∧ c = 7 then bl b else σ.1 a b c) = if a = 30 ∧ b < j + 1 ∧ c = 7 then bl b else σ.1 a b c
    by_cases h : b = j
    · subst h; simp
    · have : b < j + 1 ↔ b < j := by omega
      simp [h, this]
  · rfl
  · rfl
theorem cBle_0 (bl : Nat → Int32) (σ : ck_S) : cBle bl 0 σ = σ := by
  unfold cBle
  ext <;> simp
theorem Rch_7 {B c : Nat} {T T' : ck_T} (h : Rch B T R c) (h3 : T'.1 3 = T.1 3) (h4 : T'.1 4 = T.1 4) (h5 : T'.1 5 = T.1 5) (h2 : T'.2 = T.2) : Rch B T' R c := by
  unfold Rch at h ⊢
  rw [h3, h4, h5, h2]
  exact h
theorem Rch_ble {B c j : Nat} {bl : Nat → Int32} (h : Rch B (cp σ c) R c) : Rch B (cp (cBle bl j σ) c) R c := by
  refine Rch_7 h ?_ ?_ ?_ ?_
  · show (cBle bl j σ).1 30 c 3 = σ.1 30 c 3
    simp [cBle]
  · show (cBle bl j σ).1 30 c 4 = σ.1 30 c 4
    simp [cBle]
  · show (cBle bl j σ).1 30 c 5 = σ.1 30 c 5
    simp [cBle]
  · rfl
theorem least_rel (R : ck_R) : ∀ N, (anyB (fun i => mV R (i / 6) (i % 6)) N = false → sLeast R N = 2147483647 ∧ mLeast R N = 100000) ∧ (anyB (fun i => mV R (i / 6) (i % 6)) N = true → sLeast R N = mLeast R N ∧ 500 ≤ mLeast R N ∧ mLeast R N ≤ 4999)
  | 0 => by
    constructor
    · intro _
      exact ⟨rfl, rfl⟩
    · intro h
      exact absurd h Bool.false_ne_true
  | N + 1 => by
    obtain ⟨i1, i2⟩ := least_rel R N
    rw [anyB, sLeast, mLeast]
    rcases hv : mV R (N / 6) (N % 6) with _ | _
    · simp only [Bool.or_false]
      simpa using ⟨i1, i2⟩
    · have b : 500 ≤ mNo R (N / 6) (N % 6) 0 ∧ mNo R (N / 6) (N % 6) 0 ≤ 4999 := by
        unfold mV at hv
        simp only [Bool.and_eq_true, decide_eq_true_eq] at hv
        exact ⟨hv.1.1.1.2, hv.1.1.2⟩
      rcases ha : anyB (fun i => mV R (i / 6) (i % 6)) N with _ | _
      · obtain ⟨a1, a2⟩ := i1 ha
        rw [a1, a2]
        constructor
        · intro q
          exact absurd q (by decide)
        · intro _
          rw [if_pos ⟨rfl, by grind⟩, if_pos ⟨rfl, by grind⟩]
          exact ⟨rfl, b⟩
      · obtain ⟨a1, a2, a3⟩ := i2 ha
        rw [a1]
        constructor
        · intro q
          exact absurd q (by decide)
        · intro _
          refine ⟨rfl, ?_⟩
          split
          · exact b
          · exact ⟨a2, a3⟩
theorem least_le {R : ck_R} {n c k : Nat} (hc : c < n) (hk : k < 6) (hv : mV R c k = true) : (¬ (mNo R c k 0 - sLeast R (6 * n)) ≤ 8 ↔ mLeast R (6 * n) + 8 < mNo R c k 0) := by
  have ha : anyB (fun i => mV R (i / 6) (i % 6)) (6 * n) = true := by
    rw [anyB_iff]
    refine ⟨6 * c + k, by omega, ?_⟩
    show mV R ((6 * c + k) / 6) ((6 * c + k) % 6) = true
    rw [show (6 * c + k) / 6 = c by omega, show (6 * c + k) % 6 = k by omega]
    exact hv
  obtain ⟨a1, a2, a3⟩ := (least_rel R (6 * n)).2 ha
  have b : 500 ≤ mNo R c k 0 ∧ mNo R c k 0 ≤ 4999 := by
    unfold mV at hv
    simp only [Bool.and_eq_true, decide_eq_true_eq] at hv
    exact ⟨hv.1.1.1.2, hv.1.1.2⟩
  rw [a1]
  generalize mLeast R (6 * n) = l at a2 a3 ⊢
  generalize mNo R c k 0 = v at b ⊢
  obtain ⟨b1, b2⟩ := b
  grind
def cMay (c : Int) (σ : ck_S) : Bool := decide (σ.1 5 0 0 = 0 ∨ σ.1 5 0 0 = 3) && !cSer σ && decide (szZ c < 16)
theorem c_letBleed {B : Nat} (hB : B ≤ 1000000) (hn : nc ≤ 4) (hT : ∀ c, c < nc → Rch B (cp σ c) R c) (hL : σ.1 2 0 3 = sLeast R (6 * nc)) {c : Int} (ha : ck_dq (σ.2.2 0 0 12) c 3) {post : ck_S → Prop} (h : post (cBle (mBl (cMay c σ) R (σ.1 0 0 8) (mLeast R (6 * nc))) nc σ)) : sp_X6_letBleed nc nb σ post := by
  have key : ∀ may, may = cMay c σ → sp_X6_letBleed_57 nc nb post σ (b2 may) := by
    intro may hm
    rw [← hm] at h
    clear hm
    unfold sp_X6_letBleed_57
    refine al_1 ?_
    generalize hbl : mBl may R (σ.1 0 0 8) (mLeast R (6 * nc)) = bl at h
    refine cu_4 nc nI (fun j s x2 x4 => cBle bl j σ = s ∧ b2 may = x2 ∧ nI nc = x4) ?_ ?_ 0 (by omega) _ _ _ ⟨cBle_0 _ _, rfl, rfl⟩ _ rfl
    · rintro j hj s x2 x4 ⟨rfl, rfl, rfl⟩ K hK
      unfold bd_X6_letBleed_70
      rw [nI_clamp (by omega)]
      refine kb_f (nI_ge hj (by omega)) ⟨vp_in_nI hj (by omega), al_1 ?_⟩
      have nx : ∀ v, v = bl j → sp_X6_letBleed_109 nc nb post K (cBle bl j σ) (b2 may) (nI nc) (nI j) v j := by
        intro v hv
        unfold sp_X6_letBleed_109
        subst hv
        refine al_1 ?_
        intro w hw
        exact hK _ _ _ ⟨(cBle_succ bl j σ).symm, rfl, rfl⟩ _ (by rw [hw, nI_succ])
      rw [b2_0]
      refine ⟨fun a => nx _ ?_, fun a => ?_⟩
      · rw [← hbl, a]
        rfl
      · rw [Bool.not_eq_false] at a
        have e1 : ck_gi (cBle bl j σ) 2 0 3 = sLeast R (6 * nc) := hL
        have e2 : ck_gi (cBle bl j σ) 0 0 8 = σ.1 0 0 8 := rfl
        rw [e1, e2]
        refine c_cells hB (Rch_ble (hT j hj)) (fun k hk hv => least_le hj hk hv) (nx _ ?_)
        rw [← hbl, a]
        rfl
    · rintro s x2 x4 ⟨rfl, rfl, rfl⟩ K
      unfold bd_X6_letBleed_70
      exact kb_t (nI_le (Nat.le_refl _) (by omega)) h
  have t26 : ∀ s0, s0 = b2 (decide (σ.1 5 0 0 = 0 ∨ σ.1 5 0 0 = 3)) → sp_X6_letBleed_26 nc nb post σ s0 := by
    intro s0 hs
    subst hs
    unfold sp_X6_letBleed_26 sp_X6_letBleed_56
    rw [b2_0]
    refine ⟨fun a => key false ?_, fun a => c_serious ?_⟩
    · unfold cMay
      rw [a]
      rfl
    · rw [Bool.not_eq_false] at a
      rw [b2_0]
      refine ⟨fun b => key false ?_, fun b => c_currentSize ha (fun z hz => ?_)⟩
      · rw [Bool.not_eq_false] at b
        unfold cMay
        rw [b]
        simp
      · rw [ck_dcmp hz (ck_dq_up 3 kd_2) (by decide)]
        simp only [cv_ge]
        refine ⟨fun d => key false ?_, fun d => key true ?_⟩
        · unfold cMay
          rw [decide_eq_false (by omega : ¬ szZ c < 16)]
          simp
        · unfold cMay
          rw [a, b, decide_eq_true (by omega : szZ c < 16)]
          rfl
  unfold sp_X6_letBleed sp_X6_letBleed_21
  refine ⟨fun a => t26 _ ?_, fun a => ⟨fun b => t26 _ ?_, fun b => t26 _ ?_⟩⟩
  · have a : σ.1 5 0 0 = 0 := a
    rw [decide_eq_true (Or.inl a)]
    rfl
  · have a : ¬ σ.1 5 0 0 = 0 := a
    have b : ¬ σ.1 5 0 0 = 3 := b
    rw [decide_eq_false (fun q => q.elim a b)]
    rfl
  · have b : σ.1 5 0 0 = 3 := b
    rw [decide_eq_true (Or.inr b)]
    rfl
end PURE
