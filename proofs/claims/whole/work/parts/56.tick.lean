/-! CONTACTORS, BLEEDING, WRITING two by two; THE TICK. -/
theorem ser_k : ∀ F, F < 512 → ((nI F &&& 477 = 0) ↔ (nI F &&& (-35) = 0)) := by decide +kernel
theorem ser_eq {γ μ : ck_S} (hl : Rl γ μ) : cSer γ = mSer μ := by
  obtain ⟨-, l2, F, l3, l4⟩ := hl
  unfold cSer mSer
  rw [l2, l4]
  have := ser_k F l3
  simp only [this]
def Rolf (γ μ : ck_S) : Prop := Ro γ μ ∧ Rl γ μ ∧ Rf γ μ
theorem bec_rel {γ μ : ck_S} (h : Rolf γ μ) {s : Nat} (hs : s ≤ 4) {x : Int32} (hx : x = nI s) : Rolf (cBec x γ) (mBec x μ) := ⟨⟨rfl, ⟨s, hs, hx⟩, rfl⟩, h.2.1, h.2.2⟩
theorem step_rel {γ μ : ck_S} (h : Rolf γ μ) (may allv : Bool) (sm : Int) : Rolf (cStep may allv sm (μ.1 10 0 15).toInt γ) (mStep may allv sm μ) := by
  obtain ⟨⟨o1, ⟨s, hs, es⟩, o3⟩, hl, hf⟩ := id h
  unfold cStep mStep
  rw [o1, o3]
  by_cases c1 : μ.1 10 0 28 = 0
  · rw [if_pos c1, if_pos c1]
    by_cases c2 : may = true
    · rw [if_pos c2, if_pos c2]
      exact bec_rel h (s := 1) (by decide) rfl
    · rw [if_neg c2, if_neg c2]
      exact h
  · rw [if_neg c1, if_neg c1]
    by_cases c2 : μ.1 10 0 28 = 4
    · rw [if_pos c2, if_pos c2]
      by_cases c3 : 3 ≤ μ.1 10 0 29
      · rw [if_pos c3, if_pos c3]
        by_cases c4 : sm < 2 * (μ.1 10 0 15).toInt
        · rw [if_pos c4, if_pos c4]
          have q := latch_rel (γ := γ) (μ := mBec 0 μ) hl hf (k := 8) (by decide)
          exact ⟨⟨rfl, ⟨0, by decide, rfl⟩, rfl⟩, q.1, q.2⟩
        · rw [if_neg c4, if_neg c4]
          exact bec_rel h (s := 0) (by decide) rfl
      · rw [if_neg c3, if_neg c3]
        exact h
    · rw [if_neg c2, if_neg c2]
      by_cases c3 : may = false
      · rw [if_pos c3, if_pos c3]
        exact bec_rel h (s := 4) (by decide) rfl
      · rw [if_neg c3, if_neg c3]
        by_cases c4 : μ.1 10 0 28 = 1
        · rw [if_pos c4, if_pos c4]
          by_cases c5 : 2 ≤ μ.1 10 0 29
          · rw [if_pos c5, if_pos c5]
            exact bec_rel h (s := 2) (by decide) rfl
          · rw [if_neg c5, if_neg c5]
            exact h
        · rw [if_neg c4, if_neg c4]
          by_cases c5 : μ.1 10 0 28 = 2
          · rw [if_pos c5, if_pos c5]
            by_cases c6 : allv = true ∧ 19 * sm ≤ 20 * (μ.1 10 0 15).toInt
            · rw [if_pos c6, if_pos c6]
              exact bec_rel h (s := 3) (by decide) rfl
            · rw [if_neg c6, if_neg c6]
              by_cases c7 : 30 ≤ μ.1 10 0 29
              · rw [if_pos c7, if_pos c7]
                have q := latch_rel (γ := γ) (μ := μ) hl hf (k := 7) (by decide)
                exact ⟨⟨rfl, ⟨4, by decide, rfl⟩, rfl⟩, q.1, q.2⟩
              · rw [if_neg c7, if_neg c7]
                exact h
          · rw [if_neg c5, if_neg c5]
            exact h
/-- what the class's contactors leave alone -/
def Fb (σ τ : ck_S) : Prop := τ.2 = σ.2 ∧ (∀ f, f ≠ 3 → f ≠ 4 → f ≠ 5 → τ.1 f = σ.1 f) ∧ τ.1 3 0 0 = σ.1 3 0 0
theorem Fb_refl (σ : ck_S) : Fb σ σ := ⟨rfl, fun _ _ _ _ => rfl, rfl⟩
theorem Fb_trans {σ τ υ : ck_S} (h1 : Fb σ τ) (h2 : Fb τ υ) : Fb σ υ := ⟨h2.1.trans h1.1, fun f a b c => (h2.2.1 f a b c).trans (h1.2.1 f a b c), h2.2.2.trans h1.2.2⟩
theorem Fb_a {σ τ : ck_S} (h : Fa σ τ) : Fb σ τ := ⟨h.1, fun f a b _ => h.2.1 f a b, h.2.2⟩
theorem Fb_5 (σ : ck_S) (k : Nat) (v : Int32) : Fb σ (ck_ui σ 5 0 k v) := by
  refine ⟨rfl, fun f a b c => ?_, ?_⟩
  · funext i j
    simp [ck_ui, ck_up, c]
  · simp [ck_ui, ck_up]
theorem Fb_bec (s : Int32) (σ : ck_S) : Fb σ (cBec s σ) := Fb_trans (Fb_5 _ _ _) (Fb_5 _ _ _)
theorem Fb_step (may allv : Bool) (sm bus : Int) (σ : ck_S) : Fb σ (cStep may allv sm bus σ) := by
  unfold cStep
  repeat' split
  all_goals first | exact Fb_refl _ | exact Fb_bec _ _ | exact Fb_trans (Fb_a (Fa_latch _ _)) (Fb_bec _ _)
theorem Fc_bec (s : Int32) (σ : ck_S) : Fc σ (mBec s σ) := Fc_trans (Fc_10 _ (by omega) _) (Fc_10 _ (by omega) _)
theorem Fc_step (may allv : Bool) (sm : Int) (σ : ck_S) : Fc σ (mStep may allv sm σ) := by
  unfold mStep
  repeat' split
  all_goals first | exact Fc_refl _ | exact Fc_bec _ _ | exact Fc_trans (Fc_bec _ _) (Fc_latch _ _) | exact Fc_trans (Fc_latch _ _) (Fc_bec _ _)
theorem mBec_mk (s : Int32) (γ μ : ck_S) : mBec s (ck_mk γ μ) = ck_mk γ (mBec s μ) := by
  unfold mBec
  simp only [mui_10]
theorem cBec_mk (s : Int32) (γ μ : ck_S) : cBec s (ck_mk γ μ) = ck_mk (cBec s γ) μ := by
  unfold cBec
  simp only [mui_5]
theorem mStep_mk (may allv : Bool) (sm : Int) (γ μ : ck_S) : mStep may allv sm (ck_mk γ μ) = ck_mk γ (mStep may allv sm μ) := by
  unfold mStep
  simp only [mi_10, mBec_mk, mLatch_mk]
  repeat' split
  all_goals rfl
theorem cStep_mk (may allv : Bool) (sm bus : Int) (γ μ : ck_S) : cStep may allv sm bus (ck_mk γ μ) = ck_mk (cStep may allv sm bus γ) μ := by
  unfold cStep
  simp only [mi_5, cBec_mk, cLatch_mk]
  repeat' split
  all_goals rfl
def mStepS (n : Nat) (μ : ck_S) : ck_S := mStep (decide (¬ μ.1 10 0 16 = 0) && !mSer μ) (!anyB (mBad (rp μ)) (6 * n)) (mSum (rp μ) (6 * n)).toInt (ck_ui μ 10 0 29 (μ.1 10 0 29 + 1))
section STEPS
variable {n b B : Nat} {cap : Int} {γ μ : ck_S}
theorem pr_step (hB : B ≤ 1000000) (h : RC n b B cap γ μ) (hS : SV n γ μ) (hf : Rf γ μ) : RunM (sp_X7_contactors n (32 * b)) μ (mStepS n μ) ∧ (mStepS n μ).1 10 0 0 = μ.1 10 0 0 ∧ RunC (fun σ post => sp_X4_step n (32 * b) σ (ck_gi σ 0 0 14) (ck_gi σ 0 0 13) post) γ (fun γ' => RC n b B cap γ' (mStepS n μ) ∧ SV n γ' (mStepS n μ) ∧ Rf γ' (mStepS n μ)) := by
  obtain ⟨h1, h2, h3, h4, h5, ⟨s1, s2, s3, s4, s5, s6, s7, s8, s9⟩, h7, ⟨o1, ⟨s, hs, es⟩, o3⟩, h9, h10⟩ := id h
  obtain ⟨k1, k2, k3, k4, k5, k6, k7, k8, k9, k10, k11, k12, k13, k14⟩ := id h1
  unfold mStepS
  have F : Fc μ (mStep (decide (¬ μ.1 10 0 16 = 0) && !mSer μ) (!anyB (mBad (rp μ)) (6 * n)) (mSum (rp μ) (6 * n)).toInt (ck_ui μ 10 0 29 (μ.1 10 0 29 + 1))) := Fc_trans (Fc_10 _ (by omega) _) (Fc_step _ _ _ _)
  refine ⟨?_, F.2.2 0 (by decide) (by decide) (by decide) (by decide), ?_⟩
  · intro γ0 post hp
    refine m_cont (σ := ck_mk γ0 μ) k2 k1 k9 (Rc_gR hB h10) hs es s6 s7 ?_
    have e : ck_ui (ck_mk γ0 μ) 10 0 29 ((ck_mk γ0 μ).1 10 0 29 + 1) = ck_mk γ0 (ck_ui μ 10 0 29 (μ.1 10 0 29 + 1)) := mui_10 _ _ _ _ _
    rw [e, mStep_mk]
    exact hp
  · intro μ0 post hp
    have eb : ck_gi (ck_mk γ μ0) 0 0 13 = μ.1 10 0 15 := s5
    have ew : ck_gi (ck_mk γ μ0) 0 0 14 = μ.1 10 0 16 := s8
    show sp_X4_step n (32 * b) (ck_mk γ μ0) (ck_gi (ck_mk γ μ0) 0 0 14) (ck_gi (ck_mk γ μ0) 0 0 13) post
    rw [eb, ew]
    refine c_step (σ := ck_mk γ μ0) (R := rp μ) k2 hS.1 hs (o1.trans es) s6 s7 ?_
    have e : ck_ui (ck_mk γ μ0) 5 0 1 ((ck_mk γ μ0).1 5 0 1 + 1) = ck_mk (ck_ui γ 5 0 1 (γ.1 5 0 1 + 1)) μ0 := mui_5 _ _ _ _ _
    have e2 : cSer (ck_mk γ μ0) = mSer μ := ser_eq (γ := γ) h7
    rw [e, e2, cStep_mk]
    have q : Rolf (ck_ui γ 5 0 1 (γ.1 5 0 1 + 1)) (ck_ui μ 10 0 29 (μ.1 10 0 29 + 1)) := ⟨⟨o1, ⟨s, hs, es⟩, congrArg (· + 1) o3⟩, h7, hf⟩
    have r := step_rel q (decide (¬ μ.1 10 0 16 = 0) && !mSer μ) (!anyB (mBad (rp μ)) (6 * n)) (mSum (rp μ) (6 * n)).toInt
    have A : Fb γ (cStep (decide (¬ μ.1 10 0 16 = 0) && !mSer μ) (!anyB (mBad (rp μ)) (6 * n)) (mSum (rp μ) (6 * n)).toInt (μ.1 10 0 15).toInt (ck_ui γ 5 0 1 (γ.1 5 0 1 + 1))) := Fb_trans (Fb_5 _ _ _) (Fb_step _ _ _ _ _)
    exact hp _ ⟨RC_al h A.1 A.2.1 A.2.2 F r.2.1 r.1, SV_al hS A.1 (A.2.1 2 (by decide) (by decide) (by decide)) F, r.2.2⟩
/-! bleeding -/
def mBleedS (n : Nat) (μ : ck_S) : ck_S := mBle (mBl (mMay μ) (rp μ) (μ.1 10 0 10) (mLeast (rp μ) (6 * n))) n μ
theorem mBle_mk (bl : Nat → Int32) (j : Nat) (γ μ : ck_S) : mBle bl j (ck_mk γ μ) = ck_mk γ (mBle bl j μ) := by
  unfold mBle ck_mk
  ext f i k
  · show (if f = 20 ∧ i = 0 ∧ k < j then bl k else if 10 ≤ f ∧ f ≤ 20 then μ.1 f i k else γ.1 f i k) = if 10 ≤ f ∧ f ≤ 20 then (if f = 20 ∧ i = 0 ∧ k < j then bl k else μ.1 f i k) else γ.1 f i k
    grind
  · rfl
  · rfl
theorem cBle_mk (bl : Nat → Int32) (j : Nat) (γ μ : ck_S) : cBle bl j (ck_mk γ μ) = ck_mk (cBle bl j γ) μ := by
  unfold cBle ck_mk
  ext f i k
  · show (if f = 30 ∧ i < j ∧ k = 7 then bl i else if 10 ≤ f ∧ f ≤ 20 then μ.1 f i k else γ.1 f i k) = if 10 ≤ f ∧ f ≤ 20 then μ.1 f i k else (if f = 30 ∧ i < j ∧ k = 7 then bl i else γ.1 f i k)
    grind
  · rfl
  · rfl
theorem may_eq {γ μ : ck_S} (ho : Ro γ μ) (hl : Rl γ μ) (ha : Ra γ μ) : cMay (μ.2.1 10 0 13).toInt γ = mMay μ := by
  unfold cMay mMay
  rw [ser_eq hl, ho.1, ← szZ_L ha.2.1 ha.2.2]
  have : (szL (μ.2.1 10 0 13) < 16) ↔ (szL (μ.2.1 10 0 13)).toInt < 16 := by
    rw [Int64.lt_iff_toInt_lt]
    rfl
  simp only [this]
theorem pr_bleed (hB : B ≤ 1000000) (h : RC n b B cap γ μ) (hS : SV n γ μ) (hf : Rf γ μ) : RunM (sp_X7_bleed n (32 * b)) μ (mBleedS n μ) ∧ (mBleedS n μ).1 10 0 0 = μ.1 10 0 0 ∧ RunC (sp_X6_letBleed n (32 * b)) γ (fun γ' => RC n b B cap γ' (mBleedS n μ) ∧ Rf γ' (mBleedS n μ)) := by
  obtain ⟨h1, h2, h3, h4, h5, h6, h7, h8, h9, h10⟩ := id h
  obtain ⟨k1, k2, k3, k4, k5, k6, k7, k8, k9, k10, k11, k12, k13, k14⟩ := id h1
  unfold mBleedS
  generalize hbl : mBl (mMay μ) (rp μ) (μ.1 10 0 10) (mLeast (rp μ) (6 * n)) = bl
  refine ⟨?_, rfl, ?_⟩
  · intro γ0 post hp
    refine m_bleed (σ := ck_mk γ0 μ) (R := rp μ) k2 k9 rfl (Rc_gR hB h10) ?_
    have e : mBl (mMay (ck_mk γ0 μ)) (rp μ) ((ck_mk γ0 μ).1 10 0 10) (mLeast (rp μ) (6 * n)) = bl := hbl
    rw [e, mBle_mk]
    exact hp
  · intro μ0 post hp
    refine c_letBleed (σ := ck_mk γ μ0) (R := rp μ) hB k2 (fun c hc => (h10 c hc).1) hS.1.2.2.2.1 h4.1 ?_
    have e : mBl (cMay (μ.2.1 10 0 13).toInt (ck_mk γ μ0)) (rp μ) ((ck_mk γ μ0).1 0 0 8) (mLeast (rp μ) (6 * n)) = bl := by
      show mBl (cMay (μ.2.1 10 0 13).toInt γ) (rp μ) (γ.1 0 0 8) (mLeast (rp μ) (6 * n)) = bl
      rw [may_eq h8 h7 h4, h6.2.2.1, hbl]
    rw [e, cBle_mk]
    refine hp _ ⟨⟨h1, h2, h3, h4, h5, h6, h7, h8, h9, fun c hc => ⟨Rch_ble (h10 c hc).1, ?_⟩⟩, hf⟩
    show (cBle bl n γ).1 30 c 7 = (mBle bl n μ).1 20 0 c
    simp [cBle, mBle, hc]
/-! writing -/
theorem pt_mkM {f0 : Nat} (hf : 10 ≤ f0 ∧ f0 ≤ 20) (a l : Nat) (g : Nat → Int32) (γ μ : ck_S) : pt f0 a l g (ck_mk γ μ) = ck_mk γ (pt f0 a l g μ) := by
  unfold pt ck_mk
  ext f i k
  · show (if f = f0 ∧ i = 0 ∧ a ≤ k ∧ k < a + l then g (k - a) else if 10 ≤ f ∧ f ≤ 20 then μ.1 f i k else γ.1 f i k) = if 10 ≤ f ∧ f ≤ 20 then (if f = f0 ∧ i = 0 ∧ a ≤ k ∧ k < a + l then g (k - a) else μ.1 f i k) else γ.1 f i k
    grind
  · rfl
  · rfl
theorem pt_mkC {f0 : Nat} (hf : ¬ (10 ≤ f0 ∧ f0 ≤ 20)) (a l : Nat) (g : Nat → Int32) (γ μ : ck_S) : pt f0 a l g (ck_mk γ μ) = ck_mk (pt f0 a l g γ) μ := by
  unfold pt ck_mk
  ext f i k
  · show (if f = f0 ∧ i = 0 ∧ a ≤ k ∧ k < a + l then g (k - a) else if 10 ≤ f ∧ f ≤ 20 then μ.1 f i k else γ.1 f i k) = if 10 ≤ f ∧ f ≤ 20 then μ.1 f i k else (if f = f0 ∧ i = 0 ∧ a ≤ k ∧ k < a + l then g (k - a) else γ.1 f i k)
    grind
  · rfl
  · rfl
theorem mWr_mk (b m l : Nat) (g : Nat → Int32) (γ μ : ck_S) : mWr b m l g (ck_mk γ μ) = ck_mk γ (mWr b m l g μ) := by
  unfold mWr
  rw [pt_mkM (by decide), pt_mkM (by decide)]
  simp only [mui_10]
theorem cWr_mk (b m l : Nat) (g : Nat → Int32) (γ μ : ck_S) : cWr b m l g (ck_mk γ μ) = ck_mk (cWr b m l g γ) μ := by
  unfold cWr
  rw [pt_mkC (by decide), pt_mkC (by decide)]
  simp only [mui_6]
def mWriteS (b : Nat) (μ : ck_S) : ck_S := mWr b (μ.1 10 0 8).toNatClampNeg (μ.1 10 0 31).toNatClampNeg (bK (μ.1 10 0 8) (μ.1 10 0 10) (μ.2.1 10 0 11) (μ.1 10 0 26) (μ.1 10 0 28)) μ
theorem pr_write (hB : B ≤ 1000000) (h : RC n b B cap γ μ) : RunM (sp_X7_write n (32 * b)) μ (mWriteS b μ) ∧ (mWriteS b μ).1 10 0 0 = μ.1 10 0 0 ∧ RunC (sp_X6_writeBlock n (32 * b)) γ (fun γ' => RC n b (B + 1) cap γ' (mWriteS b μ)) := by
  obtain ⟨h1, ⟨q1, q2, q3⟩, h3, h4, h5, ⟨s1, s2, s3⟩, h7, h8, ⟨i1, ⟨m, i2, i3, i4⟩, i5, ⟨l, i6, i7⟩, i8, i9, i10⟩, h10⟩ := id h
  obtain ⟨k1, k2, k3, k4, k5, k6, k7, k8, k9, k10, k11, k12, k13, k14⟩ := id h1
  unfold mWriteS
  have em : (μ.1 10 0 8).toNatClampNeg = m := by rw [i4, nI_clamp (by omega)]
  have el : (μ.1 10 0 31).toNatClampNeg = l := by rw [i7, nI_clamp (by omega)]
  rw [em, el]
  refine ⟨?_, rfl, ?_⟩
  · intro γ0 post hp
    refine m_write (σ := ck_mk γ0 μ) k3 k4 k10 i2 (by omega) i4 i6 i7 ?_
    rw [mWr_mk]
    exact hp
  · intro μ0 post hp
    refine c_writeBlock (σ := ck_mk γ μ0) (q := μ.2.1 10 0 11) k3 k4 rfl k11 i2 (by omega) (i1.trans i4) i6 (i5.trans i7) i10 q1 q2 (by omega) ?_
    have e : bK ((ck_mk γ μ0).1 6 0 3) ((ck_mk γ μ0).1 0 0 8) (μ.2.1 10 0 11) ((ck_mk γ μ0).1 3 0 2) ((ck_mk γ μ0).1 5 0 0) = bK (μ.1 10 0 8) (μ.1 10 0 10) (μ.2.1 10 0 11) (μ.1 10 0 26) (μ.1 10 0 28) := by
      show bK (γ.1 6 0 3) (γ.1 0 0 8) (μ.2.1 10 0 11) (γ.1 3 0 2) (γ.1 5 0 0) = _
      rw [i1, s3.1, h7.2.1, h8.1]
    rw [e, cWr_mk, mui_0]
    have gz : ∀ k, 20 ≤ k → k < 30 → bK (μ.1 10 0 8) (μ.1 10 0 10) (μ.2.1 10 0 11) (μ.1 10 0 26) (μ.1 10 0 28) k = 0 := by
      intro k p1 p2
      unfold bK bK0
      rw [if_pos p2, if_neg (by omega), if_neg (by omega), if_neg (by omega), if_neg (by omega), if_neg (by omega)]
    have g256 := bK_256 (μ.1 10 0 8) (μ.1 10 0 10) (μ.2.1 10 0 11) (μ.1 10 0 26) (μ.1 10 0 28)
    generalize bK (μ.1 10 0 8) (μ.1 10 0 10) (μ.2.1 10 0 11) (μ.1 10 0 26) (μ.1 10 0 28) = g at gz g256 hp ⊢
    have hmod : (m - 1) % b < b := Nat.mod_lt _ (by omega)
    unfold mWr at hp
    unfold cWr
    generalize hA : (m - 1) % b = A at hmod hp ⊢
    have hRc : Rc n (B + 1) γ μ := fun c hc => ⟨Rch_mono (Nat.le_succ B) (h10 c hc).1, (h10 c hc).2⟩
    refine hp _ ⟨h1, ⟨q1, q2, q3⟩, h3, h4, h5, ⟨rfl, b2_b _, s3⟩, h7, h8, ⟨rfl, ⟨m + 1, by omega, by omega, rfl⟩, i5, ⟨l, i6, i7⟩, ?_, ?_, ?_⟩, hRc⟩
    · intro k hk
      show ∃ v, v < 256 ∧ (pt 11 (32 * A) l g (pt 12 0 32 g μ)).1 11 0 k = nI v
      by_cases c : 32 * A ≤ k ∧ k < 32 * A + l
      · rw [pt_in c.1 c.2]
        exact g256 _
      · rw [pt_out (by omega)]
        exact i8 k hk
    · intro k hk
      show (pt 7 (32 * A) l (fun k => sg (g k)) (pt 8 0 32 (fun k => sg (g k)) γ)).1 7 0 k = sg ((pt 11 (32 * A) l g (pt 12 0 32 g μ)).1 11 0 k)
      by_cases c : 32 * A ≤ k ∧ k < 32 * A + l
      · rw [pt_in c.1 c.2, pt_in c.1 c.2]
      · rw [pt_out (by omega), pt_out (by omega)]
        exact i9 k hk
    · intro k p1 p2
      show (pt 7 (32 * A) l (fun k => sg (g k)) (pt 8 0 32 (fun k => sg (g k)) γ)).1 8 0 k = 0
      rw [pt_f (by decide), pt_in (by omega) (by omega), Nat.sub_zero, gz k p1 p2]
      decide
/-! one tick -/
def mTick6 (n : Nat) (cap : Int) (μ : ck_S) : ck_S := mBleedS n (mStepS n (mCausesS n (mAllowS n cap (mCountS n (ck_ui (mAge n (ck_ui μ 10 0 10 (μ.1 10 0 10 + 1))) 10 0 27 0)))))
def wrB (τ : ck_S) : Bool := decide (¬ τ.1 10 0 27 = 0 ∨ τ.1 10 0 10 - τ.1 10 0 10 / τ.1 10 0 5 * τ.1 10 0 5 = 0)
def mTickS (n b : Nat) (cap : Int) (μ : ck_S) : ck_S := if wrB (mTick6 n cap μ) = true then mWriteS b (mTick6 n cap μ) else mTick6 n cap μ
theorem mAge_mk (j : Nat) (γ μ : ck_S) : mAge j (ck_mk γ μ) = ck_mk γ (mAge j μ) := by
  unfold mAge ck_mk
  ext f i k
  · show (if f = 18 ∧ i = 0 ∧ k < j then mAg (if (10 : Nat) ≤ 18 ∧ (18 : Nat) ≤ 20 then μ.1 18 0 k else γ.1 18 0 k) else if 10 ≤ f ∧ f ≤ 20 then μ.1 f i k else γ.1 f i k) = if 10 ≤ f ∧ f ≤ 20 then (if f = 18 ∧ i = 0 ∧ k < j then mAg (μ.1 18 0 k) else μ.1 f i k) else γ.1 f i k
    grind
  · rfl
  · rfl
theorem cAge_mk (j : Nat) (γ μ : ck_S) : cAge j (ck_mk γ μ) = ck_mk (cAge j γ) μ := by
  unfold cAge ck_mk
  ext f i k
  · show (if f = 30 ∧ i < j ∧ k = 5 then (if (10 : Nat) ≤ 30 ∧ (30 : Nat) ≤ 20 then μ.1 30 i 5 else γ.1 30 i 5) + 1 else if 10 ≤ f ∧ f ≤ 20 then μ.1 f i k else γ.1 f i k) = if 10 ≤ f ∧ f ≤ 20 then μ.1 f i k else (if f = 30 ∧ i < j ∧ k = 5 then γ.1 30 i 5 + 1 else γ.1 f i k)
    grind
  · rfl
  · rfl
end STEPS
