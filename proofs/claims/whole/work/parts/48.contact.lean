/-! CONTACTORS AND BLEEDING. -/
theorem sum_b (R : ck_R) : ∀ j, j ≤ 24 → 0 ≤ (mSum R j).toInt ∧ (mSum R j).toInt ≤ 4999 * j
  | 0, _ => by simp [mSum]
  | j + 1, hj => by
    have ih := sum_b R j (by omega)
    rw [mSum]
    split
    · rename_i hv
      have b : 500 ≤ mNo R (j / 6) (j % 6) 0 ∧ mNo R (j / 6) (j % 6) 0 ≤ 4999 := by
        unfold mV at hv
        simp only [Bool.and_eq_true, decide_eq_true_eq] at hv
        exact ⟨hv.1.1.1.2, hv.1.1.2⟩
      have b1 : 500 ≤ (mNo R (j / 6) (j % 6) 0).toInt := Int32.le_iff_toInt_le.mp b.1
      have b2 : (mNo R (j / 6) (j % 6) 0).toInt ≤ 4999 := Int32.le_iff_toInt_le.mp b.2
      rw [fb_addI (by omega) (by omega)]
      omega
    · omega
section PURE
variable {nc nb : Nat} {σ : ck_S} {R : ck_R}
def mSer (σ : ck_S) : Bool := decide (¬ (σ.1 10 0 26 &&& (-35)) = 0)
theorem m_serious {post : Int32 → ck_S → Prop} (h : post (b2 (mSer σ)) σ) : sp_X7_isSerious nc nb σ post := by
  unfold sp_X7_isSerious
  unfold mSer at h
  refine ⟨fun a => ⟨b2_b false, ?_⟩, fun a => ⟨b2_b true, ?_⟩⟩
  · have a : (σ.1 10 0 26 &&& (-35)) = 0 := a
    rw [decide_eq_false (fun q => q a)] at h
    exact h
  · have a : ¬ (σ.1 10 0 26 &&& (-35)) = 0 := a
    rw [decide_eq_true a] at h
    exact h
def cSer (σ : ck_S) : Bool := decide (¬ (σ.1 3 0 2 &&& 477) = 0)
theorem c_serious {post : Int32 → ck_S → Prop} (h : post (b2 (cSer σ)) σ) : sp_X0_anySerious nc nb σ post := by
  unfold sp_X0_anySerious
  unfold cSer at h
  refine ⟨fun a => ⟨b2_b false, ?_⟩, fun a => ⟨b2_b true, ?_⟩⟩
  · have a : (σ.1 3 0 2 &&& 477) = 0 := a
    rw [decide_eq_false (fun q => q a)] at h
    exact h
  · have a : ¬ (σ.1 3 0 2 &&& 477) = 0 := a
    rw [decide_eq_true a] at h
    exact h
def mBec (s : Int32) (σ : ck_S) : ck_S := ck_ui (ck_ui σ 10 0 28 s) 10 0 29 0
def mStep (may allv : Bool) (sm : Int) (σ : ck_S) : ck_S :=
  if σ.1 10 0 28 = 0 then (if may = true then mBec 1 σ else σ)
  else if σ.1 10 0 28 = 4 then (if 3 ≤ σ.1 10 0 29 then (if sm < 2 * (σ.1 10 0 15).toInt then mLatch 8 (mBec 0 σ) else mBec 0 σ) else σ)
  else if may = false then mBec 4 σ
  else if σ.1 10 0 28 = 1 then (if 2 ≤ σ.1 10 0 29 then mBec 2 σ else σ)
  else if σ.1 10 0 28 = 2 then (if allv = true ∧ 19 * sm ≤ 20 * (σ.1 10 0 15).toInt then mBec 3 σ else if 30 ≤ σ.1 10 0 29 then mBec 4 (mLatch 7 σ) else σ)
  else σ
theorem m_become {s : Int32} {post : ck_S → Prop} (h : post (mBec s σ)) : sp_X7_become nc nb σ s post := by
  unfold sp_X7_become
  exact al_1 (al_1 h)
theorem m_cont29 {n : Nat} (hn : n ≤ 4) (hn1 : 1 ≤ n) (h1 : σ.1 10 0 1 = nI n) (hg : gR n (rp σ)) {may : Bool} {st : Nat} (hst : st ≤ 4) (es : σ.1 10 0 28 = nI st) (hb0 : 0 ≤ (σ.1 10 0 15).toInt) (hb1 : (σ.1 10 0 15).toInt ≤ 1000000) {post : ck_S → Prop} (h : post (mStep may (!anyB (mBad (rp σ)) (6 * n)) (mSum (rp σ) (6 * n)).toInt σ)) : sp_X7_contactors_29 nc nb post σ (b2 may) := by
  have sb := sum_b (rp σ) (6 * n) (by omega)
  have es' : ck_gi σ 10 0 28 = nI st := es
  unfold sp_X7_contactors_29
  rw [es']
  unfold mStep at h
  rw [es] at h
  have hc : st = 0 ∨ st = 1 ∨ st = 2 ∨ st = 3 ∨ st = 4 := by omega
  rcases hc with rfl | rfl | rfl | rfl | rfl
  · refine kb_t (by decide) ?_
    unfold sp_X7_contactors_57
    rw [es']
    refine kn_f (by decide) ?_
    rw [b2_0]
    rw [if_pos (by decide)] at h
    refine ⟨fun a => ?_, fun a => m_become ?_⟩
    · rw [if_neg (by rw [a]; decide)] at h
      unfold sp_X7_contactors_76 sp_X7_contactors_100 sp_X7_contactors_145 sp_X7_contactors_176
      rw [es']
      exact kn_t (by decide) (kn_t (by decide) (kn_t (by decide) (kn_t (by decide) h)))
    · rw [Bool.not_eq_false] at a
      rw [if_pos a] at h
      exact h
  · refine kb_f (by decide) (kb_f (by decide) ?_)
    rw [if_neg (by decide), if_neg (by decide)] at h
    rw [b2_0]
    refine ⟨fun a => ?_, fun a => m_become ?_⟩
    · rw [if_neg a, if_pos (by decide)] at h
      unfold sp_X7_contactors_57
      rw [es']
      refine kn_t (by decide) ?_
      unfold sp_X7_contactors_76
      rw [es']
      refine kn_f (by decide) ⟨fun b => ?_, fun b => m_become ?_⟩
      · have b : σ.1 10 0 29 < 2 := b
        rw [if_neg (by grind)] at h
        unfold sp_X7_contactors_100 sp_X7_contactors_145 sp_X7_contactors_176
        rw [es']
        exact kn_t (by decide) (kn_t (by decide) (kn_t (by decide) h))
      · have b : ¬ σ.1 10 0 29 < 2 := b
        rw [if_pos (by grind)] at h
        exact h
    · rw [if_pos a] at h
      exact h
  · refine kb_f (by decide) (kb_f (by decide) ?_)
    rw [if_neg (by decide), if_neg (by decide)] at h
    rw [b2_0]
    refine ⟨fun a => ?_, fun a => m_become ?_⟩
    · rw [if_neg a, if_neg (by decide), if_pos (by decide)] at h
      have t145 : ¬ ((!anyB (mBad (rp σ)) (6 * n)) = true ∧ 19 * (mSum (rp σ) (6 * n)).toInt ≤ 20 * (σ.1 10 0 15).toInt) → sp_X7_contactors_145 nc nb post σ := by
        intro hno
        rw [if_neg hno] at h
        unfold sp_X7_contactors_145
        rw [es']
        refine kn_f (by decide) ⟨fun b => ?_, fun b => ?_⟩
        · have b : σ.1 10 0 29 < 30 := b
          rw [if_neg (by grind)] at h
          unfold sp_X7_contactors_176
          rw [es']
          exact kn_t (by decide) h
        · have b : ¬ σ.1 10 0 29 < 30 := b
          rw [if_pos (by grind)] at h
          exact m_latch (m_become h)
      unfold sp_X7_contactors_57 sp_X7_contactors_76 sp_X7_contactors_100
      rw [es']
      refine kn_t (by decide) (kn_t (by decide) (kn_f (by decide) ?_))
      refine m_areAllValid (R := rp σ) rfl hn h1 hg ?_
      rw [b2_0]
      refine ⟨fun b => t145 ?_, fun b => ?_⟩
      · rw [b]
        simp
      · refine m_sum (R := rp σ) rfl hn h1 hg ?_
        have b : (!anyB (mBad (rp σ)) (6 * n)) = true := by rwa [Bool.not_eq_false] at b
        simp only [lg_cmp_lt, Int64.lt_iff_toInt_lt]
        have z20 : (20 : Int64).toInt = 20 := by decide
        have z19 : (19 : Int64).toInt = 19 := by decide
        have e1 : (20 * (ck_gi σ 10 0 15).toInt64).toInt = 20 * (σ.1 10 0 15).toInt := by
          show (20 * (σ.1 10 0 15).toInt64).toInt = _
          rw [z_mul z20 (by rw [Int32.toInt_toInt64]; omega) (by rw [Int32.toInt_toInt64]; omega), Int32.toInt_toInt64]
        have e2 : (19 * (mSum (rp σ) (6 * n)).toInt64).toInt = 19 * (mSum (rp σ) (6 * n)).toInt := by
          rw [z_mul z19 (by rw [Int32.toInt_toInt64]; omega) (by rw [Int32.toInt_toInt64]; omega), Int32.toInt_toInt64]
        rw [e1, e2]
        refine ⟨fun d => t145 (fun q => by omega), fun d => m_become ?_⟩
        rw [if_pos ⟨b, by omega⟩] at h
        exact h
    · rw [if_pos a] at h
      exact h
  · refine kb_f (by decide) (kb_f (by decide) ?_)
    rw [if_neg (by decide), if_neg (by decide)] at h
    rw [b2_0]
    refine ⟨fun a => ?_, fun a => m_become ?_⟩
    · rw [if_neg a, if_neg (by decide), if_neg (by decide)] at h
      unfold sp_X7_contactors_57 sp_X7_contactors_76 sp_X7_contactors_100 sp_X7_contactors_145 sp_X7_contactors_176
      rw [es']
      exact kn_t (by decide) (kn_t (by decide) (kn_t (by decide) (kn_t (by decide) (kn_t (by decide) h))))
    · rw [if_pos a] at h
      exact h
  · refine kb_f (by decide) (kb_t (by decide) ?_)
    rw [if_neg (by decide), if_pos (by decide)] at h
    unfold sp_X7_contactors_57 sp_X7_contactors_76 sp_X7_contactors_100 sp_X7_contactors_145 sp_X7_contactors_176
    rw [es']
    refine kn_t (by decide) (kn_t (by decide) (kn_t (by decide) (kn_t (by decide) (kn_f (by decide) ⟨fun b => ?_, fun b => ?_⟩))))
    · have b : σ.1 10 0 29 < 3 := b
      rw [if_neg (by grind)] at h
      exact h
    · have b : ¬ σ.1 10 0 29 < 3 := b
      rw [if_pos (by grind)] at h
      refine m_become (m_sum (σ := mBec 0 σ) (R := rp σ) rfl hn h1 hg ?_)
      simp only [lg_cmp_le, Int64.le_iff_toInt_le]
      have z2 : (2 : Int64).toInt = 2 := by decide
      have e1 : (2 * (ck_gi (mBec 0 σ) 10 0 15).toInt64).toInt = 2 * (σ.1 10 0 15).toInt := by
        show (2 * (σ.1 10 0 15).toInt64).toInt = _
        rw [z_mul z2 (by rw [Int32.toInt_toInt64]; omega) (by rw [Int32.toInt_toInt64]; omega), Int32.toInt_toInt64]
      rw [e1, Int32.toInt_toInt64]
      refine ⟨fun d => ?_, fun d => m_latch (k := 8) ?_⟩
      · rw [if_neg (by omega)] at h
        exact h
      · rw [if_pos (by omega)] at h
        exact h
theorem m_cont {n : Nat} (hn : n ≤ 4) (hn1 : 1 ≤ n) (h1 : σ.1 10 0 1 = nI n) (hg : gR n (rp σ)) {st : Nat} (hst : st ≤ 4) (es : σ.1 10 0 28 = nI st) (hb0 : 0 ≤ (σ.1 10 0 15).toInt) (hb1 : (σ.1 10 0 15).toInt ≤ 1000000) {post : ck_S → Prop} (h : post (mStep (decide (¬ σ.1 10 0 16 = 0) && !mSer σ) (!anyB (mBad (rp σ)) (6 * n)) (mSum (rp σ) (6 * n)).toInt (ck_ui σ 10 0 29 (σ.1 10 0 29 + 1)))) : sp_X7_contactors nc nb σ post := by
  unfold sp_X7_contactors sp_X7_contactors_28
  have key : ∀ may, may = (decide (¬ σ.1 10 0 16 = 0) && !mSer σ) → sp_X7_contactors_29 nc nb post (ck_ui σ 10 0 29 (σ.1 10 0 29 + 1)) (b2 may) := by
    intro may hm
    subst hm
    exact m_cont29 (σ := ck_ui σ 10 0 29 (σ.1 10 0 29 + 1)) hn hn1 h1 hg hst es hb0 hb1 h
  refine al_1 ⟨fun a => ?_, fun a => ?_⟩
  · have a : σ.1 10 0 16 = 0 := a
    exact key false (by rw [decide_eq_false (fun q => q a)]; rfl)
  · have a : ¬ σ.1 10 0 16 = 0 := a
    refine m_serious ?_
    have e : mSer (ck_ui σ 10 0 29 (ck_gi σ 10 0 29 + 1)) = mSer σ := rfl
    rw [e, b2_0]
    refine ⟨fun b => key false ?_, fun b => key true ?_⟩
    · rw [Bool.not_eq_false] at b
      rw [b]
      simp
    · rw [b, decide_eq_true a]
      rfl
/-! the class's step -/
def cBec (s : Int32) (σ : ck_S) : ck_S := ck_ui (ck_ui σ 5 0 0 s) 5 0 1 0
def cStep (may allv : Bool) (sm bus : Int) (σ : ck_S) : ck_S :=
  if σ.1 5 0 0 = 0 then (if may = true then cBec 1 σ else σ)
  else if σ.1 5 0 0 = 4 then (if 3 ≤ σ.1 5 0 1 then (if sm < 2 * bus then cBec 0 (cLatch 8 σ) else cBec 0 σ) else σ)
  else if may = false then cBec 4 σ
  else if σ.1 5 0 0 = 1 then (if 2 ≤ σ.1 5 0 1 then cBec 2 σ else σ)
  else if σ.1 5 0 0 = 2 then (if allv = true ∧ 19 * sm ≤ 20 * bus then cBec 3 σ else if 30 ≤ σ.1 5 0 1 then cBec 4 (cLatch 7 σ) else σ)
  else σ
theorem c_133 {s : Int32} (hs : ¬ s = σ.1 5 0 0) {post : ck_S → Prop} (h : post (cBec s σ)) : sp_X4_step_133 nc nb post σ s := by
  unfold sp_X4_step_133
  exact kb_f hs (al_1 (al_1 h))
theorem c_133s {s : Int32} (hs : s = σ.1 5 0 0) {post : ck_S → Prop} (h : post σ) : sp_X4_step_133 nc nb post σ s := by
  unfold sp_X4_step_133
  exact kb_t hs h
theorem c_step27 (hn : nc ≤ 4) (hS : SVp nc (6 * nc) σ R) {may : Bool} {st : Nat} (hst : st ≤ 4) (es : σ.1 5 0 0 = nI st) {bus : Int32} (hb0 : 0 ≤ bus.toInt) (hb1 : bus.toInt ≤ 1000000) {post : ck_S → Prop} (h : post (cStep may (!anyB (mBad R) (6 * nc)) (mSum R (6 * nc)).toInt bus.toInt σ)) : sp_X4_step_27 nc nb post σ bus (b2 may) := by
  have sb := sum_b R (6 * nc) (by omega)
  have es' : ck_gi σ 5 0 0 = nI st := es
  have eS : ck_gi σ 2 0 2 = mSum R (6 * nc) := hS.2.2.1
  unfold sp_X4_step_27
  refine al_1 ?_
  rw [es', b2_0]
  unfold cStep at h
  rw [es] at h
  have hc : st = 0 ∨ st = 1 ∨ st = 2 ∨ st = 3 ∨ st = 4 := by omega
  rcases hc with rfl | rfl | rfl | rfl | rfl
  · refine kn_f (by decide) ?_
    rw [if_pos (by decide)] at h
    unfold sp_X4_step_52
    refine ⟨fun a => c_133s es.symm ?_, fun a => c_133 (by rw [es]; decide) ?_⟩
    · rw [if_neg (by rw [a]; decide)] at h
      exact h
    · rw [Bool.not_eq_false] at a
      rw [if_pos a] at h
      exact h
  · refine kn_t (by decide) (kn_t (by decide) ?_)
    rw [if_neg (by decide), if_neg (by decide)] at h
    refine ⟨fun a => ?_, fun a => c_133 (by rw [es]; decide) ?_⟩
    · rw [if_neg a, if_pos (by decide)] at h
      unfold sp_X4_step_110
      refine kn_f (by decide) ⟨fun b => c_133s es.symm ?_, fun b => c_133 (by rw [es]; decide) ?_⟩
      · have b : σ.1 5 0 1 < 2 := b
        rw [if_neg (by grind)] at h
        exact h
      · have b : ¬ σ.1 5 0 1 < 2 := b
        rw [if_pos (by grind)] at h
        exact h
    · rw [if_pos a] at h
      exact h
  · refine kn_t (by decide) (kn_t (by decide) ?_)
    rw [if_neg (by decide), if_neg (by decide)] at h
    refine ⟨fun a => ?_, fun a => c_133 (by rw [es]; decide) ?_⟩
    · rw [if_neg a, if_neg (by decide), if_pos (by decide)] at h
      refine kn_t (by decide) (kn_f (by decide) ?_)
      have t23 : ¬ ((!anyB (mBad R) (6 * nc)) = true ∧ 19 * (mSum R (6 * nc)).toInt ≤ 20 * bus.toInt) → sp_X4_precharged_23 nc nb (fun x_8 σ7 => sp_X4_step_133 nc nb post σ7 x_8) σ := by
        intro hno
        rw [if_neg hno] at h
        unfold sp_X4_precharged_23
        refine ⟨fun b => ?_, fun b => c_133s es.symm ?_⟩
        · have b : 30 ≤ σ.1 5 0 1 := b
          rw [if_pos b] at h
          refine c_latch (k := 7) (by decide) (c_133 ?_ h)
          have : (cLatch 7 σ).1 5 0 0 = σ.1 5 0 0 := by rw [(Fa_latch 7 σ).2.1 5 (by decide) (by decide)]
          rw [this, es]
          decide
        · have b : ¬ 30 ≤ σ.1 5 0 1 := b
          rw [if_neg b] at h
          exact h
      unfold sp_X4_precharged
      refine c_allValid hS ?_
      rw [b2_0, eS]
      have e1 : (20 * bus).toInt = 20 * bus.toInt := by
        rw [fb_mulI (by rw [(by decide : (20 : Int32).toInt = 20)]; omega) (by rw [(by decide : (20 : Int32).toInt = 20)]; omega), (by decide : (20 : Int32).toInt = 20)]
      have e2 : (19 * mSum R (6 * nc)).toInt = 19 * (mSum R (6 * nc)).toInt := by
        rw [fb_mulI (by rw [(by decide : (19 : Int32).toInt = 19)]; omega) (by rw [(by decide : (19 : Int32).toInt = 19)]; omega), (by decide : (19 : Int32).toInt = 19)]
      rw [Int32.lt_iff_toInt_lt, e1, e2]
      refine ⟨fun b => t23 ?_, fun b => ⟨fun d => t23 (fun q => by omega), fun d => c_133 (by rw [es]; decide) ?_⟩⟩
      · rw [b]
        simp
      · rw [Bool.not_eq_false] at b
        rw [if_pos ⟨b, by omega⟩] at h
        exact h
    · rw [if_pos a] at h
      exact h
  · refine kn_t (by decide) (kn_t (by decide) ?_)
    rw [if_neg (by decide), if_neg (by decide)] at h
    refine ⟨fun a => ?_, fun a => c_133 (by rw [es]; decide) ?_⟩
    · rw [if_neg a, if_neg (by decide), if_neg (by decide)] at h
      exact kn_t (by decide) (kn_t (by decide) (c_133s es.symm h))
    · rw [if_pos a] at h
      exact h
  · refine kn_t (by decide) (kn_f (by decide) ?_)
    rw [if_neg (by decide), if_pos (by decide)] at h
    unfold sp_X4_opened
    have e1 : (2 * bus).toInt = 2 * bus.toInt := by
      rw [fb_mulI (by rw [(by decide : (2 : Int32).toInt = 2)]; omega) (by rw [(by decide : (2 : Int32).toInt = 2)]; omega), (by decide : (2 : Int32).toInt = 2)]
    rw [eS, Int32.le_iff_toInt_le (x := 2 * bus), e1]
    refine ⟨fun b => ?_, fun b => c_133s es.symm ?_⟩
    · have b : 3 ≤ σ.1 5 0 1 := b
      rw [if_pos b] at h
      refine ⟨fun d => c_133 (by rw [es]; decide) ?_, fun d => c_latch (k := 8) (by decide) (c_133 ?_ ?_)⟩
      · rw [if_neg (by omega)] at h
        exact h
      · have : (cLatch 8 σ).1 5 0 0 = σ.1 5 0 0 := by rw [(Fa_latch 8 σ).2.1 5 (by decide) (by decide)]
        rw [this, es]
        decide
      · rw [if_pos (by omega)] at h
        exact h
    · have b : ¬ 3 ≤ σ.1 5 0 1 := b
      rw [if_neg b] at h
      exact h
theorem c_step (hn : nc ≤ 4) (hS : SVp nc (6 * nc) σ R) {st : Nat} (hst : st ≤ 4) (es : σ.1 5 0 0 = nI st) {bus w : Int32} (hb0 : 0 ≤ bus.toInt) (hb1 : bus.toInt ≤ 1000000) {post : ck_S → Prop} (h : post (cStep (decide (¬ w = 0) && !cSer σ) (!anyB (mBad R) (6 * nc)) (mSum R (6 * nc)).toInt bus.toInt (ck_ui σ 5 0 1 (σ.1 5 0 1 + 1)))) : sp_X4_step nc nb σ w bus post := by
  unfold sp_X4_step sp_X4_step_26
  have key : ∀ may, may = (decide (¬ w = 0) && !cSer σ) → sp_X4_step_27 nc nb post (ck_ui σ 5 0 1 (σ.1 5 0 1 + 1)) bus (b2 may) := by
    intro may hm
    subst hm
    exact c_step27 (σ := ck_ui σ 5 0 1 (σ.1 5 0 1 + 1)) hn hS hst es hb0 hb1 h
  refine al_1 ⟨fun a => ?_, fun a => ?_⟩
  · exact key false (by rw [decide_eq_false (fun q => q a)]; rfl)
  · refine c_serious ?_
    have e : cSer (ck_ui σ 5 0 1 (ck_gi σ 5 0 1 + 1)) = cSer σ := rfl
    rw [e, b2_0]
    refine ⟨fun b => key false ?_, fun b => key true ?_⟩
    · rw [Bool.not_eq_false] at b
      rw [b]
      simp
    · rw [b, decide_eq_true a]
      rfl
end PURE
