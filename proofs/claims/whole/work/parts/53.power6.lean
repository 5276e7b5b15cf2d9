/-! POWER of the class. -/
def sJ (nb : Nat) (J : Nat → Int32) (σ : ck_S) : Prop := ∀ k, k < nb → σ.1 7 0 k = sg (J k)
theorem q32 {p : Nat} : nI p * (32 : Int32) = nI (32 * p) := by rw [Nat.mul_comm]; exact pk_mul p 32
section PURE
variable {nc nb : Nat} {σ : ck_S} {J : Nat → Int32}
theorem c_num (hJ : gJ J) (hs : sJ nb J σ) (hnb : nb ≤ 512) {a m : Nat} (hm : m ≤ 8) (ha : a + m ≤ nb) {x : Int32} (hx : x = nI a) {post : Int64 → ck_S → Prop} (h : post (jN J a m) σ) : sp_X1_fetch nc nb σ x (nI m) post := by
  subst hx
  exact c_fetch hm ha hnb (fun k hk => hJ _ (by omega)) (fun k hk => hs _ (by omega)) h
theorem nI_big {v : Nat} (h1 : 2 ^ 31 ≤ v) (h2 : v < 2 ^ 32) : nI v < 1 := by
  rw [Int32.lt_iff_toInt_lt]
  have : (nI v).toInt = (v : Int) - 2 ^ 32 := by
    show (BitVec.ofNat 32 v).toInt = _
    rw [BitVec.toInt_eq_toNat_cond, BitVec.toNat_ofNat, Nat.mod_eq_of_lt h2, if_neg (by omega)]
    rfl
  rw [this, (by decide : (1 : Int32).toInt = 1)]
  omega
theorem c_numberAt (hJ : gJ J) (hs : sJ nb J σ) (hnb : nb ≤ 512) {p : Nat} (hp : 32 * p + 32 ≤ nb) {post : Int32 → ck_S → Prop} (h : post (nI (vN J p)) σ) : sp_X1_numberAt nc nb σ (nI p) post := by
  unfold sp_X1_numberAt
  refine c_num (a := 32 * p) (m := 4) hJ hs hnb (by omega) (by omega) (by rw [q32]; exact nI_add _ 0) ?_
  rw [vN_e, lN_i]
  exact h
theorem c_isGood (hJ : gJ J) {b p : Nat} (hb1 : 2 ≤ b) (hb2 : b ≤ 16) (hnb : nb = 32 * b) (hs : sJ nb J σ) (h2 : σ.1 6 0 0 = nI b) (hp : p < b) {post : Int32 → ck_S → Prop} (h : post (b2 (rightB J b p)) σ) : sp_X1_isGood nc nb σ (nI p) post := by
  unfold sp_X1_isGood
  refine al_1 (c_numberAt hJ hs (by omega) (by omega) ?_)
  have hv := vN_lt hJ (p := p) (by omega)
  unfold rightB at h
  by_cases c0 : 1 ≤ vN J p ∧ vN J p < 2 ^ 31
  · have e1 : (nI (vN J p) < 1) ↔ vN J p < 1 := nI_ltI (b := 1) (by omega) (by decide)
    have e2 : (1000000000 < nI (vN J p)) ↔ 1000000000 < vN J p := nI_ltI (a := 1000000000) (by decide) (by omega)
    rw [e1, e2]
    refine kb_f (by omega) ⟨fun d => ⟨b2_b false, ?_⟩, fun d => ?_⟩
    · rw [decide_eq_false (by omega : ¬ (1 ≤ vN J p ∧ vN J p ≤ 1000000000))] at h
      exact (by simpa using h : post (b2 false) σ)
    · unfold sp_X1_placeOf
      have e3 : ck_gi σ 6 0 0 = nI b := h2
      rw [e3, show (1 : Int32) = nI 1 from rfl, pk_sub c0.1]
      refine c_floorMod (by omega) (by omega) (by omega) ?_
      have hm : (vN J p - 1) % b < b := Nat.mod_lt _ (by omega)
      rw [decide_eq_true (by omega : 1 ≤ vN J p ∧ vN J p ≤ 1000000000)] at h
      show (¬ nI ((vN J p - 1) % b) = nI p → _) ∧ (nI ((vN J p - 1) % b) = nI p → _)
      rw [nI_eq (by omega) (by omega)]
      refine ⟨fun q => ⟨b2_b false, ?_⟩, fun q => ?_⟩
      · rw [decide_eq_false q] at h
        exact (by simpa using h : post (b2 false) σ)
      · rw [decide_eq_true q] at h
        refine c_num (a := 32 * p + 30) (m := 2) hJ hs (by omega) (by omega) (by omega) (by rw [q32]; exact nI_add _ 30) ?_
        rw [q32]
        refine c_ofRow7 (by omega) (by omega) ?_
        have eck : ckN (fun k => σ.1 7 0 (32 * p + k)) 30 = ckN (fun k => J (32 * p + k)) 30 := ckN_cong (fun k hk => by
          show σ.1 7 0 (32 * p + k) &&& 255 = _
          rw [hs _ (by omega), sg_255])
        rw [eck]
        simp only [lg_cmp_eq]
        refine ⟨fun a => ⟨b2_b false, ?_⟩, fun a => ⟨b2_b true, ?_⟩⟩
        · rw [decide_eq_false a] at h
          exact h
        · rw [decide_eq_true a] at h
          exact h
  · have lt1 : nI (vN J p) < 1 := by
      rcases Nat.lt_or_ge (vN J p) (2 ^ 31) with q | q
      · have : vN J p = 0 := by omega
        rw [this]
        decide
      · exact nI_big q hv
    refine kb_t lt1 ⟨b2_b false, ?_⟩
    rw [decide_eq_false (by omega : ¬ (1 ≤ vN J p ∧ vN J p ≤ 1000000000))] at h
    exact (by simpa using h : post (b2 false) σ)
theorem c_newest (hJ : gJ J) {b : Nat} (hb1 : 2 ≤ b) (hb2 : b ≤ 16) (hnb : nb = 32 * b) (hs : sJ nb J σ) (h2 : σ.1 6 0 0 = nI b) {post : Int32 → ck_S → Prop} (h : post (encI (bst J b b)) σ) : sp_X1_newestPlace nc nb σ post := by
  unfold sp_X1_newestPlace
  have e2 : ck_gi σ 6 0 0 = nI b := h2
  refine cu_3 b nI (fun j s x => σ = s ∧ encI (bst J b j) = x) ?_ ?_ 0 (by omega) _ _ ⟨rfl, rfl⟩ _ rfl
  · rintro p hp s x ⟨rfl, rfl⟩ K hK
    unfold bd_X1_newestPlace_4
    rw [e2]
    refine kb_f (nI_ge hp (by omega)) ?_
    refine c_isGood hJ hb1 hb2 hnb hs h2 hp ?_
    rw [b2_0]
    have ih := bst_ok J b p
    unfold sp_X1_newestPlace_37 sp_X1_newestPlace_39
    refine ⟨fun a w hw => hK _ _ ⟨rfl, ?_⟩ _ (by rw [hw, nI_succ]), fun a => ?_⟩
    · rw [bst, if_neg (by rw [a]; simp)]
    · rw [Bool.not_eq_false] at a
      have hr := right_v a
      by_cases e0 : bst J b p = 0
      · have en : encI (bst J b p) = -1 := by rw [e0]; rfl
        rw [en]
        refine kb_t (by decide) ?_
        intro w hw
        refine hK _ _ ⟨rfl, ?_⟩ _ (by rw [hw, nI_succ])
        rw [bst, if_pos ⟨a, Or.inl e0⟩]
        rfl
      · have en : encI (bst J b p) = nI (bst J b p - 1) := if_neg e0
        rw [en]
        have hr2 := right_v (ih.2 (by omega))
        refine kb_f (nI_pos (by omega)) ?_
        refine c_numberAt hJ hs (by omega) (by omega) (c_numberAt hJ hs (by omega) (by omega) ?_)
        rw [nI_leI (by omega) (by omega)]
        refine ⟨fun c w hw => hK _ _ ⟨rfl, ?_⟩ _ (by rw [hw, nI_succ]), fun c w hw => hK _ _ ⟨rfl, ?_⟩ _ (by rw [hw, nI_succ])⟩
        · rw [bst, if_neg (by omega), en]
        · rw [bst, if_pos ⟨a, Or.inr (by omega)⟩]
          rfl
  · rintro s x ⟨rfl, rfl⟩ K
    unfold bd_X1_newestPlace_4
    rw [e2]
    exact kb_t (nI_le (Nat.le_refl _) (by omega)) h
/-! beginAnew -/
def cBeg0 (σ : ck_S) : ck_S := ck_ud (ck_ud (ck_ui (ck_ui (ck_ud (ck_ui (ck_ud (ck_ud (ck_ui (ck_ui σ 0 0 7 0) 0 0 8 0) 0 0 9 FP.dconst0) 0 0 10 FP.dconst0) 0 0 11 0) 0 0 12 FP.dconst0) 0 0 13 0) 0 0 14 0) 0 0 15 FP.dconst0) 0 0 16 FP.dconst0
def cChips (j : Nat) (σ : ck_S) : ck_S := (fun f i k => if f = 30 ∧ i < j ∧ (k = 3 ∨ k = 4 ∨ k = 5 ∨ k = 7) then 0 else σ.1 f i k, σ.2.1, fun f i k => if f = 30 ∧ i < j ∧ k = 6 then 4626322717216342016 else σ.2.2 f i k)
theorem cChips_0 (σ : ck_S) : cChips 0 σ = σ := by
  unfold cChips
  ext <;> simp
theorem cChips_succ (j : Nat) (σ : ck_S) : ck_ui (ck_ud (ck_ui (ck_ui (ck_ui (cChips j σ) 30 j 3 0) 30 j 4 0) 30 j 5 0) 30 j 6 4626322717216342016) 30 j 7 0 = cChips (j + 1) σ := by
  unfold cChips ck_ui ck_ud ck_up
  ext a b c
  · show (if a = 30 ∧ b = j ∧ c = 7 then (0 : Int32) else if a = 30 ∧ b = j ∧ c = 5 then 0 else if a = 30 ∧ b = j ∧ c = 4 then 0 else if a = 30 ∧ b = j ∧ c = 3 then 0 else if a = 30 ∧ b < j ∧ (c = 3 ∨ c = 4 ∨ c = 5 ∨ c = 7) then 0 else σ.1 a b c) = if a = 30 ∧ b < j + 1 ∧ (c = 3 ∨ c = 4 ∨ c = 5 ∨ c = 7) then 0 else σ.1 a b c
    by_cases hb : b = j <;> by_cases ha : a = 30 <;> grind (splits := 30)
  · rfl
  · show (if a = 30 ∧ b = j ∧ c = 6 then (4626322717216342016 : UInt64) else if a = 30 ∧ b < j ∧ c = 6 then 4626322717216342016 else σ.2.2 a b c) = if a = 30 ∧ b < j + 1 ∧ c = 6 then 4626322717216342016 else σ.2.2 a b c
    by_cases hb : b = j <;> by_cases ha : a = 30 <;> grind
def cBegT (n : Nat) (σ : ck_S) : ck_S := ck_ui (ck_ui (ck_ui (ck_ui (ck_ui (ck_ui (pt 4 0 7 (fun _ => 0) (cChips n (cBeg0 σ))) 3 0 2 0) 3 0 3 0) 5 0 0 0) 5 0 1 0) 6 0 3 1) 6 0 4 32
theorem c_beginAnew (hn : nc ≤ 4) {post : ck_S → Prop} (h : post (cBegT nc σ)) : sp_X6_beginAnew nc nb σ post := by
  unfold sp_X6_beginAnew
  refine al_1 (al_1 (al_1 (al_1 (al_1 (al_1 (al_1 (al_1 (al_1 (al_1 (al_1 ?_))))))))))
  have eb : ck_ud (ck_ud (ck_ui (ck_ui (ck_ud (ck_ui (ck_ud (ck_ud (ck_ui (ck_ui σ 0 0 7 0) 0 0 8 0) 0 0 9 FP.dconst0) 0 0 10 FP.dconst0) 0 0 11 0) 0 0 12 FP.dconst0) 0 0 13 0) 0 0 14 0) 0 0 15 FP.dconst0) 0 0 16 FP.dconst0 = cBeg0 σ := rfl
  rw [eb]
  refine cu_3 nc nI (fun j s x => cChips j (cBeg0 σ) = s ∧ nI nc = x) ?_ ?_ 0 (by omega) _ _ ⟨cChips_0 _, rfl⟩ _ rfl
  · rintro j hj s x ⟨hs, rfl⟩ K hK
    unfold bd_X6_beginAnew_60
    rw [nI_clamp (by omega)]
    refine kb_f (nI_ge hj (by omega)) ⟨vp_in_nI hj (by omega), al_1 ?_⟩
    unfold sp_X3_beginAnew
    refine al_1 (al_1 (al_1 (al_1 (al_1 ?_))))
    intro w hw
    refine hK _ _ ⟨?_, rfl⟩ _ (by rw [hw, nI_succ])
    rw [← hs]
    exact (cChips_succ j _).symm
  · rintro s x ⟨hs, rfl⟩ K
    unfold bd_X6_beginAnew_60
    refine kb_t (nI_le (Nat.le_refl _) (by omega)) ?_
    unfold sp_X0_beginAnew
    refine cu_2 7 nI (fun j s2 => pt 4 0 j (fun _ => 0) s = s2) ?_ ?_ 0 (by omega) _ (pt_0 _ _ _ _) _ rfl
    · rintro j hj s2 hs2 K2 hK2
      unfold bd_X0_beginAnew_2
      rw [nI_clamp (by omega)]
      refine kb_f (nI_ge (b := 7) hj (by decide)) ⟨vp_in_nI hj (by decide), al_1 ?_⟩
      intro w hw
      refine hK2 _ ?_ _ (by rw [hw, nI_succ])
      rw [← hs2]
      have := pt_succ 4 0 j (fun _ => 0) s
      rw [Nat.zero_add] at this
      exact this.symm
    · rintro s2 hs2 K2
      unfold bd_X0_beginAnew_2 sp_X4_beginAnew sp_X1_beginAnew
      refine kb_t (by decide) (al_1 (al_1 (al_1 (al_1 (al_1 (al_1 ?_))))))
      rw [← hs2, ← hs]
      exact h
theorem c_chargeOfParts {cap : Int} (hcap : (σ.1 0 0 1).toInt = cap) (hc1 : 100 ≤ cap) (hc2 : cap ≤ 400000) {y : Int64} {post : UInt64 → ck_S → Prop} (h : ∀ z, ck_dq z (if y.toInt < 0 then 0 else if 8192 * cap < y.toInt then 8192 * cap else y.toInt) 13 → post z σ) : sp_X6_chargeOfParts nc nb σ y post := by
  unfold sp_X6_chargeOfParts
  refine al_1 ?_
  have e : ((ck_gi σ 0 0 1).toInt64 * 8192).toInt = 8192 * cap := by
    have e0 : (ck_gi σ 0 0 1).toInt64.toInt = cap := by rw [Int32.toInt_toInt64]; exact hcap
    rw [fb_mulL (by rw [e0, z_8192]; omega) (by rw [e0, z_8192]; omega), e0, z_8192]
    omega
  generalize (ck_gi σ 0 0 1).toInt64 * 8192 = M at e
  generalize hw : (if (if y < M then y else M) < 0 then 0 else (if y < M then y else M)) = w
  have ew : w.toInt = if y.toInt < 0 then 0 else if 8192 * cap < y.toInt then 8192 * cap else y.toInt := by
    rw [← hw]
    simp only [Int64.lt_iff_toInt_lt]
    have z0 : (0 : Int64).toInt = 0 := by decide
    by_cases q1 : y.toInt < M.toInt
    · rw [if_pos q1, z0]
      by_cases q2 : y.toInt < 0
      · rw [if_pos q2, if_pos q2, z0]
      · rw [if_neg q2, if_neg q2, if_neg (by omega)]
    · rw [if_neg q1, z0, if_neg (by omega), if_neg (by omega)]
      split <;> omega
  have bw : 0 ≤ w.toInt ∧ w.toInt ≤ 8192 * cap := by
    rw [ew]
    split
    · omega
    · split <;> omega
  have d1 := ck_l2d (x := w) (by omega)
  have d2 := ck_ddiv2 (T := 13) d1 kd_8192 (by omega) (by decide)
  refine ⟨ck_dq_n64 d2, h _ ?_⟩
  rw [← ew]
  exact d2
/-- what the best block sets -/
def cSet (p : Nat) (J : Nat → Int32) (zq : UInt64) (τ : ck_S) : ck_S := ck_ui (ck_ud (ck_ui (ck_ui τ 6 0 3 (nI (vN J p + 1))) 0 0 8 (jN J (32 * p + 4) 4).toInt32) 0 0 9 zq) 3 0 2 ((jN J (32 * p + 16) 2).toInt32 &&& 511)
theorem c_power (hJ : gJ J) {b : Nat} (hn : nc ≤ 4) (hb1 : 2 ≤ b) (hb2 : b ≤ 16) (hnb : nb = 32 * b) (hs : sJ nb J σ) (h2 : σ.1 6 0 0 = nI b) {cap : Int} (hcap : (σ.1 0 0 1).toInt = cap) (hc1 : 100 ≤ cap) (hc2 : cap ≤ 400000) {post : Int32 → ck_S → Prop} (h0 : bst J b b = 0 → post 0 (cBegT nc σ)) (h1 : ∀ p zq, bst J b b = p + 1 → ck_dq zq (if (jN J (32 * p + 8) 8).toInt < 0 then 0 else if 8192 * cap < (jN J (32 * p + 8) 8).toInt then 8192 * cap else (jN J (32 * p + 8) 8).toInt) 13 → post (jN J (32 * p + 4) 4).toInt32 (cSet p J zq (cBegT nc σ))) : sp_X6_power nc nb σ post := by
  unfold sp_X6_power
  refine c_beginAnew hn ?_
  have hs' : ∀ τ : ck_S, τ.1 7 = σ.1 7 → sJ nb J τ := fun τ e k hk => by rw [e]; exact hs k hk
  refine c_newest (σ := cBegT nc σ) hJ hb1 hb2 hnb (hs' _ rfl) h2 ?_
  have ih := bst_ok J b b
  by_cases e0 : bst J b b = 0
  · have en : encI (bst J b b) = -1 := by rw [e0]; rfl
    rw [en]
    exact kb_t (by decide) (h0 e0)
  · have en : encI (bst J b b) = nI (bst J b b - 1) := if_neg e0
    rw [en]
    refine kb_f (nI_pos (by omega)) ?_
    generalize hp' : bst J b b - 1 = p
    have hp : p < b := by omega
    have h1 := fun zq => h1 p zq (by omega)
    refine c_numberAt (σ := cBegT nc σ) hJ (hs' _ rfl) (by omega) (by omega) (al_1 ?_)
    rw [nI_1]
    unfold sp_X1_timeAt sp_X1_partsAt sp_X1_faultsAt
    refine c_num (σ := ck_ui (cBegT nc σ) 6 0 3 _) (a := 32 * p + 4) (m := 4) hJ (hs' _ rfl) (by omega) (by omega) (by omega) (by rw [q32]; exact nI_add _ 4) (al_1 ?_)
    refine c_num (σ := ck_ui (ck_ui (cBegT nc σ) 6 0 3 _) 0 0 8 _) (a := 32 * p + 8) (m := 8) hJ (hs' _ rfl) (by omega) (by omega) (by omega) (by rw [q32]; exact nI_add _ 8) ?_
    refine c_chargeOfParts (σ := ck_ui (ck_ui (cBegT nc σ) 6 0 3 _) 0 0 8 _) hcap hc1 hc2 (fun z hz => al_1 ?_)
    refine c_num (σ := ck_ud (ck_ui (ck_ui (cBegT nc σ) 6 0 3 _) 0 0 8 _) 0 0 9 _) (a := 32 * p + 16) (m := 2) hJ (hs' _ rfl) (by omega) (by omega) (by omega) (by rw [q32]; exact nI_add _ 16) (al_1 ?_)
    exact h1 z hz
end PURE
