/-! CHARGE: countCharge of the reference, moveCharge of the class. The rows fb_* are of the kit's COUNTS.to-paste. -/
theorem fb_rng (x : Int32) : -2147483648 ≤ x.toInt ∧ x.toInt < 2147483648 := by
  have h1 := Int32.le_toInt x
  have h2 := Int32.toInt_lt x
  omega
theorem fb_bmod {z : Int} (h1 : -2147483648 ≤ z) (h2 : z < 2147483648) : z.bmod (2 ^ 32) = z := by
  rw [Int.bmod_eq_of_le (by omega) (by omega)]
theorem fb_addI {x y : Int32} (h1 : -2147483648 ≤ x.toInt + y.toInt) (h2 : x.toInt + y.toInt < 2147483648) : (x + y).toInt = x.toInt + y.toInt := by
  rw [Int32.toInt_add, fb_bmod h1 h2]
theorem fb_subI {x y : Int32} (h1 : -2147483648 ≤ x.toInt - y.toInt) (h2 : x.toInt - y.toInt < 2147483648) : (x - y).toInt = x.toInt - y.toInt := by
  rw [Int32.toInt_sub, fb_bmod h1 h2]
theorem fb_mulI {x y : Int32} (h1 : -2147483648 ≤ x.toInt * y.toInt) (h2 : x.toInt * y.toInt < 2147483648) : (x * y).toInt = x.toInt * y.toInt := by
  rw [Int32.toInt_mul, fb_bmod h1 h2]
theorem fb_ofI {z : Int} (h1 : -2147483648 ≤ z) (h2 : z < 2147483648) : (Int32.ofInt z).toInt = z := by
  rw [Int32.toInt_ofInt, fb_bmod h1 h2]
theorem fb_rngL (x : Int64) : -9223372036854775808 ≤ x.toInt ∧ x.toInt < 9223372036854775808 := by
  have h1 := Int64.le_toInt x
  have h2 := Int64.toInt_lt x
  omega
theorem fb_bmodL {z : Int} (h1 : -9223372036854775808 ≤ z) (h2 : z < 9223372036854775808) : z.bmod (2 ^ 64) = z := by
  rw [Int.bmod_eq_of_le (by omega) (by omega)]
theorem fb_addL {x y : Int64} (h1 : -9223372036854775808 ≤ x.toInt + y.toInt) (h2 : x.toInt + y.toInt < 9223372036854775808) : (x + y).toInt = x.toInt + y.toInt := by
  rw [Int64.toInt_add, fb_bmodL h1 h2]
theorem fb_subL {x y : Int64} (h1 : -9223372036854775808 ≤ x.toInt - y.toInt) (h2 : x.toInt - y.toInt < 9223372036854775808) : (x - y).toInt = x.toInt - y.toInt := by
  rw [Int64.toInt_sub, fb_bmodL h1 h2]
theorem fb_mulL {x y : Int64} (h1 : -9223372036854775808 ≤ x.toInt * y.toInt) (h2 : x.toInt * y.toInt < 9223372036854775808) : (x * y).toInt = x.toInt * y.toInt := by
  rw [Int64.toInt_mul, fb_bmodL h1 h2]
theorem z_mul {k : Int64} {kz : Int} (hk : k.toInt = kz) {x : Int64} (h1 : -9223372036854775808 ≤ kz * x.toInt) (h2 : kz * x.toInt < 9223372036854775808) : (k * x).toInt = kz * x.toInt := by
  subst hk
  exact fb_mulL h1 h2
theorem ck_uj_self (σ : ck_S) (f i k : Nat) : ck_uj σ f i k (σ.2.1 f i k) = σ := by
  unfold ck_uj ck_up
  ext <;> grind
theorem ck_ui_self (σ : ck_S) (f i k : Nat) : ck_ui σ f i k (σ.1 f i k) = σ := by
  unfold ck_ui ck_up
  ext <;> grind
theorem lx1_1 {A : Type} {F : (A → Prop) → A → Prop} {a : A} (h : F (fun _ => False) a) : lx_1 F a := ⟨1, h⟩
theorem lx1_2 {A : Type} {F : (A → Prop) → A → Prop} {a : A} (h : F (F (fun _ => False)) a) : lx_1 F a := ⟨2, h⟩
/-! the table of rest -/
def tf (k : Nat) (m : Int32) : Int32 := ck_RP k + (((ck_RP (k + 1) - ck_RP k) * (m - ck_RM k)) / (ck_RM (k + 1) - ck_RM k))
def toldF (m : Int32) : Int32 := if m ≤ 3000 then 0 else if 4150 ≤ m then 1024 else if m ≤ 3300 then tf 0 m else if m ≤ 3500 then tf 1 m else if m ≤ 3650 then tf 2 m else if m ≤ 3800 then tf 3 m else if m ≤ 4000 then tf 4 m else tf 5 m
theorem told_eq {m : Int32} (hm : 3000 < m) {j : Nat} (hj1 : 1 ≤ j) (hj : j < 7) (h1 : ck_RM (j - 1) ≤ m) (h2 : m < ck_RM j) : toldF m = tf (j - 1) m := by
  have hc : j = 1 ∨ j = 2 ∨ j = 3 ∨ j = 4 ∨ j = 5 ∨ j = 6 := by omega
  rcases hc with rfl | rfl | rfl | rfl | rfl | rfl
  · have h2 : m < 3300 := h2
    unfold toldF
    rw [if_neg (by grind), if_neg (by grind), if_pos (by grind)]
  · have h1 : 3300 ≤ m := h1
    have h2 : m < 3500 := h2
    by_cases e : m = 3300
    · subst e; decide
    · unfold toldF
      rw [if_neg (by grind), if_neg (by grind), if_neg (by grind), if_pos (by grind)]
  · have h1 : 3500 ≤ m := h1
    have h2 : m < 3650 := h2
    by_cases e : m = 3500
    · subst e; decide
    · unfold toldF
      rw [if_neg (by grind), if_neg (by grind), if_neg (by grind), if_neg (by grind), if_pos (by grind)]
  · have h1 : 3650 ≤ m := h1
    have h2 : m < 3800 := h2
    by_cases e : m = 3650
    · subst e; decide
    · unfold toldF
      rw [if_neg (by grind), if_neg (by grind), if_neg (by grind), if_neg (by grind), if_neg (by grind), if_pos (by grind)]
  · have h1 : 3800 ≤ m := h1
    have h2 : m < 4000 := h2
    by_cases e : m = 3800
    · subst e; decide
    · unfold toldF
      rw [if_neg (by grind), if_neg (by grind), if_neg (by grind), if_neg (by grind), if_neg (by grind), if_neg (by grind), if_pos (by grind)]
  · have h1 : 4000 ≤ m := h1
    have h2 : m < 4150 := h2
    by_cases e : m = 4000
    · subst e; decide
    · unfold toldF
      rw [if_neg (by grind), if_neg (by grind), if_neg (by grind), if_neg (by grind), if_neg (by grind), if_neg (by grind), if_neg (by grind)]
theorem told_k : ∀ d, d < 1150 → 0 ≤ (toldF (nI (3000 + d))).toInt ∧ (toldF (nI (3000 + d))).toInt ≤ 1024 := by decide +kernel
theorem told_b (m : Int32) : 0 ≤ (toldF m).toInt ∧ (toldF m).toInt ≤ 1024 := by
  by_cases h1 : m ≤ 3000
  · unfold toldF; rw [if_pos h1]; decide
  · by_cases h2 : 4150 ≤ m
    · unfold toldF; rw [if_neg h1, if_pos h2]; decide
    · obtain ⟨j, hj, e⟩ := nI_of2 (x := m) (M := 4150) (n := 4150) (by decide) (by grind) (by grind)
      subst e
      have a : 3000 < j := by
        rcases Nat.lt_or_ge 3000 j with q | q
        · exact q
        · exact absurd (nI_le (b := 3000) q (by decide)) h1
      have b : j < 4150 := by
        rcases Nat.lt_or_ge j 4150 with q | q
        · exact q
        · exact absurd (nI_le (a := 4150) q (by omega)) h2
      have := told_k (j - 3000) (by omega)
      rwa [show 3000 + (j - 3000) = j by omega] at this
section PURE
variable {nc nb : Nat} {σ : ck_S} {R : ck_R}
theorem m_knot {k : Nat} (hk : k ≤ 6) {post : Int32 → ck_S → Prop} (h : post (ck_RM k) σ) : sp_X7_knot nc nb σ (nI k) post := by
  have hc : k = 0 ∨ k = 1 ∨ k = 2 ∨ k = 3 ∨ k = 4 ∨ k = 5 ∨ k = 6 := by omega
  unfold sp_X7_knot
  rcases hc with rfl | rfl | rfl | rfl | rfl | rfl | rfl
  · exact kn_f (by decide) h
  · exact kn_t (by decide) (kn_f (by decide) h)
  · exact kn_t (by decide) (kn_t (by decide) (kn_f (by decide) h))
  · exact kn_t (by decide) (kn_t (by decide) (kn_t (by decide) (kn_f (by decide) h)))
  · exact kn_t (by decide) (kn_t (by decide) (kn_t (by decide) (kn_t (by decide) (kn_f (by decide) h))))
  · exact kn_t (by decide) (kn_t (by decide) (kn_t (by decide) (kn_t (by decide) (kn_t (by decide) (kn_f (by decide) h)))))
  · exact kn_t (by decide) (kn_t (by decide) (kn_t (by decide) (kn_t (by decide) (kn_t (by decide) (kn_t (by decide) h)))))
theorem m_share {k : Nat} (hk : k ≤ 6) {post : Int32 → ck_S → Prop} (h : post (ck_RP k) σ) : sp_X7_share nc nb σ (nI k) post := by
  have hc : k = 0 ∨ k = 1 ∨ k = 2 ∨ k = 3 ∨ k = 4 ∨ k = 5 ∨ k = 6 := by omega
  unfold sp_X7_share
  rcases hc with rfl | rfl | rfl | rfl | rfl | rfl | rfl
  · exact kn_f (by decide) h
  · exact kn_t (by decide) (kn_f (by decide) h)
  · exact kn_t (by decide) (kn_t (by decide) (kn_f (by decide) h))
  · exact kn_t (by decide) (kn_t (by decide) (kn_t (by decide) (kn_f (by decide) h)))
  · exact kn_t (by decide) (kn_t (by decide) (kn_t (by decide) (kn_t (by decide) (kn_f (by decide) h))))
  · exact kn_t (by decide) (kn_t (by decide) (kn_t (by decide) (kn_t (by decide) (kn_t (by decide) (kn_f (by decide) h)))))
  · exact kn_t (by decide) (kn_t (by decide) (kn_t (by decide) (kn_t (by decide) (kn_t (by decide) (kn_t (by decide) h)))))
theorem told_eq2 {m : Int32} (hm : 3000 < m) (hm2 : m < 4150) {j : Nat} (hj : j < 6) (h1 : ck_RM j < m) (h2 : m ≤ ck_RM (j + 1)) : toldF m = tf j m := by
  have hc : j = 0 ∨ j = 1 ∨ j = 2 ∨ j = 3 ∨ j = 4 ∨ j = 5 := by omega
  unfold toldF
  rw [if_neg (by grind), if_neg (by grind)]
  rcases hc with rfl | rfl | rfl | rfl | rfl | rfl
  · have h2 : m ≤ 3300 := h2
    rw [if_pos (by grind)]
  · have h1 : 3300 < m := h1
    have h2 : m ≤ 3500 := h2
    rw [if_neg (by grind), if_pos (by grind)]
  · have h1 : 3500 < m := h1
    have h2 : m ≤ 3650 := h2
    rw [if_neg (by grind), if_neg (by grind), if_pos (by grind)]
  · have h1 : 3650 < m := h1
    have h2 : m ≤ 3800 := h2
    rw [if_neg (by grind), if_neg (by grind), if_neg (by grind), if_pos (by grind)]
  · have h1 : 3800 < m := h1
    have h2 : m ≤ 4000 := h2
    rw [if_neg (by grind), if_neg (by grind), if_neg (by grind), if_neg (by grind), if_pos (by grind)]
  · have h1 : 4000 < m := h1
    rw [if_neg (by grind), if_neg (by grind), if_neg (by grind), if_neg (by grind), if_neg (by grind)]
theorem kn_ne : ∀ j, j < 6 → ¬ (ck_RM (j + 1) - ck_RM j) = 0 := by decide
theorem m_told {m : Int32} {post : Int32 → ck_S → Prop} (h : post (toldF m) σ) : sp_X7_told nc nb σ m post := by
  unfold sp_X7_told
  refine ⟨fun a => ⟨fun b => ?_, fun b => ?_⟩, fun a => ?_⟩
  · refine cu_3 5 nI (fun j s x => σ = s ∧ m = x ∧ ck_RM j < m) ?_ ?_ 0 (by omega) _ _ ⟨rfl, rfl, a⟩ _ rfl
    · rintro j hj s x ⟨rfl, rfl, c⟩ K hK
      unfold bd_X7_told_22
      rw [nI_1]
      refine m_knot (by omega) ⟨fun d => ?_, fun d => fun w hw => hK _ _ ⟨rfl, rfl, by grind⟩ _ hw.symm⟩
      refine m_share (by omega) (m_share (by omega) (m_share (by omega) (m_knot (by omega) (m_knot (by omega) (m_knot (by omega) ⟨kn_ne j (by omega), ?_⟩)))))
      rw [told_eq2 a b (by omega) c d] at h
      exact h
    · rintro s x ⟨rfl, rfl, c⟩ K
      unfold bd_X7_told_22
      rw [nI_1]
      have d : m ≤ ck_RM 6 := by show m ≤ 4150; grind
      refine m_knot (by omega) (kb_t d ?_)
      refine m_share (by omega) (m_share (by omega) (m_share (by omega) (m_knot (by omega) (m_knot (by omega) (m_knot (by omega) ⟨kn_ne 5 (by omega), ?_⟩)))))
      rw [told_eq2 a b (by omega) c d] at h
      exact h
  · unfold toldF at h
    rw [if_neg (by grind), if_pos (by grind)] at h
    exact h
  · unfold toldF at h
    rw [if_pos (by grind)] at h
    exact h
theorem c_partsAtRest {m : Int32} {post : Int32 → ck_S → Prop} (h : post (toldF m) σ) : sp_X6_partsAtRest nc nb σ m post := by
  unfold sp_X6_partsAtRest
  have hv : vp_in 0 7 := vp_in_nI (n := 0) (by decide) (by decide)
  refine ⟨hv, ⟨fun a => ?_, fun a => ⟨hv, ?_⟩⟩⟩
  · have a : (3000 : Int32) < m := a
    refine cu_3 7 nI (fun j s x => σ = s ∧ m = x ∧ 1 ≤ j ∧ ck_RM (j - 1) ≤ m) ?_ ?_ 1 (by omega) _ _ ⟨rfl, rfl, by omega, ?_⟩ _ rfl
    · rintro j hj s x ⟨rfl, rfl, j1, c⟩ K hK
      unfold bd_X6_partsAtRest_17
      refine kb_f (nI_ge hj (by decide)) ⟨vp_in_nI hj (by decide), ?_⟩
      rw [nI_clamp (by omega)]
      refine ⟨fun d => fun w hw => hK _ _ ⟨rfl, rfl, by omega, d⟩ _ (by rw [hw, nI_succ]), fun d => ?_⟩
      rw [show (1 : Int32) = nI 1 from rfl, pk_sub (by omega)]
      refine al_1 ⟨vp_in_nI (by omega) (by decide), al_1 (al_1 ⟨vp_in_nI (by omega) (by decide), al_1 ⟨vp_in_nI hj (by decide), vp_in_nI hj (by decide), ?_, ?_⟩⟩)⟩
      · rw [nI_clamp (by omega)]
        have := kn_ne (j - 1) (by omega)
        rwa [show j - 1 + 1 = j by omega] at this
      · rw [nI_clamp (by omega)]
        rw [told_eq a j1 hj c (by grind)] at h
        unfold tf at h
        rwa [show j - 1 + 1 = j by omega] at h
    · rintro s x ⟨rfl, rfl, j1, c⟩ K
      unfold bd_X6_partsAtRest_17
      refine kb_t (by decide) ?_
      have c : 4150 ≤ m := c
      unfold toldF at h
      rw [if_neg (by grind), if_pos c] at h
      exact h
    · show (3000 : Int32) ≤ m
      grind
  · have a : ¬ (3000 : Int32) < m := a
    unfold toldF at h
    rw [if_pos (by grind)] at h
    exact h
/-! the model's countCharge -/
def szL (a : Int64) : Int64 := if a < 0 then -a else a
theorem szL_z {a : Int64} (h1 : -16000 ≤ a.toInt) (h2 : a.toInt ≤ 16000) : (szL a).toInt = if a.toInt < 0 then -a.toInt else a.toInt := by
  unfold szL
  by_cases h : a < 0
  · have h' : a.toInt < 0 := Int64.lt_iff_toInt_lt.mp h
    rw [if_pos h, if_pos h', Int64.toInt_neg, fb_bmodL (by omega) (by omega)]
  · have h' : ¬ a.toInt < 0 := fun q => h (Int64.lt_iff_toInt_lt.mpr q)
    rw [if_neg h, if_neg h']
theorem m_sizeOf {a : Int64} {post : Int64 → ck_S → Prop} (h : post (szL a) σ) : sp_X7_sizeOf nc nb σ a post := by
  unfold sp_X7_sizeOf
  simp only [lg_cmp_ge]
  unfold szL at h
  refine ⟨fun q => ?_, fun q => ?_⟩
  · rw [if_neg (by grind)] at h
    exact h
  · rw [if_pos (by grind)] at h
    exact h
def qRest (n : Nat) (R : ck_R) (r : Int32) (capJ q : Int64) : Int64 := if r < 60 then q else if anyB (mBad R) (6 * n) = true then q else (8 * capJ) * (toldF (mSum R (6 * n) / nI (6 * n))).toInt64
def qClamp (σ : ck_S) : Int64 := if σ.2.1 10 0 11 - 1024 * σ.2.1 10 0 13 < 0 then 0 else if 8192 * σ.2.1 10 0 3 < σ.2.1 10 0 11 - 1024 * σ.2.1 10 0 13 then 8192 * σ.2.1 10 0 3 else σ.2.1 10 0 11 - 1024 * σ.2.1 10 0 13
def tNew (σ : ck_S) : Int64 := if σ.2.1 10 0 12 + szL (σ.2.1 10 0 13) < 80000 then σ.2.1 10 0 12 + szL (σ.2.1 10 0 13) else σ.2.1 10 0 12 + szL (σ.2.1 10 0 13) - 80000
def rNew (σ : ck_S) : Int32 := if szL (σ.2.1 10 0 13) < 4 then σ.1 10 0 17 + 1 else 0
theorem m_c127 {n : Nat} (hn : n ≤ 4) (hn1 : 1 ≤ n) (h1 : σ.1 10 0 1 = nI n) (hg : gR n (rp σ)) {r : Int32} {post : ck_S → Prop} (h : post (ck_ui (ck_uj σ 10 0 11 (qRest n (rp σ) r (σ.2.1 10 0 3) (σ.2.1 10 0 11))) 10 0 17 r)) : sp_X7_countCharge_127 nc nb post σ r := by
  unfold sp_X7_countCharge_127
  refine al_1 ⟨fun a => ?_, fun a => ?_⟩
  · have a : r < 60 := a
    unfold qRest at h
    rw [if_pos a, ck_uj_self] at h
    exact h
  · have a : ¬ r < 60 := a
    unfold qRest at h
    rw [if_neg a] at h
    refine m_areAllValid (σ := ck_ui σ 10 0 17 r) (R := rp σ) rfl hn h1 hg ?_
    rw [b2_0]
    refine ⟨fun b => ?_, fun b => ?_⟩
    · rw [if_pos (by simpa using b), ck_uj_self] at h
      exact h
    · refine m_sum (σ := ck_ui σ 10 0 17 r) (R := rp σ) rfl hn h1 hg ?_
      have e6 : (6 : Int32) * ck_gi (ck_ui σ 10 0 17 r) 10 0 1 = nI (6 * n) := by
        show (6 : Int32) * σ.1 10 0 1 = _
        rw [h1]
        exact pk_mul 6 n
      rw [e6]
      refine ⟨nI_ne0 (by omega) (by omega), m_told (al_1 ?_)⟩
      rw [if_neg (by simpa using b)] at h
      refine (congrArg post ?_).mpr h
      unfold ck_ui ck_uj ck_up
      rfl
theorem z_80000 : (80000 : Int64).toInt = 80000 := by decide
theorem m_cTail {n : Nat} (hn : n ≤ 4) (hn1 : 1 ≤ n) (h1 : σ.1 10 0 1 = nI n) (hg : gR n (rp σ)) {post : ck_S → Prop} {q0 t0 : Int64} (h : post (ck_ui (ck_uj (ck_uj σ 10 0 11 (qRest n (rp σ) (rNew σ) (σ.2.1 10 0 3) q0)) 10 0 12 t0) 10 0 17 (rNew σ))) : sp_X7_sizeOf nc nb (ck_uj (ck_uj σ 10 0 11 q0) 10 0 12 t0) (ck_gj (ck_uj (ck_uj σ 10 0 11 q0) 10 0 12 t0) 10 0 13) (fun y_3 σ2 => ((0 ≤ (lg_cmp y_3 (4 : Int64)) → (sp_X7_countCharge_127 nc nb post σ2 0)) ∧ (¬ 0 ≤ (lg_cmp y_3 (4 : Int64)) → (sp_X7_countCharge_127 nc nb post σ2 ((ck_gi σ2 10 0 17) + 1))))) := by
  refine m_sizeOf ?_
  simp only [lg_cmp_ge]
  have e13 : ck_gj (ck_uj (ck_uj σ 10 0 11 q0) 10 0 12 t0) 10 0 13 = σ.2.1 10 0 13 := rfl
  have e17 : ck_gi (ck_uj (ck_uj σ 10 0 11 q0) 10 0 12 t0) 10 0 17 = σ.1 10 0 17 := rfl
  rw [e13, e17]
  have fin : ∀ r, r = rNew σ → sp_X7_countCharge_127 nc nb post (ck_uj (ck_uj σ 10 0 11 q0) 10 0 12 t0) r := by
    intro r hr
    subst hr
    refine m_c127 (σ := ck_uj (ck_uj σ 10 0 11 q0) 10 0 12 t0) hn hn1 h1 hg ?_
    refine (congrArg post ?_).mpr h
    have e1 : (ck_uj (ck_uj σ 10 0 11 q0) 10 0 12 t0).2.1 10 0 11 = q0 := rfl
    have e2 : (ck_uj (ck_uj σ 10 0 11 q0) 10 0 12 t0).2.1 10 0 3 = σ.2.1 10 0 3 := rfl
    have e3 : rp (ck_uj (ck_uj σ 10 0 11 q0) 10 0 12 t0) = rp σ := rfl
    rw [e1, e2, e3]
    generalize qRest n (rp σ) (rNew σ) (σ.2.1 10 0 3) q0 = Q
    generalize rNew σ = r
    unfold ck_ui ck_uj ck_up
    ext <;> grind
  refine ⟨fun b => fin _ ?_, fun b => fin _ ?_⟩
  · unfold rNew
    rw [if_neg (by grind)]
  · unfold rNew
    rw [if_pos (by grind)]
theorem m_cMid {n : Nat} (hn : n ≤ 4) (hn1 : 1 ≤ n) (h1 : σ.1 10 0 1 = nI n) (hg : gR n (rp σ)) (ht0 : 0 ≤ (σ.2.1 10 0 12).toInt) (ht : (σ.2.1 10 0 12).toInt < 80000) (hc0 : -16000 ≤ (σ.2.1 10 0 13).toInt) (hc : (σ.2.1 10 0 13).toInt ≤ 16000) {post : ck_S → Prop} {A q0 : Int64} (h : post (ck_ui (ck_uj (ck_uj σ 10 0 11 (qRest n (rp σ) (rNew σ) (σ.2.1 10 0 3) q0)) 10 0 12 (tNew σ)) 10 0 17 (rNew σ))) : sp_X7_countCharge_57 nc nb post (ck_uj σ 10 0 11 A) q0 := by
  have hz := szL_z hc0 hc
  unfold sp_X7_countCharge_57
  refine al_1 (m_sizeOf (al_1 ?_))
  have e12 : ck_gj (ck_uj (ck_uj σ 10 0 11 A) 10 0 11 q0) 10 0 12 = σ.2.1 10 0 12 := rfl
  have e13 : ck_gj (ck_uj (ck_uj σ 10 0 11 A) 10 0 11 q0) 10 0 13 = σ.2.1 10 0 13 := rfl
  rw [e12, e13]
  have es : (σ.2.1 10 0 12 + szL (σ.2.1 10 0 13)).toInt = (σ.2.1 10 0 12).toInt + (szL (σ.2.1 10 0 13)).toInt := fb_addL (by omega) (by omega)
  unfold tNew at h
  generalize hT : σ.2.1 10 0 12 + szL (σ.2.1 10 0 13) = T0 at es h ⊢
  have eS : ck_uj (ck_uj (ck_uj σ 10 0 11 A) 10 0 11 q0) 10 0 12 T0 = ck_uj (ck_uj σ 10 0 11 q0) 10 0 12 T0 := by
    unfold ck_uj ck_up
    ext <;> grind
  rw [eS]
  by_cases b : T0 < 80000
  · rw [if_pos b] at h
    apply lx1_1
    rw [bd_X7_countCharge_76]
    simp only [lg_cmp_lt]
    exact kb_t b (m_cTail hn hn1 h1 hg h)
  · rw [if_neg b] at h
    apply lx1_2
    rw [bd_X7_countCharge_76]
    simp only [lg_cmp_lt]
    refine kb_f b (al_1 ?_)
    rw [bd_X7_countCharge_76]
    simp only [lg_cmp_lt]
    have e1 : ck_gj (ck_uj (ck_uj σ 10 0 11 q0) 10 0 12 T0) 10 0 12 = T0 := rfl
    rw [e1]
    have e : ck_uj (ck_uj (ck_uj σ 10 0 11 q0) 10 0 12 T0) 10 0 12 (T0 - 80000) = ck_uj (ck_uj σ 10 0 11 q0) 10 0 12 (T0 - 80000) := by
      generalize T0 - 80000 = T1
      unfold ck_uj ck_up
      ext <;> grind
    rw [e]
    have e2 : ck_gj (ck_uj (ck_uj σ 10 0 11 q0) 10 0 12 (T0 - 80000)) 10 0 12 = T0 - 80000 := rfl
    rw [e2]
    refine kb_t ?_ (m_cTail hn hn1 h1 hg h)
    have b' : ¬ T0.toInt < (80000 : Int64).toInt := fun q => b (Int64.lt_iff_toInt_lt.mpr q)
    rw [Int64.lt_iff_toInt_lt]
    rw [z_80000] at b' ⊢
    rw [fb_subL (by rw [z_80000]; omega) (by rw [z_80000]; omega), z_80000]
    split at hz <;> omega
theorem m_count {n : Nat} (hn : n ≤ 4) (hn1 : 1 ≤ n) (h1 : σ.1 10 0 1 = nI n) (hg : gR n (rp σ)) (ht0 : 0 ≤ (σ.2.1 10 0 12).toInt) (ht : (σ.2.1 10 0 12).toInt < 80000) (hc0 : -16000 ≤ (σ.2.1 10 0 13).toInt) (hc : (σ.2.1 10 0 13).toInt ≤ 16000) {post : ck_S → Prop} (h : post (ck_ui (ck_uj (ck_uj σ 10 0 11 (qRest n (rp σ) (rNew σ) (σ.2.1 10 0 3) (qClamp σ))) 10 0 12 (tNew σ)) 10 0 17 (rNew σ))) : sp_X7_countCharge nc nb σ post := by
  have mid : ∀ A s0, s0 = qClamp σ → sp_X7_countCharge_57 nc nb post (ck_uj σ 10 0 11 A) s0 := by
    intro A s0 hs
    subst hs
    exact m_cMid hn hn1 h1 hg ht0 ht hc0 hc h
  unfold sp_X7_countCharge
  refine al_1 (al_1 ?_)
  simp only [lg_cmp_ge, lg_cmp_le]
  have e1 : ∀ A, ck_gj (ck_uj σ 10 0 11 A) 10 0 11 = A := fun A => rfl
  have e2 : ck_gj σ 10 0 11 = σ.2.1 10 0 11 := rfl
  have e3 : ck_gj σ 10 0 13 = σ.2.1 10 0 13 := rfl
  have e4 : ck_gj σ 10 0 3 = σ.2.1 10 0 3 := rfl
  rw [e1, e2, e3, e4]
  unfold qClamp at mid
  refine ⟨fun a => ⟨fun b => mid _ _ ?_, fun b => mid _ _ ?_⟩, fun a => mid _ _ ?_⟩
  · rw [if_neg (by grind), if_neg (by grind)]
  · rw [if_neg (by grind), if_pos (by grind)]
  · rw [if_pos (by grind)]
end PURE
