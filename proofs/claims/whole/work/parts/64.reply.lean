/-! THE LAW'S CASE reply. -/
def alN (u c : Nat) (a d : Int64) (σ : ck_S) (k : Nat) : Int32 := if 0 < u ∧ twoM a d k = σ.1 31 c k then σ.1 32 c k + 1 else 1
def cTk (c : Nat) (a d : Int64) (al : Nat → Int32) (j : Nat) (σ : ck_S) : ck_S := (fun f i k => if f = 31 ∧ i = c ∧ k < j then twoM a d k else if f = 32 ∧ i = c ∧ k < j then al k else σ.1 f i k, σ.2)
theorem cTk_0 (c : Nat) (a d : Int64) (al : Nat → Int32) (σ : ck_S) : cTk c a d al 0 σ = σ := by
  unfold cTk
  ext <;> simp
theorem cTk_succ (c : Nat) (a d : Int64) (al : Nat → Int32) (j : Nat) (σ : ck_S) : ck_ui (ck_ui (cTk c a d al j σ) 32 c j (al j)) 31 c j (twoM a d j) = cTk c a d al (j + 1) σ := by
  unfold cTk ck_ui ck_up
  ext x y z
  · show (if x = 31 ∧ y = c ∧ z = j then twoM a d j else if x = 32 ∧ y = c ∧ z = j then al j else if x = 31 ∧ y = c ∧ z < j then twoM a d z else if x = 32 ∧ y = c ∧ z < j then al z else σ.1 x y z) = if x = 31 ∧ y = c ∧ z < j + 1 then twoM a d z else if x = 32 ∧ y = c ∧ z < j + 1 then al z else σ.1 x y z
    by_cases hz : z = j
    · subst hz
      by_cases h1 : x = 31 ∧ y = c
      · rw [if_pos ⟨h1.1, h1.2, rfl⟩, if_pos ⟨h1.1, h1.2, by omega⟩]
      · rw [if_neg (fun q => h1 ⟨q.1, q.2.1⟩), if_neg (c := x = 31 ∧ y = c ∧ z < z) (by omega), if_neg (c := x = 32 ∧ y = c ∧ z < z) (by omega), if_neg (c := x = 31 ∧ y = c ∧ z < z + 1) (fun q => h1 ⟨q.1, q.2.1⟩)]
        by_cases h2 : x = 32 ∧ y = c
        · rw [if_pos ⟨h2.1, h2.2, rfl⟩, if_pos ⟨h2.1, h2.2, by omega⟩]
        · rw [if_neg (fun q => h2 ⟨q.1, q.2.1⟩), if_neg (fun q => h2 ⟨q.1, q.2.1⟩)]
    · have e : z < j + 1 ↔ z < j := by omega
      simp only [e, hz, and_false, if_false]
  · rfl
  · rfl
def cTake (c u : Nat) (a d : Int64) (z : UInt64) (σ : ck_S) : ck_S := ck_ui (ck_ui (ck_ud (ck_ui (cTk c a d (alN u c a d σ) 6 σ) 30 c 3 (twoM a d 6)) 33 c (u % 8) z) 30 c 4 (nI (u + 1))) 30 c 5 0
section REPLY
variable {n b B nc nb : Nat} {cap : Int} {σ γ μ : ck_S}
theorem c_take {c u : Nat} (hu : u ≤ 1000000) (h4 : σ.1 30 c 4 = nI u) {a d : Int64} {z : UInt64} {post : ck_S → Prop} (h : post (cTake c u a d z σ)) : sp_X3_take nc nb σ c a d z post := by
  unfold sp_X3_take
  generalize hal : alN u c a d σ = al
  unfold cTake at h
  rw [hal] at h
  refine cu_5 6 nI (fun j s x1 x3 x5 => cTk c a d al j σ = s ∧ a = x1 ∧ d = x3 ∧ z = x5) ?_ ?_ 0 (by omega) _ _ _ _ ⟨cTk_0 _ _ _ _ _, rfl, rfl, rfl⟩ _ rfl
  · rintro j hj s x1 x3 x5 ⟨hs, rfl, rfl, rfl⟩ K hK
    have hv : vp_in (nI j) 6 := vp_in_nI hj (by decide)
    have e4 : ck_gi s 30 c 4 = nI u := by rw [← hs]; exact h4
    have e31 : ck_gi s 31 c j = σ.1 31 c j := by
      rw [← hs]
      show (cTk c a d al j σ).1 31 c j = _
      simp [cTk]
    have e32 : ck_gi s 32 c j = σ.1 32 c j := by
      rw [← hs]
      show (cTk c a d al j σ).1 32 c j = _
      simp [cTk]
    have k69 : ∀ v, v = al j → sp_X3_take_69 nc nb c post K s a d z (nI j) (twoM a d j) v (nI j) := by
      intro v hv'
      unfold sp_X3_take_69
      rw [nI_clamp (by omega)]
      refine ⟨hv, al_1 ⟨hv, al_1 ?_⟩⟩
      intro w hw
      refine hK _ _ _ _ ⟨?_, rfl, rfl, rfl⟩ _ (by rw [hw, nI_succ])
      rw [← cTk_succ, hs, hv']
    unfold bd_X3_take_3
    refine kb_f (nI_ge (b := 6) hj (by decide)) (c_numberIn hj ?_)
    rw [e4, nI_clamp (by omega), e31]
    unfold sp_X3_take_42 sp_X3_take_43
    rw [nI_clamp (by omega), e32]
    refine ⟨fun q => kb_t rfl (k69 _ ?_), fun q => ⟨hv, ⟨fun r => kb_t rfl (k69 _ ?_), fun r => kb_f (by decide) ⟨hv, k69 _ ?_⟩⟩⟩⟩
    · have : ¬ 0 < u := fun r => nI_nle r (by omega) q
      rw [← hal]
      unfold alN
      rw [if_neg (fun s => this s.1)]
    · rw [← hal]
      unfold alN
      rw [if_neg (fun s => r s.2)]
    · have : 0 < u := by
        rcases Nat.eq_zero_or_pos u with e | e
        · subst e
          exact absurd (by decide) q
        · exact e
      rw [← hal]
      unfold alN
      rw [if_pos ⟨this, r⟩]
  · rintro s x1 x3 x5 ⟨hs, rfl, rfl, rfl⟩ K
    unfold bd_X3_take_3
    refine kb_t (by decide) (al_1 ?_)
    rw [two_6 a d]
    have e4 : ∀ v, ck_gi (ck_ui s 30 c 3 v) 30 c 4 = nI u := by
      intro v
      rw [← hs]
      show (ck_ui (cTk c a d al 6 σ) 30 c 3 v).1 30 c 4 = _
      rw [← h4]
      simp [ck_ui, ck_up, cTk]
    rw [e4]
    refine c_floorMod (d := 8) (by omega) (by decide) (by decide) ?_
    rw [nI_clamp (by omega)]
    refine ⟨vp_in_nI (by omega) (by decide), al_1 (al_1 (al_1 ?_))⟩
    have e5 : ∀ v w, ck_gi (ck_ud (ck_ui s 30 c 3 v) 33 c (u % 8) w) 30 c 4 = nI u := fun v w => e4 v
    rw [e5, nI_1, ← hs]
    exact h
/-! the reference's reply -/
def mTake (c u : Nat) (a d : Int64) (σ : ck_S) : ck_S := ck_ui (ck_ui (ck_ui (ck_uj (pt 14 (6 * (8 * c + u % 8)) 6 (twoM a d) σ) 15 0 (8 * c + u % 8) (σ.2.1 10 0 13)) 16 0 c (twoM a d 6)) 17 0 c (nI (u + 1))) 18 0 c 0
theorem m_take {c u : Nat} (hc : c < 4) (hu : u ≤ 1000000) (h17 : σ.1 17 0 c = nI u) {a d : Int64} {post : Int32 → ck_S → Prop} (h : post 1 (mTake c u a d σ)) : lx_6 (bd_X7_reply_72 nc nb post) σ (nI c) a d (nI (u % 8)) 0 := by
  generalize hA : u % 8 = A
  have hA8 : A < 8 := by omega
  unfold mTake at h
  rw [hA] at h
  refine cu_6 6 nI (fun j s x1 x2 x4 x6 => pt 14 (6 * (8 * c + A)) j (twoM a d) σ = s ∧ nI c = x1 ∧ a = x2 ∧ d = x4 ∧ nI A = x6) ?_ ?_ 0 (by omega) _ _ _ _ _ ⟨pt_0 _ _ _ _, rfl, rfl, rfl, rfl⟩ _ rfl
  · rintro j hj s x1 x2 x4 x6 ⟨hs, rfl, rfl, rfl, rfl⟩ K hK
    unfold bd_X7_reply_72
    have ei : (6 * ((8 * nI c) + nI A)) + nI j = nI (6 * (8 * c + A) + j) := by
      rw [show (8 : Int32) * nI c = nI (8 * c) from pk_mul 8 c, nI_add, show (6 : Int32) * nI (8 * c + A) = nI (6 * (8 * c + A)) from pk_mul 6 _, nI_add]
    rw [ei]
    refine kb_f (nI_ge (b := 6) hj (by decide)) (al_1 (m_two (by omega) rfl ⟨vp_in_nI (by omega) (by decide), ?_⟩))
    rw [nI_clamp (by omega)]
    refine al_1 ?_
    intro w hw
    refine hK _ _ _ _ _ ⟨?_, rfl, rfl, rfl, rfl⟩ _ (by rw [hw, nI_succ])
    rw [← hs]
    exact (pt_succ 14 (6 * (8 * c + A)) j (twoM a d) σ).symm
  · rintro s x1 x2 x4 x6 ⟨hs, rfl, rfl, rfl, rfl⟩ K
    unfold bd_X7_reply_72
    have hv : vp_in (nI c) 4 := vp_in_nI hc (by decide)
    have ei : (8 * nI c) + nI A = nI (8 * c + A) := by
      rw [show (8 : Int32) * nI c = nI (8 * c) from pk_mul 8 c, nI_add]
    rw [ei]
    refine kb_t (by decide) (al_1 ⟨vp_in_nI (by omega) (by decide), ?_⟩)
    rw [nI_clamp (by omega), nI_clamp (by omega)]
    refine al_1 (m_two (k := 6) (by omega) rfl ⟨hv, al_1 ⟨hv, hv, al_1 ⟨hv, al_1 ⟨b2_b true, ?_⟩⟩⟩⟩)
    have e17 : ∀ (v : Int64) (w : Int32), ck_gi (ck_ui (ck_uj s 15 0 (8 * c + A) v) 16 0 c w) 17 0 c = nI u := by
      intro v w
      rw [← hs]
      exact h17
    have e13 : ck_gj s 10 0 13 = σ.2.1 10 0 13 := by rw [← hs]; rfl
    rw [e17, e13, nI_1, ← hs]
    exact h
/-! the relation -/
theorem no_same {c u : Nat} (hu : u ≤ 1000000) {a d : Int64} {k : Nat} (hk : k < 6) : mNo (rp (mTake c u a d μ)) c k 0 = twoM a d k := by
  have eU : mU (rp (mTake c u a d μ)) c = u + 1 := by
    unfold mU
    have : rU (rp (mTake c u a d μ)) c = nI (u + 1) := by
      show (mTake c u a d μ).1 17 0 c = _
      simp [mTake, ck_ui, ck_up]
    rw [this, nI_clamp (by omega)]
  unfold mNo
  rw [eU, show u + 1 - 1 - 0 = u by omega]
  show (pt 14 (6 * (8 * c + u % 8)) 6 (twoM a d) μ).1 14 0 (6 * (8 * c + u % 8) + k) = _
  rw [pt_in (by omega) (by omega), Nat.add_sub_cancel_left]
theorem no_shift {c u : Nat} (hu : u ≤ 1000000) (h17 : μ.1 17 0 c = nI u) {a d : Int64} {k : Nat} (hk : k < 6) {j : Nat} (hj : j < 7) (hju : j + 1 ≤ u) : mNo (rp (mTake c u a d μ)) c k (j + 1) = mNo (rp μ) c k j := by
  have eU : mU (rp (mTake c u a d μ)) c = u + 1 := by
    unfold mU
    have : rU (rp (mTake c u a d μ)) c = nI (u + 1) := by
      show (mTake c u a d μ).1 17 0 c = _
      simp [mTake, ck_ui, ck_up]
    rw [this, nI_clamp (by omega)]
  have eU2 : mU (rp μ) c = u := mU_of (⟨hu, h17⟩ : gU (rp μ) c u)
  unfold mNo
  rw [eU, eU2, show u + 1 - 1 - (j + 1) = u - 1 - j by omega]
  show (pt 14 (6 * (8 * c + u % 8)) 6 (twoM a d) μ).1 14 0 (6 * (8 * c + (u - 1 - j) % 8) + k) = μ.1 14 0 (6 * (8 * c + (u - 1 - j) % 8) + k)
  rw [pt_out (by omega)]
theorem no_other {c u c' : Nat} (hcc : c' ≠ c) {a d : Int64} {k : Nat} (hk : k < 6) (j : Nat) : mNo (rp (mTake c u a d μ)) c' k j = mNo (rp μ) c' k j := by
  have eU : mU (rp (mTake c u a d μ)) c' = mU (rp μ) c' := by
    unfold mU
    have : rU (rp (mTake c u a d μ)) c' = rU (rp μ) c' := by
      show (mTake c u a d μ).1 17 0 c' = μ.1 17 0 c'
      simp [mTake, ck_ui, ck_uj, ck_up, hcc, pt]
    rw [this]
  unfold mNo
  rw [eU]
  show (pt 14 (6 * (8 * c + u % 8)) 6 (twoM a d) μ).1 14 0 (6 * (8 * c' + (mU (rp μ) c' - 1 - j) % 8) + k) = μ.1 14 0 (6 * (8 * c' + (mU (rp μ) c' - 1 - j) % 8) + k)
  rw [pt_out (by omega)]
theorem take_c {c u : Nat} {a d : Int64} {z : UInt64} (hB : B ≤ 1000000) (hu : u ≤ 1000000) (q3 : γ.1 30 c 4 = nI u) (q4 : μ.1 17 0 c = nI u) (hz : ck_dq z (μ.2.1 10 0 13).toInt 3) (hz1 : -16000 ≤ (μ.2.1 10 0 13).toInt) (hz2 : (μ.2.1 10 0 13).toInt ≤ 16000) (h : Rch B (cp γ c) (rp μ) c) : Rch (B + 1) (cp (cTake c u a d z γ) c) (rp (mTake c u a d μ)) c := by
  obtain ⟨u', g, r1, r2, r3, r4, r5, r6, r7, r8, r9, r10, r11⟩ := h
  have rU4 : μ.1 17 0 c = nI u' := r4
  have euu : u' = u := (nI_eq (by omega) (by omega)).mp (rU4.symm.trans q4)
  subst euu
  have t3 : (cTake c u' a d z γ).1 30 c 3 = twoM a d 6 := by simp [cTake, ck_ui, ck_ud, ck_up]
  have t4 : (cTake c u' a d z γ).1 30 c 4 = nI (u' + 1) := by simp [cTake, ck_ui, ck_ud, ck_up]
  have t5 : (cTake c u' a d z γ).1 30 c 5 = nI 0 := by simp [cTake, ck_ui, ck_ud, ck_up]; rfl
  have m16 : (mTake c u' a d μ).1 16 0 c = twoM a d 6 := by simp [mTake, ck_ui, ck_uj, ck_up]
  have m17 : (mTake c u' a d μ).1 17 0 c = nI (u' + 1) := by simp [mTake, ck_ui, ck_uj, ck_up]
  have m18 : (mTake c u' a d μ).1 18 0 c = nI (min 0 1000) := by simp [mTake, ck_ui, ck_uj, ck_up]; rfl
  have t31 : ∀ k, k < 6 → (cTake c u' a d z γ).1 31 c k = twoM a d k := by
    intro k hk
    simp [cTake, cTk, ck_ui, ck_ud, ck_up, hk]
  have t32 : ∀ k, k < 6 → (cTake c u' a d z γ).1 32 c k = alN u' c a d γ k := by
    intro k hk
    simp [cTake, cTk, ck_ui, ck_ud, ck_up, hk]
  refine ⟨u' + 1, 0, by omega, by omega, t4, m17, t5, fun _ => m18, fun _ => t3.trans m16.symm, fun k hk _ => (t31 k hk).trans (no_same hu hk).symm, fun k hk _ => ?_, fun j hj => ?_, r11⟩
  · show ∃ a_1, 1 ≤ a_1 ∧ a_1 ≤ u' + 1 ∧ (cTake c u' a d z γ).1 32 c k = nI a_1 ∧ ∀ m, m ≤ 8 → m ≤ u' + 1 → ((∀ j, j < m → mNo (rp (mTake c u' a d μ)) c k j = mNo (rp (mTake c u' a d μ)) c k 0) ↔ m ≤ a_1)
    rw [t32 k hk]
    have ns := no_same (μ := μ) (c := c) (a := a) (d := d) hu hk
    have sh : ∀ j, j < 7 → j + 1 ≤ u' → mNo (rp (mTake c u' a d μ)) c k (j + 1) = mNo (rp μ) c k j := fun j h1 h2 => no_shift hu q4 hk h1 h2
    unfold alN
    rw [ns]
    by_cases hs : 0 < u' ∧ twoM a d k = γ.1 31 c k
    · rw [if_pos hs]
      have e0 : γ.1 31 c k = mNo (rp μ) c k 0 := r8 k hk hs.1
      obtain ⟨al, a1, a2, a3, a4⟩ := r9 k hk hs.1
      have a3 : γ.1 32 c k = nI al := a3
      refine ⟨al + 1, by omega, by omega, by rw [a3, nI_1], fun m hm hmu => ?_⟩
      rcases Nat.eq_zero_or_pos m with e | hm0
      · subst e
        exact ⟨fun _ => by omega, fun _ j hj => absurd hj (by omega)⟩
      · have := a4 (m - 1) (by omega) (by omega)
        constructor
        · intro q
          have : m - 1 ≤ al := this.mp (fun j hj => by
            have := q (j + 1) (by omega)
            rw [sh j (by omega) (by omega), hs.2, e0] at this
            exact this)
          omega
        · intro q j hj
          rcases Nat.eq_zero_or_pos j with e | hj0
          · subst e
            exact ns
          · have := this.mpr (by omega) (j - 1) (by omega)
            have e1 := sh (j - 1) (by omega) (by omega)
            rw [show j - 1 + 1 = j by omega] at e1
            rw [e1, this, hs.2, e0]
    · rw [if_neg hs]
      refine ⟨1, by omega, by omega, rfl, fun m hm hmu => ?_⟩
      constructor
      · intro q
        rcases Nat.lt_or_ge 1 m with h2 | h2
        · exfalso
          apply hs
          have e1 := q 1 h2
          rw [sh 0 (by omega) (by omega)] at e1
          exact ⟨by omega, by rw [← e1]; exact (r8 k hk (by omega)).symm⟩
        · exact h2
      · intro q j hj
        have : j = 0 := by omega
        subst this
        exact ns
  · show ck_dq ((cTake c u' a d z γ).2.2 33 c j) ((mTake c u' a d μ).2.1 15 0 (8 * c + j)).toInt 3 ∧ -16000 ≤ ((mTake c u' a d μ).2.1 15 0 (8 * c + j)).toInt ∧ ((mTake c u' a d μ).2.1 15 0 (8 * c + j)).toInt ≤ 16000
    by_cases q : j = u' % 8
    · have e1 : (cTake c u' a d z γ).2.2 33 c j = z := by simp [cTake, ck_ui, ck_ud, ck_up, q]
      have e2 : (mTake c u' a d μ).2.1 15 0 (8 * c + j) = μ.2.1 10 0 13 := by simp [mTake, ck_ui, ck_uj, ck_up, q]
      rw [e1, e2]
      exact ⟨hz, hz1, hz2⟩
    · have e1 : (cTake c u' a d z γ).2.2 33 c j = γ.2.2 33 c j := by simp [cTake, cTk, ck_ui, ck_ud, ck_up, q]
      have e2 : (mTake c u' a d μ).2.1 15 0 (8 * c + j) = μ.2.1 15 0 (8 * c + j) := by
        have : ¬ (8 * c + j = 8 * c + u' % 8) := by omega
        simp [mTake, ck_ui, ck_uj, ck_up, this, pt]
        intro h
        exact absurd h q
      rw [e1, e2]
      exact r10 j hj
theorem take_o {c u c' : Nat} (hcc : c' ≠ c) {a d : Int64} {z : UInt64} (h : Rch B (cp γ c') (rp μ) c') : Rch (B + 1) (cp (cTake c u a d z γ) c') (rp (mTake c u a d μ)) c' := by
  obtain ⟨u', g, r1, r2, r3, r4, r5, r6, r7, r8, r9, r10, r11⟩ := h
  have e30 : ∀ k, (cTake c u a d z γ).1 30 c' k = γ.1 30 c' k := fun k => by simp [cTake, cTk, ck_ui, ck_ud, ck_up, hcc]
  have e31 : ∀ k, (cTake c u a d z γ).1 31 c' k = γ.1 31 c' k := fun k => by simp [cTake, cTk, ck_ui, ck_ud, ck_up, hcc]
  have e32 : ∀ k, (cTake c u a d z γ).1 32 c' k = γ.1 32 c' k := fun k => by simp [cTake, cTk, ck_ui, ck_ud, ck_up, hcc]
  have e33 : ∀ k, (cTake c u a d z γ).2.2 33 c' k = γ.2.2 33 c' k := fun k => by simp [cTake, cTk, ck_ui, ck_ud, ck_up, hcc]
  have m16 : (mTake c u a d μ).1 16 0 c' = μ.1 16 0 c' := by simp [mTake, ck_ui, ck_uj, ck_up, hcc, pt]
  have m17 : (mTake c u a d μ).1 17 0 c' = μ.1 17 0 c' := by simp [mTake, ck_ui, ck_uj, ck_up, hcc, pt]
  have m18 : (mTake c u a d μ).1 18 0 c' = μ.1 18 0 c' := by simp [mTake, ck_ui, ck_uj, ck_up, hcc, pt]
  have no : ∀ k, k < 6 → ∀ j, mNo (rp (mTake c u a d μ)) c' k j = mNo (rp μ) c' k j := fun k hk j => no_other hcc hk j
  refine ⟨u', g, by omega, by omega, (e30 4).trans r3, m17.trans r4, (e30 5).trans r5, fun q => m18.trans (r6 q), fun q => ((e30 3).trans (r7 q)).trans m16.symm, fun k hk q => ((e31 k).trans (r8 k hk q)).trans (no k hk 0).symm, fun k hk q => ?_, fun j hj => ?_, r11⟩
  · obtain ⟨al, a1, a2, a3, a4⟩ := r9 k hk q
    refine ⟨al, a1, a2, (e32 k).trans a3, fun m hm hmu => ?_⟩
    rw [← a4 m hm hmu]
    constructor
    · intro q j hj
      rw [← no k hk j, ← no k hk 0]
      exact q j hj
    · intro q j hj
      rw [no k hk j, no k hk 0]
      exact q j hj
  · show ck_dq ((cTake c u a d z γ).2.2 33 c' j) ((mTake c u a d μ).2.1 15 0 (8 * c' + j)).toInt 3 ∧ -16000 ≤ ((mTake c u a d μ).2.1 15 0 (8 * c' + j)).toInt ∧ ((mTake c u a d μ).2.1 15 0 (8 * c' + j)).toInt ≤ 16000
    have e2 : (mTake c u a d μ).2.1 15 0 (8 * c' + j) = μ.2.1 15 0 (8 * c' + j) := by
      have : ¬ (8 * c' + j = 8 * c + u % 8) := by omega
      show (if 15 = 15 ∧ 0 = 0 ∧ 8 * c' + j = 8 * c + u % 8 then _ else _) = _
      rw [if_neg (fun q => this q.2.2)]
      rfl
    rw [e33, e2]
    exact r10 j hj
theorem take_rel {c u : Nat} {a d : Int64} (hB : B ≤ 1000000) (hc : c < n) (hu : u ≤ 1000000) (q4 : μ.1 17 0 c = nI u) (q3 : γ.1 30 c 4 = nI u) (h : RC n b B cap γ μ) : RC n b (B + 1) cap (cTake c u a d (γ.2.2 0 0 12) γ) (mTake c u a d μ) := by
  have h10 := h.2.2.2.2.2.2.2.2.2
  have h := RC_mono (Nat.le_succ B) h
  obtain ⟨h1, h2, h3, ⟨a1, a2, a3⟩, h5, h6, h7, h8, h9, -⟩ := h
  refine ⟨h1, h2, h3, ⟨a1, a2, a3⟩, h5, h6, h7, h8, h9, fun j hj => ?_⟩
  have e7 : (cTake c u a d (γ.2.2 0 0 12) γ).1 30 j 7 = γ.1 30 j 7 := by simp [cTake, cTk, ck_ui, ck_ud, ck_up]
  have e20 : (mTake c u a d μ).1 20 0 j = μ.1 20 0 j := rfl
  refine ⟨?_, e7.trans ((h10 j hj).2.trans e20.symm)⟩
  by_cases q : j = c
  · subst q
    exact take_c hB hu q3 q4 a1 a2 a3 (h10 j hj).1
  · exact take_o q (h10 j hj).1
theorem mTake_mk (c u : Nat) (a d : Int64) (γ μ : ck_S) : mTake c u a d (ck_mk γ μ) = ck_mk γ (mTake c u a d μ) := by
  unfold mTake
  rw [pt_mkM (by decide)]
  simp only [mj_10, muj_15, mui_16, mui_17, mui_18]
theorem cTk_mk (c : Nat) (a d : Int64) (al : Nat → Int32) (j : Nat) (γ μ : ck_S) : cTk c a d al j (ck_mk γ μ) = ck_mk (cTk c a d al j γ) μ := by
  unfold cTk ck_mk
  ext f i k
  · show (if f = 31 ∧ i = c ∧ k < j then twoM a d k else if f = 32 ∧ i = c ∧ k < j then al k else if 10 ≤ f ∧ f ≤ 20 then μ.1 f i k else γ.1 f i k) = if 10 ≤ f ∧ f ≤ 20 then μ.1 f i k else (if f = 31 ∧ i = c ∧ k < j then twoM a d k else if f = 32 ∧ i = c ∧ k < j then al k else γ.1 f i k)
    by_cases q : 10 ≤ f ∧ f ≤ 20
    · rw [if_pos q, if_pos q, if_neg (by omega), if_neg (by omega)]
    · rw [if_neg q, if_neg q]
  · rfl
  · rfl
theorem cTake_mk (c u : Nat) (a d : Int64) (z : UInt64) (γ μ : ck_S) : cTake c u a d z (ck_mk γ μ) = ck_mk (cTake c u a d z γ) μ := by
  unfold cTake
  have : alN u c a d (ck_mk γ μ) = alN u c a d γ := rfl
  rw [this, cTk_mk]
  simp only [mui_30, mud_33]
variable {xs : Nat → Int32} {L : Nat} {K : ck_S → Int32 → Prop} {x5 : Int32}
theorem lc_318 (h : RC n b B cap σ σ) (hB : B + 200 ≤ 1000000) (v1 : vp_in (x5 + 1) L) (v2 : vp_in (x5 + 2) L) (v3 : vp_in (x5 + 3) L) (v4 : vp_in (x5 + 4) L) (v5 : vp_in (x5 + 5) L) (hK : ∀ σ', RC n b (B + 200) cap σ' σ' → K σ' x5) : sp_law_318 n (32 * b) xs L K σ x5 := by
  unfold sp_law_318 sp_L_reply sp_X6_reply sp_X6_needChip sp_X6_needPower
  have h200 := RC_mono (B' := B + 200) (by omega) h
  obtain ⟨k1, k2, k3, k4, k5, k6, k7, k8, k9, -⟩ := id h.1
  obtain ⟨s1, s2, -⟩ := id h.2.2.2.2.2.1
  have h10 := h.2.2.2.2.2.2.2.2.2
  have e : ck_gi σ 0 0 7 = σ.1 10 0 9 := s1
  refine al_1 ⟨v1, al_1 ⟨v2, al_1 ⟨v3, al_1 ⟨v4, al_1 ⟨v5, ?_⟩⟩⟩⟩⟩
  generalize hw : xs (Int32.toNatClampNeg (x5 + 1)) = w
  generalize ha : ((((xs (Int32.toNatClampNeg (x5 + 2))).toInt64) <<< ((32 : Int32).toInt64 &&& 63)) ||| (((xs (Int32.toNatClampNeg (x5 + 3))).toInt64) &&& 4294967295)) = a
  generalize hd : ((((xs (Int32.toNatClampNeg (x5 + 4))).toInt64) <<< ((32 : Int32).toInt64 &&& 63)) ||| (((xs (Int32.toNatClampNeg (x5 + 5))).toInt64) &&& 4294967295)) = d
  have tail : ∀ (τ : ck_S) (x12 : Int32), sp_X7_reply n (32 * b) τ w a d (fun x_24 σ23 => sp_X7_thrown n (32 * b) σ23 (fun x_26 σ25 => ((x_26 = x12 → (((¬ x12 = 0 → (sp_law_466 n (32 * b) xs L K σ25 x5)) ∧ (x12 = 0 → ((vp_in 0 1) ∧ ∀ y_30, y_30 = (ck_gj σ25 21 0 (Int32.toNatClampNeg 0)) → ((x_24 = 0 → (sp_law_460 n (32 * b) xs L K σ25 x5 0 y_30)) ∧ (¬ x_24 = 0 → (sp_law_460 n (32 * b) xs L K σ25 x5 1 y_30)))))))) ∧ (¬ x_26 = x12 → (False))))) → ∀ x_13, x_13 = (x5 + 1) → (vp_in x_13 L) ∧ ∀ x_15, x_15 = (x5 + 2) → (vp_in x_15 L) ∧ ∀ x_17, x_17 = (x5 + 3) → (vp_in x_17 L) ∧ ∀ x_19, x_19 = (x5 + 4) → (vp_in x_19 L) ∧ ∀ x_21, x_21 = (x5 + 5) → (vp_in x_21 L) ∧ sp_X7_reply n (32 * b) τ (xs (Int32.toNatClampNeg x_13)) ((((xs (Int32.toNatClampNeg x_15)).toInt64) <<< ((32 : Int32).toInt64 &&& 63)) ||| (((xs (Int32.toNatClampNeg x_17)).toInt64) &&& 4294967295)) ((((xs (Int32.toNatClampNeg x_19)).toInt64) <<< ((32 : Int32).toInt64 &&& 63)) ||| (((xs (Int32.toNatClampNeg x_21)).toInt64) &&& 4294967295)) (fun x_24 σ23 => sp_X7_thrown n (32 * b) σ23 (fun x_26 σ25 => ((x_26 = x12 → (((¬ x12 = 0 → (sp_law_466 n (32 * b) xs L K σ25 x5)) ∧ (x12 = 0 → ((vp_in 0 1) ∧ ∀ y_30, y_30 = (ck_gj σ25 21 0 (Int32.toNatClampNeg 0)) → ((x_24 = 0 → (sp_law_460 n (32 * b) xs L K σ25 x5 0 y_30)) ∧ (¬ x_24 = 0 → (sp_law_460 n (32 * b) xs L K σ25 x5 1 y_30)))))))) ∧ (¬ x_26 = x12 → (False))))) := by
    intro τ x12 hr
    refine al_1 ⟨v1, al_1 ⟨v2, al_1 ⟨v3, al_1 ⟨v4, al_1 ⟨v5, ?_⟩⟩⟩⟩⟩
    rw [hw, ha, hd]
    exact hr
  have e1 : ∀ τ : ck_S, τ.1 10 0 1 = σ.1 10 0 1 → ck_gi τ 10 0 1 = nI n := fun τ q => q.trans k9
  refine c_index (by omega) (fun c hc ec => ?_) (fun q => Or.inl ⟨rfl, tail σ 1 ?_⟩)
  · have p1 : ¬ nI c < 0 := nI_pos (by omega)
    have p2 : nI c < nI n := nI_lt hc (by omega)
    dsimp only
    rw [e]
    refine ⟨fun q => c_ofReply ?_, fun q => Or.inr ⟨rfl, tail σ 2 ?_⟩⟩
    · simp only [lg_cmp_eq]
      rw [← two_7 a d]
      have iff7 : (twoM a d 7).toInt64 = (sealN a d 14).toInt64 ↔ twoM a d 7 = sealN a d 14 := by
        rw [← Int64.toInt_inj, Int32.toInt_toInt64, Int32.toInt_toInt64, Int32.toInt_inj]
      rw [iff7]
      have start : ∀ (τ : ck_S) (post : Int32 → ck_S → Prop), τ.1 10 0 9 = σ.1 10 0 9 → τ.1 10 0 1 = σ.1 10 0 1 → (twoM a d 7 = sealN a d 14 → (vp_in (nI c) 4) ∧ ∀ x_9, x_9 = (ck_gi (ck_ui τ 10 0 0 0) 17 0 c) → ∀ x_10, x_10 = (x_9 - x_9 / 8 * 8) → lx_6 (bd_X7_reply_72 n (32 * b) post) (ck_ui τ 10 0 0 0) (nI c) a d x_10 0) → (¬ twoM a d 7 = sealN a d 14 → post 0 (ck_ui τ 10 0 0 0)) → sp_X7_reply n (32 * b) τ (nI c) a d post := by
        intro τ post t9 t1 y1 y0
        unfold sp_X7_reply sp_X7_reply_29
        rw [e1 τ t1]
        have t9 : ck_gi τ 10 0 9 = 0 := t9.trans q
        refine kb_f p1 (kb_t p2 (kb_t t9 (al_1 (kb_f (by show ¬ (0 : Int32) < 0; decide) (m_two (k := 7) (by omega) rfl (m_sealOf ?_))))))
        rw [nI_clamp (by omega)]
        exact ⟨y1, fun r => ⟨b2_b false, y0 r⟩⟩
      refine ⟨fun r => ⟨?_, ?_⟩, fun r => ⟨b2_b false, ?_⟩⟩
      · rw [ec]
        exact vp_in_nI hc (by omega)
      · rw [ec, nI_clamp (by omega)]
        refine al_1 ?_
        obtain ⟨⟨u, g, r1, r2, r3, r4, r5⟩, -⟩ := id (h10 c hc)
        have q3 : σ.1 30 c 4 = nI u := r3
        have q4 : σ.1 17 0 c = nI u := r4
        refine c_take (by omega) q3 ⟨b2_b true, ?_⟩
        have T := take_rel (μ := ck_ui σ 10 0 0 0) (a := a) (d := d) (by omega) hc (by omega) q4 q3 (h : RC n b B cap σ (ck_ui σ 10 0 0 0))
        have eC : cTake c u a d (ck_gd σ 0 0 12) σ = ck_mk (cTake c u a d (σ.2.2 0 0 12) σ) σ := by
          have := cTake_mk c u a d (σ.2.2 0 0 12) σ σ
          rwa [ck_mk_self] at this
        rw [eC]
        refine kb_f (by decide) ?_
        unfold sp_L_reply_19
        refine ⟨v01, al_1 (tail _ 0 ?_)⟩
        rw [ec, muj_21]
        refine start _ _ rfl rfl (fun _ => ⟨vp_in_nI (by omega) (by decide), al_1 (al_1 ?_)⟩) (fun s => absurd r s)
        rw [mui_10]
        generalize hγ : ck_uj (cTake c u a d (σ.2.2 0 0 12) σ) 21 0 (Int32.toNatClampNeg 0) 1 = γ'
        have e17 : ck_gi (ck_mk γ' (ck_ui σ 10 0 0 0)) 17 0 c = nI u := q4
        rw [e17, show (8 : Int32) = nI 8 from rfl, pk_rem (by omega) (by decide) (by decide)]
        refine m_take (σ := ck_mk γ' (ck_ui σ 10 0 0 0)) (by omega) (by omega) q4 ?_
        rw [mTake_mk]
        unfold sp_X7_thrown sp_law_460 sp_law_466
        simp only [lg_cmp_eq]
        refine kb_t rfl (kn_f trivial ⟨v01, al_1 (kb_f (by decide) (kb_t ?_ (hK _ ?_)))⟩)
        · rw [← hγ]
          rfl
        · rw [← hγ]
          exact RC_mk (γ := ck_uj (cTake c u a d (σ.2.2 0 0 12) σ) 21 0 (Int32.toNatClampNeg 0) 1) (RC_mono (by omega) T)
      · refine kb_t trivial ?_
        unfold sp_L_reply_19
        refine ⟨v01, al_1 (tail _ 0 ?_)⟩
        rw [ec]
        refine start (ck_uj σ 21 0 (Int32.toNatClampNeg 0) 0) _ rfl rfl (fun s => absurd s r) (fun _ => ?_)
        unfold sp_X7_thrown sp_law_460 sp_law_466
        simp only [lg_cmp_eq]
        exact kb_t rfl (kn_f trivial ⟨v01, al_1 (kb_t trivial (kb_t rfl (hK _ h200)))⟩)
    · rw [ec]
      unfold sp_X7_reply sp_X7_reply_29 sp_X7_thrown
      rw [e1 σ rfl]
      exact kb_f p1 (kb_t p2 (kb_f q (al_1 (kb_t (by show (0 : Int32) < 2; decide) ⟨b2_b false, kb_t rfl (kn_t (by decide) (hK _ h200))⟩))))
  · unfold sp_X7_reply sp_X7_reply_13 sp_X7_reply_29 sp_X7_thrown
    rw [e1 σ rfl]
    exact ⟨fun r => al_1 (kb_t (by show (0 : Int32) < 1; decide) ⟨b2_b false, kb_t rfl (kn_t (by decide) (hK _ h200))⟩), fun r => kb_f (by grind) (al_1 (kb_t (by show (0 : Int32) < 1; decide) ⟨b2_b false, kb_t rfl (kn_t (by decide) (hK _ h200))⟩))⟩
end REPLY
