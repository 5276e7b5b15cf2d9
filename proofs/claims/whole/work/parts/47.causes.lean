/-! CAUSES: isSo, latch, causes of the reference; watch, watchCauses of the class. -/
def soP (R : ck_R) (x i : Nat) : Bool := match x with
  | 0 => mSt R (i / 6)
  | 1 => mInv R i
  | 2 => mV R (i / 6) (i % 6) && decide (4200 < mNo R (i / 6) (i % 6) 0)
  | _ => mV R (i / 6) (i % 6) && decide (mNo R (i / 6) (i % 6) 0 < 2500)
def soF (n : Nat) (R : ck_R) (c g t : Int) (x : Nat) : Bool := match x with
  | 4 => decide (480 < mHot R n)
  | 5 => decide (mCold R n < -240)
  | 6 => decide (g + 640 < 8 * c ∨ t + 640 < -8 * c)
  | x => anyB (soP R x) (6 * n)
def hit (x : Nat) (st v : Bool) (s0 : Int32) : Bool := match x with
  | 0 => st
  | 1 => !st && !v
  | 2 => decide (4200 < s0)
  | _ => decide (s0 < 2500)
section PURE
variable {nc nb : Nat} {σ : ck_S} {R : ck_R}
theorem m_153 {x : Nat} (hx : x < 4) {st v : Bool} {s0 x2 : Int32} {post : Int32 → ck_S → Prop} {K : ck_S → Int32 → Int32 → Prop} (h1 : hit x st v s0 = true → post 1 σ) (h0 : hit x st v s0 = false → K σ (nI x) (x2 + 1)) : sp_X7_isSo_153 nc nb post K σ (nI x) x2 (b2 st) (b2 v) s0 := by
  unfold sp_X7_isSo_153 sp_X7_isSo_211
  have hc : x = 0 ∨ x = 1 ∨ x = 2 ∨ x = 3 := by omega
  rw [b2_0, b2_0]
  rcases hc with rfl | rfl | rfl | rfl
  · refine kn_f (by decide) ⟨fun a => al_1 (h0 a), fun a => ⟨b2_b true, h1 ?_⟩⟩
    rwa [Bool.not_eq_false] at a
  · refine kn_t (by decide) (kn_f (by decide) ⟨fun a => al_1 (h0 ?_), fun a => ⟨fun b => al_1 (h0 ?_), fun b => ⟨b2_b true, h1 ?_⟩⟩⟩)
    · rw [Bool.not_eq_false] at a
      unfold hit
      rw [a]
      rfl
    · rw [Bool.not_eq_false] at b
      unfold hit
      rw [b]
      simp
    · unfold hit
      rw [a, b]
      rfl
  · refine kn_t (by decide) (kn_t (by decide) (kn_f (by decide) ⟨fun a => al_1 (h0 ?_), fun a => ⟨b2_b true, h1 ?_⟩⟩))
    · exact decide_eq_false (by grind)
    · exact decide_eq_true (by grind)
  · refine kn_t (by decide) (kn_t (by decide) (kn_t (by decide) ⟨fun a => al_1 (h0 ?_), fun a => ⟨b2_b true, h1 ?_⟩⟩))
    · exact decide_eq_false (by grind)
    · exact decide_eq_true (by grind)
theorem hit_v {R : ck_R} {x j : Nat} (hx : x < 4) (hv : mV R (j / 6) (j % 6) = true) : hit x (mSt R (j / 6)) true (mNo R (j / 6) (j % 6) 0) = soP R x j := by
  have hc : x = 0 ∨ x = 1 ∨ x = 2 ∨ x = 3 := by omega
  rcases hc with rfl | rfl | rfl | rfl
  · rfl
  · unfold hit soP mInv
    rw [hv]
    rfl
  · unfold hit soP
    rw [hv]
    rfl
  · unfold hit soP
    rw [hv]
    rfl
theorem hit_n {R : ck_R} {x j : Nat} (hx : x < 4) (hv : mV R (j / 6) (j % 6) = false) : hit x (mSt R (j / 6)) false 3000 = soP R x j := by
  have hc : x = 0 ∨ x = 1 ∨ x = 2 ∨ x = 3 := by omega
  rcases hc with rfl | rfl | rfl | rfl
  · rfl
  · unfold hit soP mInv
    rw [hv]
    rfl
  · unfold hit soP
    rw [hv]
    rfl
  · unfold hit soP
    rw [hv]
    rfl
theorem m_isSo {n : Nat} (hn : n ≤ 4) (hn1 : 1 ≤ n) (h1 : σ.1 10 0 1 = nI n) (hR : rp σ = R) (hg : gR n R) (hw0 : -800 ≤ (rW R 0).toInt) (hw1 : (rW R 0).toInt ≤ 1600) {c g t : Int} (hc : (σ.2.1 10 0 13).toInt = c) (hc1 : -16000 ≤ c) (hc2 : c ≤ 16000) (hG : (σ.2.1 10 0 23).toInt = g) (hG1 : 0 ≤ g) (hG2 : g ≤ 19200) (hT : (σ.2.1 10 0 24).toInt = t) (hT1 : 0 ≤ t) (hT2 : t ≤ 19200) {x : Nat} (hx : x < 7) {post : Int32 → ck_S → Prop} (h : post (b2 (soF n R c g t x)) σ) : sp_X7_isSo nc nb σ (nI x) post := by
  unfold sp_X7_isSo
  have hcs : x < 4 ∨ x = 4 ∨ x = 5 ∨ x = 6 := by omega
  rcases hcs with hx4 | rfl | rfl | rfl
  · have e4 : ¬ nI x = 4 := fun e => by have := (nI_eq (b := 4) (by omega) (by decide)).mp e; omega
    have e5 : ¬ nI x = 5 := fun e => by have := (nI_eq (b := 5) (by omega) (by decide)).mp e; omega
    have e6 : ¬ nI x = 6 := fun e => by have := (nI_eq (b := 6) (by omega) (by decide)).mp e; omega
    refine kn_t e4 (kn_t e5 (kn_t e6 ?_))
    have h : post (b2 (anyB (soP R x) (6 * n))) σ := by
      have hq : x = 0 ∨ x = 1 ∨ x = 2 ∨ x = 3 := by omega
      rcases hq with rfl | rfl | rfl | rfl <;> exact h
    have h6 : (6 : Int32) * ck_gi σ 10 0 1 = nI (6 * n) := by show (6 : Int32) * σ.1 10 0 1 = _; rw [h1]; exact pk_mul 6 n
    refine cu_3 (6 * n) nI (fun j s y => σ = s ∧ nI x = y ∧ anyB (soP R x) j = false) ?_ ?_ 0 (by omega) _ _ ⟨rfl, rfl, rfl⟩ _ rfl
    · rintro j hj s y ⟨rfl, rfl, ha⟩ K hK
      unfold bd_X7_isSo_98
      rw [h6]
      obtain ⟨e1, e2, l1, l2, l3⟩ := m_cell hj hn
      obtain ⟨u, hu⟩ := hg _ l2
      refine kb_f (nI_ge hj (by omega)) (al_1 ?_)
      rw [e2, e1]
      have hit1 : soP R x j = true → post 1 σ := by
        intro q
        have : anyB (soP R x) (6 * n) = true := (anyB_iff _ _).mpr ⟨j, hj, q⟩
        rw [this] at h
        exact h
      have hit0 : soP R x j = false → K σ (nI x) (nI j + 1) := by
        intro q
        refine hK _ _ ⟨rfl, rfl, ?_⟩ _ (nI_succ j)
        rw [anyB, ha, q]
        rfl
      refine m_isStale hR l1 (m_isValid hR l1 l3 hu ⟨fun b => ?_, fun b => ?_⟩)
      · rw [b2_0] at b
        rw [b]
        exact m_153 hx4 (fun q => hit1 (hit_n hx4 b ▸ q)) (fun q => hit0 (hit_n hx4 b ▸ q))
      · rw [b2_n] at b
        rw [b]
        refine m_numberOf (j := 0) hR l1 l3 hu (mV_used b hu) ?_
        exact m_153 hx4 (fun q => hit1 (hit_v hx4 b ▸ q)) (fun q => hit0 (hit_v hx4 b ▸ q))
    · rintro s y ⟨rfl, rfl, ha⟩ K
      unfold bd_X7_isSo_98
      rw [h6]
      rw [ha] at h
      exact kb_t (nI_le (Nat.le_refl _) (by omega)) ⟨b2_b false, h⟩
  · refine kn_f (by decide) (m_hottest hR hn hn1 h1 hw0 (fun y e => ?_))
    simp only [lg_cmp_le, Int64.le_iff_toInt_le]
    rw [e, (by decide : (480 : Int64).toInt = 480)]
    refine ⟨fun a => ⟨b2_b false, ?_⟩, fun a => ⟨b2_b true, ?_⟩⟩
    · have : soF n R c g t 4 = false := decide_eq_false (by omega)
      rw [this] at h
      exact h
    · have : soF n R c g t 4 = true := decide_eq_true (by omega)
      rw [this] at h
      exact h
  · refine kn_t (by decide) (kn_f (by decide) (m_coldest hR hn hn1 h1 hw1 (fun y e => ?_)))
    simp only [lg_cmp_ge, Int64.le_iff_toInt_le]
    rw [e, (by decide : (-240 : Int64).toInt = -240)]
    refine ⟨fun a => ⟨b2_b false, ?_⟩, fun a => ⟨b2_b true, ?_⟩⟩
    · have : soF n R c g t 5 = false := decide_eq_false (by omega)
      rw [this] at h
      exact h
    · have : soF n R c g t 5 = true := decide_eq_true (by omega)
      rw [this] at h
      exact h
  · refine kn_t (by decide) (kn_t (by decide) (kn_f (by decide) ?_))
    simp only [lg_cmp_le, lg_cmp_gt, Int64.le_iff_toInt_le, Int64.lt_iff_toInt_lt]
    have hc' : (ck_gj σ 10 0 13).toInt = c := hc
    have hG' : (ck_gj σ 10 0 23).toInt = g := hG
    have hT' : (ck_gj σ 10 0 24).toInt = t := hT
    have e1 : (8 * ck_gj σ 10 0 13).toInt = 8 * c := by rw [z_mul z_8 (by omega) (by omega), hc']
    have e2 : ((-8) * ck_gj σ 10 0 13).toInt = -8 * c := by rw [z_mul (kz := -8) (by decide) (by omega) (by omega), hc']
    have e3 : (ck_gj σ 10 0 23 + 640).toInt = g + 640 := by rw [fb_addL (by rw [z_640]; omega) (by rw [z_640]; omega), z_640, hG']
    have e4 : (ck_gj σ 10 0 24 + 640).toInt = t + 640 := by rw [fb_addL (by rw [z_640]; omega) (by rw [z_640]; omega), z_640, hT']
    rw [e1, e2, e3, e4]
    refine ⟨fun a => ⟨b2_b true, ?_⟩, fun a => ⟨fun b => ⟨b2_b false, ?_⟩, fun b => ⟨b2_b true, ?_⟩⟩⟩
    · have : soF n R c g t 6 = true := decide_eq_true (by omega)
      rw [this] at h
      exact h
    · have : soF n R c g t 6 = false := decide_eq_false (by omega)
      rw [this] at h
      exact h
    · have : soF n R c g t 6 = true := decide_eq_true (by omega)
      rw [this] at h
      exact h
/-! latch -/
def mLatch (k : Nat) (σ : ck_S) : ck_S := ck_ui (ck_ui σ 10 0 27 (if σ.1 10 0 27 = 0 then (if (σ.1 10 0 26 >>> (nI k &&& 31)) &&& 1 = 0 then 1 else 0) else 1)) 10 0 26 (σ.1 10 0 26 ||| ((1 : Int32) <<< (nI k &&& 31)))
theorem m_latch {k : Nat} {post : ck_S → Prop} (h : post (mLatch k σ)) : sp_X7_latch nc nb σ (nI k) post := by
  unfold sp_X7_latch sp_X7_latch_19 sp_X7_latch_24
  unfold mLatch at h
  refine ⟨fun a => ⟨b2_b true, al_1 (al_1 ?_)⟩, fun a => ⟨fun b => ⟨b2_b false, al_1 (al_1 ?_)⟩, fun b => ⟨b2_b true, al_1 (al_1 ?_)⟩⟩⟩
  · have a : ¬ σ.1 10 0 27 = 0 := a
    rw [if_neg a] at h
    exact h
  · have a : σ.1 10 0 27 = 0 := a
    have b : ¬ (σ.1 10 0 26 >>> (nI k &&& 31)) &&& 1 = 0 := b
    rw [if_pos a, if_neg b] at h
    exact h
  · have a : σ.1 10 0 27 = 0 := a
    have b : (σ.1 10 0 26 >>> (nI k &&& 31)) &&& 1 = 0 := b
    rw [if_pos a, if_pos b] at h
    exact h
def mCnt (s : Bool) (c : Int32) : Int32 := if s = true then (if 255 ≤ c then 255 else c + 1) else 0
def mCause (k : Nat) (s : Bool) (σ : ck_S) : ck_S := if mCnt s (σ.1 19 0 k) < σ.1 10 0 4 then ck_ui σ 19 0 k (mCnt s (σ.1 19 0 k)) else mLatch k (ck_ui σ 19 0 k (mCnt s (σ.1 19 0 k)))
def mCauses (s : Nat → Bool) (σ : ck_S) : Nat → ck_S
  | 0 => σ
  | j + 1 => mCause j (s j) (mCauses s σ j)
/-- what causes and contactors leave alone -/
def Fc (σ τ : ck_S) : Prop := τ.2 = σ.2 ∧ (∀ f, f ≠ 10 → f ≠ 19 → τ.1 f = σ.1 f) ∧ ∀ k, k ≠ 26 → k ≠ 27 → k ≠ 28 → k ≠ 29 → τ.1 10 0 k = σ.1 10 0 k
theorem Fc_refl (σ : ck_S) : Fc σ σ := ⟨rfl, fun _ _ _ => rfl, fun _ _ _ _ _ => rfl⟩
theorem Fc_trans {σ τ υ : ck_S} (h1 : Fc σ τ) (h2 : Fc τ υ) : Fc σ υ := ⟨h2.1.trans h1.1, fun f a b => (h2.2.1 f a b).trans (h1.2.1 f a b), fun k a b c d => (h2.2.2 k a b c d).trans (h1.2.2 k a b c d)⟩
theorem Fc_10 (σ : ck_S) {k : Nat} (hk : k = 26 ∨ k = 27 ∨ k = 28 ∨ k = 29) (v : Int32) : Fc σ (ck_ui σ 10 0 k v) := by
  refine ⟨rfl, fun f a b => ?_, fun q a b c d => ?_⟩
  · funext i j
    simp [ck_ui, ck_up, a]
  · have : q ≠ k := by omega
    simp [ck_ui, ck_up, this]
theorem Fc_19 (σ : ck_S) (k : Nat) (v : Int32) : Fc σ (ck_ui σ 19 0 k v) := by
  refine ⟨rfl, fun f a b => ?_, fun q a b c d => ?_⟩
  · funext i j
    simp [ck_ui, ck_up, b]
  · simp [ck_ui, ck_up]
theorem Fc_latch (k : Nat) (σ : ck_S) : Fc σ (mLatch k σ) := Fc_trans (Fc_10 _ (by omega) _) (Fc_10 _ (by omega) _)
theorem Fc_cause (k : Nat) (s : Bool) (σ : ck_S) : Fc σ (mCause k s σ) := by
  unfold mCause
  split
  · exact Fc_19 _ _ _
  · exact Fc_trans (Fc_19 _ _ _) (Fc_latch _ _)
theorem Fc_causes (s : Nat → Bool) (σ : ck_S) : ∀ j, Fc σ (mCauses s σ j)
  | 0 => Fc_refl σ
  | j + 1 => Fc_trans (Fc_causes s σ j) (Fc_cause _ _ _)
theorem Fc_rp {σ τ : ck_S} (h : Fc σ τ) : rp τ = rp σ := by
  show (τ.1 14 0, τ.1 16 0, τ.1 17 0, τ.1 18 0, τ.2.1 15 0, τ.2.1 13 0) = _
  rw [h.2.1 14 (by decide) (by decide), h.2.1 16 (by decide) (by decide), h.2.1 17 (by decide) (by decide), h.2.1 18 (by decide) (by decide), h.1]
theorem m_causes {n : Nat} (hn : n ≤ 4) (hn1 : 1 ≤ n) (h1 : σ.1 10 0 1 = nI n) (hg : gR n (rp σ)) (hw0 : -800 ≤ (rW (rp σ) 0).toInt) (hw1 : (rW (rp σ) 0).toInt ≤ 1600) {c g t : Int} (hc : (σ.2.1 10 0 13).toInt = c) (hc1 : -16000 ≤ c) (hc2 : c ≤ 16000) (hG : (σ.2.1 10 0 23).toInt = g) (hG1 : 0 ≤ g) (hG2 : g ≤ 19200) (hT : (σ.2.1 10 0 24).toInt = t) (hT1 : 0 ≤ t) (hT2 : t ≤ 19200) {post : ck_S → Prop} (h : post (mCauses (soF n (rp σ) c g t) σ 7)) : sp_X7_causes nc nb σ post := by
  unfold sp_X7_causes
  refine cu_2 7 nI (fun j s => mCauses (soF n (rp σ) c g t) σ j = s) ?_ ?_ 0 (by omega) _ rfl _ rfl
  · rintro j hj s hs K hK
    have F : Fc σ s := hs ▸ Fc_causes _ _ j
    have hv : vp_in (nI j) 7 := vp_in_nI hj (by decide)
    unfold bd_X7_causes_2
    refine kb_f (nI_ge (b := 7) hj (by decide)) ?_
    refine m_isSo hn hn1 ((F.2.2 1 (by decide) (by decide) (by decide) (by decide)).trans h1) (Fc_rp F) hg hw0 hw1 (c := c) (g := g) (t := t) (by rw [F.1]; exact hc) hc1 hc2 (by rw [F.1]; exact hG) hG1 hG2 (by rw [F.1]; exact hT) hT1 hT2 hj ?_
    have nx : ∀ τ, mCauses (soF n (rp σ) c g t) σ (j + 1) = τ → ∀ x, x = nI j + 1 → K τ x := fun τ e x hx => hK τ e x (by rw [hx, nI_succ])
    have fin : ∀ v, v = mCnt (soF n (rp σ) c g t j) (s.1 19 0 j) → sp_X7_causes_51 nc nb post K s (nI j) v (nI j) := by
      intro v hv'
      unfold sp_X7_causes_51 sp_X7_causes_70
      rw [nI_clamp (by omega)]
      refine ⟨hv, al_1 ⟨hv, ?_⟩⟩
      have e1 : ck_gi (ck_ui s 19 0 j v) 19 0 j = v := by simp [ck_gi, ck_ui, ck_up]
      have e2 : ck_gi (ck_ui s 19 0 j v) 10 0 4 = s.1 10 0 4 := rfl
      rw [e1, e2]
      refine ⟨fun a => nx _ ?_, fun a => m_latch (nx _ ?_)⟩
      · rw [mCauses, hs, mCause, ← hv', if_pos a]
      · rw [mCauses, hs, mCause, ← hv', if_neg a]
    rw [nI_clamp (by omega)]
    refine ⟨fun a => ⟨hv, ⟨fun b => fin _ ?_, fun b => ⟨hv, fin _ ?_⟩⟩⟩, fun a => fin _ ?_⟩
    · rw [b2_n] at a
      have b : 255 ≤ s.1 19 0 j := b
      rw [a]
      unfold mCnt
      rw [if_pos rfl, if_pos b]
    · rw [b2_n] at a
      have b : ¬ 255 ≤ s.1 19 0 j := b
      rw [a]
      unfold mCnt
      rw [if_pos rfl, if_neg b]
    · rw [b2_0] at a
      rw [a]
      rfl
  · rintro s hs K
    unfold bd_X7_causes_2
    subst hs
    exact kb_t (by decide) h
/-! the class's watch -/
def cLatch (k : Nat) (σ : ck_S) : ck_S := if (σ.1 3 0 2 >>> (nI k &&& 31)) &&& 1 = 0 then ck_ui (ck_ui σ 3 0 2 (σ.1 3 0 2 ||| ((1 : Int32) <<< (nI k &&& 31)))) 3 0 3 1 else σ
theorem c_latch {k : Nat} (hk : k < 32) {post : ck_S → Prop} (h : post (cLatch k σ)) : sp_X0_latch nc nb σ (nI k) post := by
  unfold sp_X0_latch sp_X0_isLatched
  rw [sh_1 k hk]
  unfold cLatch at h
  refine ⟨fun a => ⟨b2_b false, kn_f rfl (al_1 (al_1 ?_))⟩, fun a => ⟨b2_b true, kn_t (by decide) ?_⟩⟩
  · have a : (σ.1 3 0 2 >>> (nI k &&& 31)) &&& 1 = 0 := a
    rw [if_pos a] at h
    exact h
  · have a : ¬ (σ.1 3 0 2 >>> (nI k &&& 31)) &&& 1 = 0 := a
    rw [if_neg a] at h
    exact h
def cCnt (s : Bool) (c : Int32) : Int32 := if s = true then (if c + 1 < 255 then c + 1 else 255) else 0
def cWatch (k : Nat) (s : Bool) (σ : ck_S) : ck_S := if cCnt s (σ.1 4 0 k) < σ.1 3 0 0 then ck_ui σ 4 0 k (cCnt s (σ.1 4 0 k)) else cLatch k (ck_ui σ 4 0 k (cCnt s (σ.1 4 0 k)))
theorem c_watch {k : Nat} (hk : k < 7) {s : Bool} {x : Int32} (hx : x = b2 s) {post : ck_S → Prop} (h : post (cWatch k s σ)) : sp_X0_watch nc nb σ (nI k) x post := by
  subst hx
  have hv : vp_in (nI k) 7 := vp_in_nI hk (by decide)
  have fin : ∀ v, v = cCnt s (σ.1 4 0 k) → sp_X0_watch_27 nc nb post σ (nI k) v (nI k) := by
    intro v hv'
    unfold sp_X0_watch_27
    rw [nI_clamp (by omega)]
    refine ⟨hv, al_1 ⟨hv, ?_⟩⟩
    have e1 : ck_gi (ck_ui σ 4 0 k v) 4 0 k = v := by simp [ck_gi, ck_ui, ck_up]
    have e2 : ck_gi (ck_ui σ 4 0 k v) 3 0 0 = σ.1 3 0 0 := rfl
    rw [e1, e2]
    unfold cWatch at h
    rw [← hv'] at h
    refine ⟨fun a => ?_, fun a => c_latch (by omega) ?_⟩
    · rw [if_pos a] at h
      exact h
    · rw [if_neg a] at h
      exact h
  unfold sp_X0_watch
  rw [nI_clamp (by omega)]
  refine ⟨fun a => fin _ ?_, fun a => ⟨hv, fin _ ?_⟩⟩
  · rw [b2_0] at a
    rw [a]
    rfl
  · rw [b2_n] at a
    rw [a]
    rfl
def cWatches (s : Nat → Bool) (σ : ck_S) : Nat → ck_S
  | 0 => σ
  | j + 1 => cWatch j (s j) (cWatches s σ j)
/-- what the class's alarms leave alone -/
def Fa (σ τ : ck_S) : Prop := τ.2 = σ.2 ∧ (∀ f, f ≠ 3 → f ≠ 4 → τ.1 f = σ.1 f) ∧ τ.1 3 0 0 = σ.1 3 0 0
theorem Fa_refl (σ : ck_S) : Fa σ σ := ⟨rfl, fun _ _ _ => rfl, rfl⟩
theorem Fa_trans {σ τ υ : ck_S} (h1 : Fa σ τ) (h2 : Fa τ υ) : Fa σ υ := ⟨h2.1.trans h1.1, fun f a b => (h2.2.1 f a b).trans (h1.2.1 f a b), h2.2.2.trans h1.2.2⟩
theorem Fa_3 (σ : ck_S) {k : Nat} (hk : k = 2 ∨ k = 3) (v : Int32) : Fa σ (ck_ui σ 3 0 k v) := by
  refine ⟨rfl, fun f a b => ?_, ?_⟩
  · funext i j
    simp [ck_ui, ck_up, a]
  · have : 0 ≠ k := by omega
    simp [ck_ui, ck_up, this]
theorem Fa_4 (σ : ck_S) (k : Nat) (v : Int32) : Fa σ (ck_ui σ 4 0 k v) := by
  refine ⟨rfl, fun f a b => ?_, ?_⟩
  · funext i j
    simp [ck_ui, ck_up, b]
  · simp [ck_ui, ck_up]
theorem Fa_latch (k : Nat) (σ : ck_S) : Fa σ (cLatch k σ) := by
  unfold cLatch
  split
  · exact Fa_trans (Fa_3 _ (by omega) _) (Fa_3 _ (by omega) _)
  · exact Fa_refl _
theorem Fa_watch (k : Nat) (s : Bool) (σ : ck_S) : Fa σ (cWatch k s σ) := by
  unfold cWatch
  split
  · exact Fa_4 _ _ _
  · exact Fa_trans (Fa_4 _ _ _) (Fa_latch _ _)
theorem Fa_watches (s : Nat → Bool) (σ : ck_S) : ∀ j, Fa σ (cWatches s σ j)
  | 0 => Fa_refl σ
  | j + 1 => Fa_trans (Fa_watches s σ j) (Fa_watch _ _ _)
theorem sMost_iff (R : ck_R) : ∀ N, 4200 < sMost R N ↔ anyB (soP R 2) N = true
  | 0 => by simp [sMost, anyB]
  | N + 1 => by
    have ih := sMost_iff R N
    have e : soP R 2 N = (mV R (N / 6) (N % 6) && decide (4200 < mNo R (N / 6) (N % 6) 0)) := rfl
    rw [anyB, Bool.or_eq_true, ← ih, sMost, e, Bool.and_eq_true, decide_eq_true_eq]
    split <;> grind
theorem sLeast_iff (R : ck_R) : ∀ N, sLeast R N < 2500 ↔ anyB (soP R 3) N = true
  | 0 => by simp [sLeast, anyB]
  | N + 1 => by
    have ih := sLeast_iff R N
    have e : soP R 3 N = (mV R (N / 6) (N % 6) && decide (mNo R (N / 6) (N % 6) 0 < 2500)) := rfl
    rw [anyB, Bool.or_eq_true, ← ih, sLeast, e, Bool.and_eq_true, decide_eq_true_eq]
    split <;> grind
theorem stale_eq (R : ck_R) (n : Nat) : anyB (mSt R) n = anyB (soP R 0) (6 * n) := by
  rw [Bool.eq_iff_iff, anyB_iff, anyB_iff]
  constructor
  · rintro ⟨c, hc, h⟩
    refine ⟨6 * c, by omega, ?_⟩
    show mSt R (6 * c / 6) = true
    rw [show 6 * c / 6 = c by omega, h]
  · rintro ⟨i, hi, h⟩
    exact ⟨i / 6, by omega, h⟩
theorem c_watchCauses (hS : SVp nc (6 * nc) σ R) (hD : SVd nc σ R) {c g t : Int} (hc : ck_dq (σ.2.2 0 0 12) c 3) (hc1 : -16000 ≤ c) (hc2 : c ≤ 16000) (hG : ck_dq (σ.2.2 0 0 15) g 6) (hG1 : 0 ≤ g) (hG2 : g ≤ 19200) (hT : ck_dq (σ.2.2 0 0 16) t 6) (hT1 : 0 ≤ t) (hT2 : t ≤ 19200) {post : ck_S → Prop} (h : post (cWatches (soF nc R c g t) (ck_ui σ 3 0 3 0) 7)) : sp_X6_watchCauses nc nb σ post := by
  have q0 : soF nc R c g t 0 = anyB (soP R 0) (6 * nc) := rfl
  have q1 : soF nc R c g t 1 = anyB (mInv R) (6 * nc) := rfl
  have q2 : soF nc R c g t 2 = anyB (soP R 2) (6 * nc) := rfl
  have q3 : soF nc R c g t 3 = anyB (soP R 3) (6 * nc) := rfl
  have q4 : soF nc R c g t 4 = decide (480 < mHot R nc) := rfl
  have q5 : soF nc R c g t 5 = decide (mCold R nc < -240) := rfl
  have q6 : soF nc R c g t 6 = decide (g + 640 < 8 * c ∨ t + 640 < -8 * c) := rfl
  generalize soF nc R c g t = s at h q0 q1 q2 q3 q4 q5 q6
  simp only [cWatches] at h
  have e2 : ∀ τ, Fa σ τ → ∀ k, ck_gi τ 2 0 k = σ.1 2 0 k := fun τ F k => by
    show τ.1 2 0 k = _
    rw [F.2.1 2 (by decide) (by decide)]
  have eD : ∀ τ, Fa σ τ → ∀ f k, ck_gd τ f 0 k = σ.2.2 f 0 k := fun τ F f k => by
    show τ.2.2 f 0 k = _
    rw [F.1]
  have t6 : ∀ τ, Fa σ τ → post (cWatch 6 (s 6) (cWatch 5 (s 5) τ)) → ∀ x, x = b2 (s 5) → sp_X6_watchCauses_141 nc nb post τ x (nI 5) := by
    intro τ F hp x hx
    unfold sp_X6_watchCauses_141 sp_X6_watchCauses_183
    refine c_watch (k := 5) (s := s 5) (by omega) hx ?_
    have F2 : Fa σ (cWatch 5 (s 5) τ) := Fa_trans F (Fa_watch _ _ _)
    generalize cWatch 5 (s 5) τ = υ at hp F2
    simp only [eD υ F2]
    have d1 := ck_dadd hG (ck_dq_up 6 kd_10) (by omega) (by decide)
    have d2 := ck_dadd hT (ck_dq_up 6 kd_10) (by omega) (by decide)
    have d3 := ck_dq_up 3 hc
    have d4 := ck_dq_up 3 (ck_dneg hc)
    rw [ck_dcmp d3 d1 (by decide), ck_dcmp d4 d2 (by decide)]
    simp only [cv_gt, cv_le]
    have fin : ∀ x, x = b2 (s 6) → sp_X0_watch nc nb υ (nI 6) x (fun σ7 => post σ7) := fun x hx => c_watch (k := 6) (s := s 6) (by omega) hx hp
    refine ⟨ck_dq_n64 d1, ⟨fun a => fin _ ?_, fun a => ⟨ck_dq_n64 d2, ⟨fun b => fin _ ?_, fun b => fin _ ?_⟩⟩⟩⟩
    · rw [q6, decide_eq_true (by omega)]
      rfl
    · rw [q6, decide_eq_false (by omega)]
      rfl
    · rw [q6, decide_eq_true (by omega)]
      rfl
  have t5 : ∀ τ, Fa σ τ → post (cWatch 6 (s 6) (cWatch 5 (s 5) (cWatch 4 (s 4) τ))) → ∀ x, x = b2 (s 4) → sp_X6_watchCauses_114 nc nb post τ x (nI 4) := by
    intro τ F hp x hx
    unfold sp_X6_watchCauses_114
    refine c_watch (k := 4) (s := s 4) (by omega) hx ?_
    have F2 : Fa σ (cWatch 4 (s 4) τ) := Fa_trans F (Fa_watch _ _ _)
    generalize cWatch 4 (s 4) τ = υ at hp F2
    simp only [eD υ F2]
    rw [ck_dcmp hD.2 (ck_dq_up 3 kd_m30) (by decide)]
    simp only [cv_ge]
    refine ⟨fun a => t6 υ F2 hp _ ?_, fun a => t6 υ F2 hp _ ?_⟩
    · rw [q5, decide_eq_false (by omega)]
      rfl
    · rw [q5, decide_eq_true (by omega)]
      rfl
  have t4 : ∀ τ, Fa σ τ → post (cWatch 6 (s 6) (cWatch 5 (s 5) (cWatch 4 (s 4) (cWatch 3 (s 3) τ)))) → ∀ x, x = b2 (s 3) → sp_X6_watchCauses_87 nc nb post τ x (nI 3) := by
    intro τ F hp x hx
    unfold sp_X6_watchCauses_87
    refine c_watch (k := 3) (s := s 3) (by omega) hx ?_
    have F2 : Fa σ (cWatch 3 (s 3) τ) := Fa_trans F (Fa_watch _ _ _)
    generalize cWatch 3 (s 3) τ = υ at hp F2
    simp only [eD υ F2]
    rw [ck_dcmp hD.1 (ck_dq_up 3 kd_60) (by decide)]
    simp only [cv_le]
    refine ⟨fun a => t5 υ F2 hp _ ?_, fun a => t5 υ F2 hp _ ?_⟩
    · rw [q4, decide_eq_false (by omega)]
      rfl
    · rw [q4, decide_eq_true (by omega)]
      rfl
  obtain ⟨s0, s1, s2, s3, s4⟩ := hS
  have t3 : ∀ τ, Fa σ τ → post (cWatch 6 (s 6) (cWatch 5 (s 5) (cWatch 4 (s 4) (cWatch 3 (s 3) (cWatch 2 (s 2) τ))))) → ∀ x, x = b2 (s 2) → sp_X6_watchCauses_61 nc nb post τ x (nI 2) := by
    intro τ F hp x hx
    unfold sp_X6_watchCauses_61
    refine c_watch (k := 2) (s := s 2) (by omega) hx ?_
    have F2 : Fa σ (cWatch 2 (s 2) τ) := Fa_trans F (Fa_watch _ _ _)
    generalize cWatch 2 (s 2) τ = υ at hp F2
    simp only [e2 υ F2]
    rw [s3]
    have i := sLeast_iff R (6 * nc)
    refine ⟨fun a => t4 υ F2 hp _ ?_, fun a => t4 υ F2 hp _ ?_⟩
    · have : anyB (soP R 3) (6 * nc) = false := by rw [← Bool.not_eq_true, ← i]; grind
      rw [q3, this]
      rfl
    · have : anyB (soP R 3) (6 * nc) = true := by rw [← i]; grind
      rw [q3, this]
      rfl
  unfold sp_X6_watchCauses
  refine al_1 ?_
  have F0 : Fa σ (ck_ui σ 3 0 3 0) := Fa_3 _ (by omega) _
  generalize ck_ui σ 3 0 3 0 = τ at h F0
  simp only [e2 τ F0]
  refine c_watch (k := 0) (s := s 0) (by omega) ?_ ?_
  · rw [s0, q0, stale_eq]
  have F1 : Fa σ (cWatch 0 (s 0) τ) := Fa_trans F0 (Fa_watch _ _ _)
  generalize cWatch 0 (s 0) τ = τ1 at h F1
  simp only [e2 τ1 F1]
  refine c_watch (k := 1) (s := s 1) (by omega) ?_ ?_
  · rw [s1, q1]
  have F2 : Fa σ (cWatch 1 (s 1) τ1) := Fa_trans F1 (Fa_watch _ _ _)
  generalize cWatch 1 (s 1) τ1 = τ2 at h F2
  simp only [e2 τ2 F2]
  rw [s4]
  have i := sMost_iff R (6 * nc)
  refine ⟨fun a => t3 τ2 F2 h _ ?_, fun a => t3 τ2 F2 h _ ?_⟩
  · have : anyB (soP R 2) (6 * nc) = false := by rw [← Bool.not_eq_true, ← i]; grind
    rw [q2, this]
    rfl
  · have : anyB (soP R 2) (6 * nc) = true := by rw [← i]; grind
    rw [q2, this]
    rfl
end PURE
