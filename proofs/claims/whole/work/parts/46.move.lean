/-! moveCharge, tellAllowed of the class; allow of the reference. -/
def qcZ (q c cap : Int) : Int := if q - 1024 * c < 0 then 0 else if 8192 * cap < q - 1024 * c then 8192 * cap else q - 1024 * c
def szZ (c : Int) : Int := if c < 0 then -c else c
def tZ (t c : Int) : Int := if t + szZ c < 80000 then t + szZ c else t + szZ c - 80000
def rI (r : Int32) (c : Int) : Int32 := if szZ c < 4 then r + 1 else 0
def qrZ (n : Nat) (R : ck_R) (r : Int32) (cap q : Int) : Int := if r < 60 then q else if anyB (mBad R) (6 * n) = true then q else 8 * cap * (toldF (mSum R (6 * n) / nI (6 * n))).toInt
theorem bad_eq (R : ck_R) (n : Nat) : anyB (mBad R) (6 * n) = (anyB (mSt R) n || anyB (mInv R) (6 * n)) := by
  rw [Bool.eq_iff_iff, Bool.or_eq_true, anyB_iff, anyB_iff, anyB_iff]
  constructor
  · rintro ⟨i, hi, h⟩
    rcases hs : mSt R (i / 6) with _ | _
    · refine Or.inr ⟨i, hi, ?_⟩
      unfold mInv
      rw [hs]
      exact h
    · exact Or.inl ⟨i / 6, by omega, hs⟩
  · rintro (⟨c, hc, h⟩ | ⟨i, hi, h⟩)
    · refine ⟨6 * c, by omega, ?_⟩
      unfold mBad mV
      rw [show 6 * c / 6 = c by omega, h]
      rfl
    · refine ⟨i, hi, ?_⟩
      unfold mInv at h
      unfold mBad
      rw [Bool.and_eq_true] at h
      exact h.2
section PURE
variable {nc nb : Nat} {σ : ck_S} {R : ck_R}
theorem c_allValid (hS : SVp nc (6 * nc) σ R) {post : Int32 → ck_S → Prop} (h : post (b2 (!anyB (mBad R) (6 * nc))) σ) : sp_X5_allValid nc nb σ post := by
  obtain ⟨s0, s1, -⟩ := hS
  have s0 : ck_gi σ 2 0 0 = _ := s0
  have s1 : ck_gi σ 2 0 1 = _ := s1
  unfold sp_X5_allValid
  rw [s0, s1, b2_0, b2_0]
  rw [bad_eq] at h
  refine ⟨fun a => ⟨b2_b false, ?_⟩, fun a => ⟨fun b => ⟨b2_b false, ?_⟩, fun b => ⟨b2_b true, ?_⟩⟩⟩
  · rw [Bool.not_eq_false] at a
    rw [a] at h
    exact h
  · rw [Bool.not_eq_false] at b
    rw [b, Bool.or_true] at h
    exact h
  · rw [a, b] at h
    exact h
theorem c_currentSize {c : Int} (hd : ck_dq (σ.2.2 0 0 12) c 3) {post : UInt64 → ck_S → Prop} (h : ∀ z, ck_dq z (szZ c) 3 → post z σ) : sp_X6_currentSize nc nb σ post := by
  unfold sp_X6_currentSize
  have hd : ck_dq (ck_gd σ 0 0 12) c 3 := hd
  rw [ck_dcmp hd (ck_dq_up 3 kd_0) (by decide)]
  simp only [cv_ge]
  refine ⟨fun a => h _ ?_, fun a => h _ ?_⟩
  · unfold szZ
    rw [if_neg (by omega)]
    exact hd
  · unfold szZ
    rw [if_pos (by omega)]
    exact ck_dneg hd
theorem c_m110 (hn : nc ≤ 4) (hn1 : 1 ≤ nc) (hS : SVp nc (6 * nc) σ R) {cap q : Int} (hcap : (σ.1 0 0 1).toInt = cap) (hc1 : 100 ≤ cap) (hc2 : cap ≤ 400000) (hq : ck_dq (σ.2.2 0 0 9) q 13) {r : Int32} {post : ck_S → Prop} (h : ∀ zq, ck_dq zq (qrZ nc R r cap q) 13 → post (ck_ui (ck_ud σ 0 0 9 zq) 0 0 11 r)) : sp_X6_moveCharge_110 nc nb post σ r := by
  unfold sp_X6_moveCharge_110
  have self : ck_ud σ 0 0 9 (σ.2.2 0 0 9) = σ := by
    unfold ck_ud ck_up
    ext <;> grind
  refine al_1 ⟨fun a => ?_, fun a => ?_⟩
  · have a : r < 60 := a
    have := h (σ.2.2 0 0 9) (by unfold qrZ; rw [if_pos a]; exact hq)
    rwa [self] at this
  · have a : ¬ r < 60 := a
    refine c_allValid (σ := ck_ui σ 0 0 11 r) (R := R) hS ?_
    rw [b2_0]
    refine ⟨fun b => ?_, fun b => ?_⟩
    · have := h (σ.2.2 0 0 9) (by unfold qrZ; rw [if_neg a, if_pos (by simpa using b)]; exact hq)
      rwa [self] at this
    · have en : (if (1 : Int32) < nI nc then nI nc else 1) = nI nc := by
        by_cases e : nc = 1
        · subst e; rfl
        · rw [if_pos (show (1 : Int32) < nI nc from nI_lt (a := 1) (b := nc) (by omega) (by omega))]
      rw [en, show (6 : Int32) * nI nc = nI (6 * nc) from pk_mul 6 nc]
      refine ⟨nI_ne0 (by omega) (by omega), al_1 (c_partsAtRest ?_)⟩
      have e2 : ck_gi (ck_ui σ 0 0 11 r) 2 0 2 = mSum R (6 * nc) := hS.2.2.1
      rw [e2]
      have tb := told_b (mSum R (6 * nc) / nI (6 * nc))
      generalize hT : toldF (mSum R (6 * nc) / nI (6 * nc)) = T at tb ⊢
      have ecap : (ck_gi (ck_ui σ 0 0 11 r) 0 0 1).toInt = cap := hcap
      have d1 := ck_i2d (ck_gi (ck_ui σ 0 0 11 r) 0 0 1)
      rw [ecap] at d1
      have b1 : 0 ≤ cap * T.toInt := Int.mul_nonneg (by omega) tb.1
      have b2 : cap * T.toInt ≤ cap * 1024 := Int.mul_le_mul_of_nonneg_left tb.2 (by omega)
      have dm := ck_dmul d1 (ck_i2d T) (by omega) (by decide)
      have dd := ck_ddiv2 (T := 10) dm kd_1024 (by omega) (by decide)
      refine ⟨ck_dq_n64 dm, ck_dq_n64 dd, al_1 ?_⟩
      have := h _ (by
        have := ck_dq_up 3 dd
        unfold qrZ
        rw [if_neg a, if_neg (by simpa using b), hT]
        rw [show 8 * cap * T.toInt = cap * T.toInt * ((2 ^ 3 : Nat) : Int) by rw [Int.mul_assoc]; omega]
        exact this)
      exact this
theorem c_m88 (hn : nc ≤ 4) (hn1 : 1 ≤ nc) (hS : SVp nc (6 * nc) σ R) {cap q c : Int} (hcap : (σ.1 0 0 1).toInt = cap) (hc1 : 100 ≤ cap) (hc2 : cap ≤ 400000) (hq : ck_dq (σ.2.2 0 0 9) q 13) (ha : ck_dq (σ.2.2 0 0 12) c 3) {post : ck_S → Prop} (h : ∀ zq, ck_dq zq (qrZ nc R (rI (σ.1 0 0 11) c) cap q) 13 → post (ck_ui (ck_ud σ 0 0 9 zq) 0 0 11 (rI (σ.1 0 0 11) c))) : sp_X6_moveCharge_88 nc nb post σ := by
  unfold sp_X6_moveCharge_88
  refine c_currentSize ha (fun z hz => ?_)
  rw [ck_dcmp hz (ck_dq_up 2 kd_half) (by decide)]
  simp only [cv_ge]
  refine ⟨fun a => ?_, fun a => ?_⟩
  · have e : rI (σ.1 0 0 11) c = 0 := by unfold rI; rw [if_neg (by omega)]
    rw [e] at h
    exact c_m110 hn hn1 hS hcap hc1 hc2 hq h
  · have e : rI (σ.1 0 0 11) c = σ.1 0 0 11 + 1 := by unfold rI; rw [if_pos (by omega)]
    rw [e] at h
    exact c_m110 hn hn1 hS hcap hc1 hc2 hq h
theorem c_m52 (hn : nc ≤ 4) (hn1 : 1 ≤ nc) (hS : SVp nc (6 * nc) σ R) {cap q c t : Int} (hcap : (σ.1 0 0 1).toInt = cap) (hc1 : 100 ≤ cap) (hc2 : cap ≤ 400000) (hq : ck_dq (σ.2.2 0 0 9) q 13) (ha : ck_dq (σ.2.2 0 0 12) c 3) (ha1 : -16000 ≤ c) (ha2 : c ≤ 16000) (ht : ck_dq (σ.2.2 0 0 10) t 3) (ht0 : 0 ≤ t) (ht1 : t < 80000) {post : ck_S → Prop} (h : ∀ zq zt, ck_dq zq (qrZ nc R (rI (σ.1 0 0 11) c) cap q) 13 → ck_dq zt (tZ t c) 3 → post (ck_ui (ck_ud (ck_ud σ 0 0 10 zt) 0 0 9 zq) 0 0 11 (rI (σ.1 0 0 11) c))) : sp_X6_moveCharge_52 nc nb post σ := by
  unfold sp_X6_moveCharge_52
  have bs : 0 ≤ szZ c ∧ szZ c ≤ 16000 := by unfold szZ; split <;> omega
  refine c_currentSize ha (fun z hz => ?_)
  have ht' : ck_dq (ck_gd σ 0 0 10) t 3 := ht
  have da := ck_dadd ht' hz (by omega) (by decide)
  refine ⟨ck_dq_n64 da, al_1 ?_⟩
  have e : ∀ w, ck_gd (ck_ud σ 0 0 10 w) 0 0 10 = w := fun w => rfl
  rw [e, ck_dcmp da (ck_dq_up 3 kd_10000) (by decide)]
  simp only [cv_lt]
  refine ⟨fun a => ?_, fun a => ?_⟩
  · exact c_m88 (σ := ck_ud σ 0 0 10 _) hn hn1 hS hcap hc1 hc2 hq ha (fun zq hzq => h zq _ hzq (by unfold tZ; rw [if_pos (by omega)]; exact da))
  · have ds := ck_dsub da (ck_dq_up 3 kd_10000) (by omega) (by decide)
    refine ⟨ck_dq_n64 ds, al_1 ?_⟩
    have e2 : ∀ w v : UInt64, ck_ud (ck_ud σ 0 0 10 w) 0 0 10 v = ck_ud σ 0 0 10 v := by
      intro w v
      unfold ck_ud ck_up
      ext <;> grind
    rw [e2]
    exact c_m88 (σ := ck_ud σ 0 0 10 _) hn hn1 hS hcap hc1 hc2 hq ha (fun zq hzq => h zq _ hzq (by
      unfold tZ
      rw [if_neg (by omega), show t + szZ c - 80000 = t + szZ c - 10000 * ((2 ^ 3 : Nat) : Int) by omega]
      exact ds))
theorem c_move (hn : nc ≤ 4) (hn1 : 1 ≤ nc) (hS : SVp nc (6 * nc) σ R) {cap q c t : Int} (hcap : (σ.1 0 0 1).toInt = cap) (hc1 : 100 ≤ cap) (hc2 : cap ≤ 400000) (hq : ck_dq (σ.2.2 0 0 9) q 13) (hq0 : 0 ≤ q) (hq1 : q ≤ 8192 * cap) (ha : ck_dq (σ.2.2 0 0 12) c 3) (ha1 : -16000 ≤ c) (ha2 : c ≤ 16000) (ht : ck_dq (σ.2.2 0 0 10) t 3) (ht0 : 0 ≤ t) (ht1 : t < 80000) {post : ck_S → Prop} (h : ∀ zq zt, ck_dq zq (qrZ nc R (rI (σ.1 0 0 11) c) cap (qcZ q c cap)) 13 → ck_dq zt (tZ t c) 3 → post (ck_ui (ck_ud (ck_ud σ 0 0 10 zt) 0 0 9 zq) 0 0 11 (rI (σ.1 0 0 11) c))) : sp_X6_moveCharge nc nb σ post := by
  unfold sp_X6_moveCharge
  have hq' : ck_dq (ck_gd σ 0 0 9) q 13 := hq
  have ha' : ck_dq (ck_gd σ 0 0 12) c 3 := ha
  have ds := ck_dsub hq' (ck_dq_up 10 ha') (by omega) (by decide)
  have ec : ck_dq (FP.i2d (ck_gi σ 0 0 1)) cap 0 := by
    have := ck_i2d (ck_gi σ 0 0 1)
    rwa [show (ck_gi σ 0 0 1).toInt = cap from hcap] at this
  have e2 : ∀ w v : UInt64, ck_ud (ck_ud σ 0 0 9 w) 0 0 9 v = ck_ud σ 0 0 9 v := by
    intro w v
    unfold ck_ud ck_up
    ext <;> grind
  have e3 : ∀ w v u : UInt64, ck_ud (ck_ud (ck_ud σ 0 0 9 w) 0 0 10 v) 0 0 9 u = ck_ud (ck_ud σ 0 0 10 v) 0 0 9 u := by
    intro w v u
    unfold ck_ud ck_up
    ext <;> grind
  have tail : ∀ z, ck_dq z (qcZ q c cap) 13 → sp_X6_moveCharge_52 nc nb post (ck_ud σ 0 0 9 z) := by
    intro z hz
    refine c_m52 (σ := ck_ud σ 0 0 9 z) hn hn1 hS hcap hc1 hc2 hz ha ha1 ha2 ht ht0 ht1 (fun zq zt q1 q2 => ?_)
    rw [e3]
    exact h zq zt q1 q2
  refine ⟨ck_dq_n64 ds, al_1 ?_⟩
  have e1 : ∀ w, ck_gd (ck_ud σ 0 0 9 w) 0 0 9 = w := fun w => rfl
  have e4 : ∀ w, ck_gi (ck_ud σ 0 0 9 w) 0 0 1 = ck_gi σ 0 0 1 := fun w => rfl
  rw [e1, e4, ck_dcmp ds (ck_dq_up 13 kd_0) (by decide), ck_dcmp ds (ck_dq_up 13 ec) (by decide)]
  simp only [cv_ge, cv_le]
  refine ⟨fun a => ⟨fun b => tail _ ?_, fun b => al_1 ?_⟩, fun a => al_1 ?_⟩
  · unfold qcZ
    rw [if_neg (by omega), if_neg (by omega), show q - 1024 * c = q - c * ((2 ^ 10 : Nat) : Int) by omega]
    exact ds
  · rw [e2]
    refine tail _ ?_
    unfold qcZ
    rw [if_neg (by omega), if_pos (by omega), show 8192 * cap = cap * ((2 ^ 13 : Nat) : Int) by omega]
    exact ck_dq_up 13 ec
  · rw [e2]
    refine tail _ ?_
    unfold qcZ
    rw [if_pos (by omega)]
    exact ck_dq_up 13 kd_0
/-! shares -/
def hotZ (h : Int) : Int := if h ≤ 360 then 64 else if 488 ≤ h then 0 else (488 - h) / 2
def coldZ (c : Int) : Int := if 80 ≤ c then 64 else if c ≤ -176 then 0 else (c + 176) / 4
def fullZ (q cap : Int) : Int := if 8192 * cap ≤ 8 * q then 64 else 512 * q / (8192 * cap)
theorem full_b {q cap : Int} (h0 : 0 ≤ q) (hc : 100 ≤ cap) : 0 ≤ fullZ q cap ∧ fullZ q cap ≤ 64 := by
  unfold fullZ
  split
  · omega
  · have h1 : 0 ≤ 512 * q / (8192 * cap) := Int.ediv_nonneg (by omega) (by omega)
    have h2 : 512 * q / (8192 * cap) < 65 := Int.ediv_lt_of_lt_mul (by omega) (by omega)
    omega
theorem c_heat {z : UInt64} {hh : Int} (hz : ck_dq z hh 3) (h1 : -800 ≤ hh) (h2 : hh ≤ 1600) {post : Int32 → ck_S → Prop} (h : ∀ x : Int32, x.toInt = hotZ hh → post x σ) : sp_X6_heatShare nc nb σ z post := by
  unfold sp_X6_heatShare
  rw [ck_dcmp hz (ck_dq_up 3 kd_45) (by decide), ck_dcmp hz (ck_dq_up 3 kd_61) (by decide)]
  simp only [cv_gt, cv_lt]
  refine ⟨fun a => ⟨fun b => ?_, fun b => h _ ?_⟩, fun a => h _ ?_⟩
  · have d1 := ck_dsub hz (ck_dq_up 3 kd_45) (by omega) (by decide)
    have d2 := ck_dmul kd_4 d1 (by omega) (by decide)
    have d3 := ck_dsub (ck_dq_up 3 kd_64) d2 (by omega) (by decide)
    refine ⟨ck_dq_n64 d1, ck_dq_n64 d2, ck_dq_n64 d3, h _ ?_⟩
    have e : (64 * ((2 ^ 3 : Nat) : Int) - 4 * (hh - 45 * ((2 ^ 3 : Nat) : Int))).tdiv ((2 ^ (0 + 3) : Nat) : Int) = (488 - hh) / 2 := by
      rw [Int.tdiv_eq_ediv_of_nonneg (by omega)]
      omega
    rw [ck_d2i d3 (by rw [e]; omega) (by rw [e]; omega), e, fb_ofI (by omega) (by omega)]
    unfold hotZ
    rw [if_neg (by omega), if_neg (by omega)]
  · unfold hotZ
    rw [if_neg (by omega), if_pos (by omega)]
    rfl
  · unfold hotZ
    rw [if_pos (by omega)]
    rfl
theorem c_cold {z : UInt64} {hh : Int} (hz : ck_dq z hh 3) (h1 : -800 ≤ hh) (h2 : hh ≤ 1600) {post : Int32 → ck_S → Prop} (h : ∀ x : Int32, x.toInt = coldZ hh → post x σ) : sp_X6_coldShare nc nb σ z post := by
  unfold sp_X6_coldShare
  rw [ck_dcmp hz (ck_dq_up 3 kd_10) (by decide), ck_dcmp hz (ck_dq_up 3 kd_m22) (by decide)]
  simp only [cv_gt, cv_lt]
  refine ⟨fun a => ⟨fun b => ?_, fun b => h _ ?_⟩, fun a => h _ ?_⟩
  · have d1 := ck_dadd hz (ck_dq_up 3 kd_22) (by omega) (by decide)
    have d2 := ck_dmul kd_2 d1 (by omega) (by decide)
    refine ⟨ck_dq_n64 d1, ck_dq_n64 d2, h _ ?_⟩
    have e : (2 * (hh + 22 * ((2 ^ 3 : Nat) : Int))).tdiv ((2 ^ (0 + 3) : Nat) : Int) = (hh + 176) / 4 := by
      rw [Int.tdiv_eq_ediv_of_nonneg (by omega)]
      omega
    rw [ck_d2i d2 (by rw [e]; omega) (by rw [e]; omega), e, fb_ofI (by omega) (by omega)]
    unfold coldZ
    rw [if_neg (by omega), if_neg (by omega)]
  · unfold coldZ
    rw [if_neg (by omega), if_pos (by omega)]
    rfl
  · unfold coldZ
    rw [if_pos (by omega)]
    rfl
theorem c_whole {z : UInt64} {p cap : Int} (hz : ck_dq z p 13) (hp : 0 ≤ p) (hp2 : p ≤ 2000000000000) (hcap : (σ.1 0 0 1).toInt = cap) (hc1 : 100 ≤ cap) (hc2 : cap ≤ 400000) (hf : p / (8192 * cap) ≤ 1000) {post : Int32 → ck_S → Prop} (h : ∀ x : Int32, x.toInt = p / (8192 * cap) → post x σ) : sp_X6_wholeCapacities nc nb σ z post := by
  unfold sp_X6_wholeCapacities
  have ec : ck_dq (FP.i2d (ck_gi σ 0 0 1)) cap 0 := by
    have := ck_i2d (ck_gi σ 0 0 1)
    rwa [show (ck_gi σ 0 0 1).toInt = cap from hcap] at this
  obtain ⟨P, rfl⟩ := Int.eq_ofNat_of_zero_le hp
  obtain ⟨C, rfl⟩ := Int.eq_ofNat_of_zero_le (by omega : 0 ≤ cap)
  have eF : (P : Int) / (8192 * (C : Int)) = ((P / (C * 2 ^ 13) : Nat) : Int) := by
    rw [show (8192 * (C : Int)) = ((C * 2 ^ 13 : Nat) : Int) by omega]
    exact (Int.natCast_ediv _ _).symm
  rw [eF] at hf h
  have hC : 0 < C * 2 ^ 13 := by omega
  obtain ⟨n1, k, ek, hk⟩ := ck_floor hz ec (by omega) (by omega)
  generalize hF : P / (C * 2 ^ 13) = F at hf h hk
  have hlo : F * (C * 2 ^ 13) ≤ P := by rw [← hF]; exact Nat.div_mul_le_self _ _
  have hhi : P < (F + 1) * (C * 2 ^ 13) := by
    rw [← hF, Nat.mul_comm]
    exact Nat.lt_mul_div_succ P hC
  refine ⟨n1, al_1 ?_⟩
  rw [ek]
  have kb : k ≤ 1001 := by omega
  have kC : k * C ≤ 1001 * C := Nat.mul_le_mul_right _ kb
  have dk := ck_i2d (nI k)
  rw [nI_toInt (by omega)] at dk
  have dm := ck_dmul dk ec (by rw [← Int.natCast_mul, Int.natAbs_natCast]; omega) (by decide)
  refine ⟨ck_dq_n64 dm, ?_⟩
  rw [ck_dcmp (ck_dq_up 13 dm) hz (by decide)]
  simp only [cv_le]
  have ekc : (k : Int) * (C : Int) * ((2 ^ 13 : Nat) : Int) = ((k * (C * 2 ^ 13) : Nat) : Int) := by
    rw [← Int.natCast_mul, ← Int.natCast_mul, Nat.mul_assoc]
  rw [ekc]
  rcases hk with rfl | rfl
  · refine kb_t (by omega) (h _ ?_)
    exact nI_toInt (by omega)
  · refine kb_f (by omega) (h _ ?_)
    rw [nI_pred]
    exact nI_toInt (by omega)
theorem c_chargeShare {z : UInt64} {q cap : Int} (hz : ck_dq z q 13) (hq : 0 ≤ q) (hq2 : q ≤ 8192 * cap) (hcap : (σ.1 0 0 1).toInt = cap) (hc1 : 100 ≤ cap) (hc2 : cap ≤ 400000) {post : Int32 → ck_S → Prop} (h : ∀ x : Int32, x.toInt = fullZ q cap → post x σ) : sp_X6_chargeShare nc nb σ z post := by
  unfold sp_X6_chargeShare
  have ec : ck_dq (FP.i2d (ck_gi σ 0 0 1)) cap 0 := by
    have := ck_i2d (ck_gi σ 0 0 1)
    rwa [show (ck_gi σ 0 0 1).toInt = cap from hcap] at this
  have d1 := ck_dmul kd_8 hz (by omega) (by decide)
  refine ⟨ck_dq_n64 d1, ?_⟩
  rw [ck_dcmp d1 (ck_dq_up 13 ec) (by decide)]
  simp only [cv_lt]
  have fb := full_b hq hc1
  unfold fullZ at h fb
  refine ⟨fun a => ?_, fun a => h _ ?_⟩
  · have d2 := ck_dmul kd_512 hz (by omega) (by decide)
    rw [if_neg (by omega)] at h fb
    exact ⟨ck_dq_n64 d2, c_whole d2 (by omega) (by omega) hcap hc1 hc2 (by omega) h⟩
  · rw [if_pos (by omega)]
    rfl
theorem min_I (x y : Int32) : (if x < y then x else y).toInt = min x.toInt y.toInt := by
  by_cases h : x < y
  · rw [if_pos h]
    have := Int32.lt_iff_toInt_lt.mp h
    omega
  · rw [if_neg h]
    have : ¬ x.toInt < y.toInt := fun q => h (Int32.lt_iff_toInt_lt.mpr q)
    omega
theorem hot_b (h : Int) : 0 ≤ hotZ h ∧ hotZ h ≤ 64 := by unfold hotZ; omega
theorem cold_b (h : Int) : 0 ≤ coldZ h ∧ coldZ h ≤ 64 := by unfold coldZ; omega
theorem c_tell {q cap hh cc : Int} (hz : ck_dq (σ.2.2 0 0 9) q 13) (hq : 0 ≤ q) (hq2 : q ≤ 8192 * cap) (hcap : (σ.1 0 0 1).toInt = cap) (hc1 : 100 ≤ cap) (hc2 : cap ≤ 400000) (hd : ck_dq (σ.2.2 2 0 5) hh 3) (hd1 : -800 ≤ hh) (hd2 : hh ≤ 1600) (he : ck_dq (σ.2.2 2 0 6) cc 3) (he1 : -800 ≤ cc) (he2 : cc ≤ 1600) {post : ck_S → Prop} (h : ∀ zg zt, ck_dq zg (300 * min (min (hotZ hh) (coldZ cc)) (fullZ q cap)) 6 → ck_dq zt (150 * min (min (hotZ hh) (coldZ cc)) (fullZ (8192 * cap - q) cap)) 6 → post (ck_ud (ck_ud σ 0 0 15 zg) 0 0 16 zt)) : sp_X6_tellAllowed nc nb σ post := by
  unfold sp_X6_tellAllowed
  refine c_heat hd hd1 hd2 (fun x1 e1 => c_cold he he1 he2 (fun x2 e2 => al_1 (c_chargeShare hz hq hq2 hcap hc1 hc2 (fun x3 e3 => ?_))))
  have hb := hot_b hh
  have cb := cold_b cc
  have f1 := full_b hq hc1
  have f2 := full_b (q := 8192 * cap - q) (by omega) hc1
  have em : ∀ (x : Int32) (F : Int), x.toInt = F → (if x < (if x2 < x1 then x2 else x1) then x else (if x2 < x1 then x2 else x1)).toInt = min (min (hotZ hh) (coldZ cc)) F := by
    intro x F hx
    rw [min_I, min_I, hx, e1, e2]
    omega
  have dm : ∀ (x : Int32) (F : Int), x.toInt = F → ck_dq (FP.i2d (if x < (if x2 < x1 then x2 else x1) then x else (if x2 < x1 then x2 else x1))) (min (min (hotZ hh) (coldZ cc)) F) 0 := by
    intro x F hx
    have := ck_i2d (if x < (if x2 < x1 then x2 else x1) then x else (if x2 < x1 then x2 else x1))
    rwa [em x F hx] at this
  have d1 := ck_dmul kd_300 (dm x3 _ e3) (by omega) (by decide)
  have d2 := ck_ddiv2 (T := 6) d1 kd_64 (by omega) (by decide)
  refine ⟨ck_dq_n64 d1, ck_dq_n64 d2, al_1 ?_⟩
  have ec : ∀ z, ck_dq (FP.i2d (ck_gi (ck_ud σ 0 0 15 z) 0 0 1)) cap 0 := by
    intro z
    have := ck_i2d (ck_gi σ 0 0 1)
    rwa [show (ck_gi σ 0 0 1).toInt = cap from hcap] at this
  have hz' : ∀ z, ck_dq (ck_gd (ck_ud σ 0 0 15 z) 0 0 9) q 13 := fun z => hz
  generalize FP.ddiv (FP.dmul 4643985272004935680 (FP.i2d (if x3 < (if x2 < x1 then x2 else x1) then x3 else (if x2 < x1 then x2 else x1)))) 4634204016564240384 = zg at d2 ⊢
  have ds := ck_dsub (ck_dq_up 13 (ec zg)) (hz' zg) (by omega) (by decide)
  refine ⟨ck_dq_n64 ds, ?_⟩
  rw [show cap * ((2 ^ 13 : Nat) : Int) - q = 8192 * cap - q by omega] at ds
  refine c_chargeShare (σ := ck_ud σ 0 0 15 _) ds (by omega) (by omega) hcap hc1 hc2 (fun x4 e4 => ?_)
  have d3 := ck_dmul kd_150 (dm x4 _ e4) (by omega) (by decide)
  have d4 := ck_ddiv2 (T := 6) d3 kd_64 (by omega) (by decide)
  exact ⟨ck_dq_n64 d3, ck_dq_n64 d4, al_1 (h _ _ d2 d4)⟩
/-! the model's allow -/
theorem m_floor {a b : Int64} (ha : 0 ≤ a.toInt) (hb : 0 < b.toInt) {post : Int64 → ck_S → Prop} (h : ∀ y : Int64, y.toInt = a.toInt / b.toInt → post y σ) : sp_X7_floor nc nb σ a b post := by
  unfold sp_X7_floor
  have hb0 : ¬ b = 0 := by
    intro e
    rw [e] at hb
    exact absurd hb (by decide)
  have ra := fb_rngL a
  have e : (a / b).toInt = a.toInt / b.toInt := by
    have h1 := Int.ediv_nonneg ha (Int.le_of_lt hb)
    have h2 := Int.ediv_le_self b.toInt ha
    rw [Int64.toInt_div, Int.tdiv_eq_ediv_of_nonneg ha, fb_bmodL (by omega) (by omega)]
  refine ⟨hb0, al_1 ⟨hb0, ⟨fun _ => h _ e, fun _ => ?_⟩⟩⟩
  simp only [lg_cmp_ge]
  exact kb_t (Int64.le_iff_toInt_le.mpr ha) (h _ e)
theorem z_8192 : (8192 : Int64).toInt = 8192 := by decide
theorem z_512 : (512 : Int64).toInt = 512 := by decide
theorem z_8 : (8 : Int64).toInt = 8 := by decide
theorem z_100 : (100 : Int64).toInt = 100 := by decide
theorem z_300 : (300 : Int64).toInt = 300 := by decide
theorem z_150 : (150 : Int64).toInt = 150 := by decide
theorem z_1024 : (1024 : Int64).toInt = 1024 := by decide
theorem z_488 : (488 : Int64).toInt = 488 := by decide
theorem z_176 : (176 : Int64).toInt = 176 := by decide
theorem z_640 : (640 : Int64).toInt = 640 := by decide
theorem m_full {q : Int64} {cap : Int} (hcap : (σ.2.1 10 0 3).toInt = cap) (hc1 : 100 ≤ cap) (hc2 : cap ≤ 400000) (hq : 0 ≤ q.toInt) (hq2 : q.toInt ≤ 8192 * cap) {post : Int64 → ck_S → Prop} (h : ∀ y : Int64, y.toInt = fullZ q.toInt cap → post y σ) : sp_X7_full nc nb σ q post := by
  unfold sp_X7_full
  simp only [lg_cmp_lt]
  have hcap' : (ck_gj σ 10 0 3).toInt = cap := hcap
  have e1 : (8 * q).toInt = 8 * q.toInt := z_mul z_8 (by omega) (by omega)
  have e2 : (8192 * ck_gj σ 10 0 3).toInt = 8192 * cap := by rw [z_mul z_8192 (by omega) (by omega), hcap']
  have e3 : (512 * q).toInt = 512 * q.toInt := z_mul z_512 (by omega) (by omega)
  rw [Int64.lt_iff_toInt_lt, e1, e2]
  unfold fullZ at h
  refine ⟨fun a => ?_, fun a => h _ ?_⟩
  · rw [if_neg (by omega)] at h
    refine m_floor (by omega) (by omega) (fun y hy => h y ?_)
    rw [hy, e2, e3]
  · rw [if_pos (by omega)]
    decide
theorem m_least {a b c : Int64} {post : Int64 → ck_S → Prop} (h : ∀ y : Int64, y.toInt = min (min a.toInt b.toInt) c.toInt → post y σ) : sp_X7_least nc nb σ a b c post := by
  unfold sp_X7_least sp_X7_least_11
  simp only [lg_cmp_ge, Int64.le_iff_toInt_le]
  refine ⟨fun a => ⟨fun b => h _ ?_, fun b => h _ ?_⟩, fun a => ⟨fun b => h _ ?_, fun b => h _ ?_⟩⟩ <;> omega
theorem m_allow {n : Nat} (hn : n ≤ 4) (hn1 : 1 ≤ n) (h1 : σ.1 10 0 1 = nI n) {cap : Int} (hcap : (σ.2.1 10 0 3).toInt = cap) (hc1 : 100 ≤ cap) (hc2 : cap ≤ 400000) (hq : 0 ≤ (σ.2.1 10 0 11).toInt) (hq2 : (σ.2.1 10 0 11).toInt ≤ 8192 * cap) (hw : ∀ c, c < n → -800 ≤ (σ.2.1 13 0 c).toInt ∧ (σ.2.1 13 0 c).toInt ≤ 1600) (hb1 : -800 ≤ mHot (rp σ) n) (hb2 : mHot (rp σ) n ≤ 1600) (hb3 : -800 ≤ mCold (rp σ) n) (hb4 : mCold (rp σ) n ≤ 1600) {post : ck_S → Prop} (h : ∀ g t : Int64, g.toInt = 300 * min (min (hotZ (mHot (rp σ) n)) (coldZ (mCold (rp σ) n))) (fullZ (σ.2.1 10 0 11).toInt cap) → t.toInt = 150 * min (min (hotZ (mHot (rp σ) n)) (coldZ (mCold (rp σ) n))) (fullZ (8192 * cap - (σ.2.1 10 0 11).toInt) cap) → post (ck_uj (ck_uj σ 10 0 23 g) 10 0 24 t)) : sp_X7_allow nc nb σ post := by
  unfold sp_X7_allow
  have w0 := hw 0 (by omega)
  refine m_hottest (R := rp σ) rfl hn hn1 h1 w0.1 (fun y1 e1 => m_coldest (R := rp σ) rfl hn hn1 h1 w0.2 (fun y2 e2 => ?_))
  generalize hH : mHot (rp σ) n = hh at *
  generalize hC : mCold (rp σ) n = cc at *
  have hb := hot_b hh
  have cb := cold_b cc
  have f1 := full_b hq hc1
  have f2 := full_b (q := 8192 * cap - (σ.2.1 10 0 11).toInt) (by omega) hc1
  have t86 : ∀ a b : Int64, a.toInt = hotZ hh → b.toInt = coldZ cc → sp_X7_allow_86 nc nb post σ a b := by
    intro a b ha hb'
    unfold sp_X7_allow_86
    refine m_full hcap hc1 hc2 hq hq2 (fun y3 e3 => m_least (fun y4 e4 => al_1 ?_))
    rw [ha, hb', e3] at e4
    have eg : (300 * y4 : Int64).toInt = 300 * y4.toInt := z_mul z_300 (by omega) (by omega)
    have e8 : ∀ v : Int64, (8192 * (ck_gj (ck_uj σ 10 0 23 v) 10 0 3) - (ck_gj (ck_uj σ 10 0 23 v) 10 0 11)).toInt = 8192 * cap - (σ.2.1 10 0 11).toInt := by
      intro v
      show (8192 * σ.2.1 10 0 3 - σ.2.1 10 0 11).toInt = _
      have : (8192 * σ.2.1 10 0 3).toInt = 8192 * cap := by rw [z_mul z_8192 (by omega) (by omega), hcap]
      rw [fb_subL (by omega) (by omega), this]
    refine m_full (σ := ck_uj σ 10 0 23 _) hcap hc1 hc2 (by rw [e8]; omega) (by rw [e8]; omega) (fun y5 e5 => m_least (fun y6 e6 => al_1 (h _ _ ?_ ?_)))
    · rw [eg, e4]
    · rw [e8] at e5
      rw [ha, hb', e5] at e6
      rw [z_mul z_150 (by omega) (by omega), e6]
  have t47 : ∀ a : Int64, a.toInt = hotZ hh → sp_X7_allow_47 nc nb post σ y2 a := by
    intro a ha
    unfold sp_X7_allow_47
    simp only [lg_cmp_lt, lg_cmp_gt, Int64.lt_iff_toInt_lt]
    have z1 : (80 : Int64).toInt = 80 := by decide
    have z2 : (-176 : Int64).toInt = -176 := by decide
    have z4 : (4 : Int64).toInt = 4 := by decide
    rw [z1, z2, e2]
    unfold coldZ at t86
    refine ⟨fun p => ⟨fun p2 => ?_, fun p2 => t86 _ _ ha ?_⟩, fun p => t86 _ _ ha ?_⟩
    · have e : (y2 + 176).toInt = cc + 176 := by rw [fb_addL (by rw [z_176]; omega) (by rw [z_176]; omega), z_176, e2]
      refine m_floor (by omega) (by decide) (fun y hy => t86 _ _ ha ?_)
      rw [hy, e, z4, if_neg (by omega), if_neg (by omega)]
    · rw [if_neg (by omega), if_pos (by omega)]
      decide
    · rw [if_pos (by omega)]
      decide
  simp only [lg_cmp_lt, lg_cmp_gt, Int64.lt_iff_toInt_lt]
  have z1 : (360 : Int64).toInt = 360 := by decide
  have z2 : (2 : Int64).toInt = 2 := by decide
  rw [z1, z_488, e1]
  unfold hotZ at t47
  refine ⟨fun p => ⟨fun p2 => ?_, fun p2 => t47 _ ?_⟩, fun p => t47 _ ?_⟩
  · have e : (488 - y1).toInt = 488 - hh := by rw [fb_subL (by rw [z_488]; omega) (by rw [z_488]; omega), z_488, e1]
    refine m_floor (by omega) (by decide) (fun y hy => t47 _ ?_)
    rw [hy, e, z2, if_neg (by omega), if_neg (by omega)]
  · rw [if_neg (by omega), if_pos (by omega)]
    decide
  · rw [if_pos (by omega)]
    decide
end PURE
