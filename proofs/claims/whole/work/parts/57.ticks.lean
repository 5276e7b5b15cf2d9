/-! THE TICK two by two: what the reference needs holds at every step, for some class half. -/
theorem dq_3 {k : Int} (h : k.natAbs < 2 ^ 53) : ∃ z, ck_dq z k 3 := by
  have e : (Int64.ofInt k).toInt = k := by rw [Int64.toInt_ofInt, fb_bmodL (by omega) (by omega)]
  have d := ck_l2d (x := Int64.ofInt k) (by rw [e]; exact h)
  rw [e] at d
  exact ⟨_, ck_ddiv2 (T := 3) d kd_8 h (by decide)⟩
theorem dq_6 {k : Int} (h : k.natAbs < 2 ^ 53) : ∃ z, ck_dq z k 6 := by
  have e : (Int64.ofInt k).toInt = k := by rw [Int64.toInt_ofInt, fb_bmodL (by omega) (by omega)]
  have d := ck_l2d (x := Int64.ofInt k) (by rw [e]; exact h)
  rw [e] at d
  exact ⟨_, ck_ddiv2 (T := 6) d kd_64 h (by decide)⟩
theorem dq_13 {k : Int} (h : k.natAbs < 2 ^ 53) : ∃ z, ck_dq z k 13 := by
  have e : (Int64.ofInt k).toInt = k := by rw [Int64.toInt_ofInt, fb_bmodL (by omega) (by omega)]
  have d := ck_l2d (x := Int64.ofInt k) (by rw [e]; exact h)
  rw [e] at d
  exact ⟨_, ck_ddiv2 (T := 13) d kd_8192 h (by decide)⟩
theorem wr_l {τ : ck_S} (h : ¬ τ.1 10 0 27 = 0) : wrB τ = true := decide_eq_true (Or.inl h)
theorem wr_r {τ : ck_S} (h : τ.1 10 0 10 - τ.1 10 0 10 / τ.1 10 0 5 * τ.1 10 0 5 = 0) : wrB τ = true := decide_eq_true (Or.inr h)
theorem wr_n {τ : ck_S} (h : τ.1 10 0 27 = 0) (h2 : ¬ τ.1 10 0 10 - τ.1 10 0 10 / τ.1 10 0 5 * τ.1 10 0 5 = 0) : ¬ wrB τ = true := by
  unfold wrB
  rw [decide_eq_true_eq]
  exact fun q => q.elim (fun q => q h) h2
section TICK
variable {n b B : Nat} {cap : Int} {γ μ : ck_S}
theorem sv_ex (h : RC n b B cap γ μ) : ∃ υ, RC n b B cap υ μ ∧ SV n υ μ ∧ (Rf γ μ → Rf υ μ) := by
  have hw := Rc_w h.2.2.2.2.2.2.2.2.2
  obtain ⟨⟨r1, r2⟩, ⟨r3, r4⟩⟩ := hot_rng (R := rp μ) (n := n) hw
  obtain ⟨zh, hh⟩ := dq_3 (k := mHot (rp μ) n) (by omega)
  obtain ⟨zc, hc⟩ := dq_3 (k := mCold (rp μ) n) (by omega)
  exact ⟨ck_ud (ck_ud (ck_ui (ck_ui (ck_ui (ck_ui (ck_ui γ 2 0 0 (b2 (anyB (mSt (rp μ)) n))) 2 0 1 (b2 (anyB (mInv (rp μ)) (6 * n)))) 2 0 2 (mSum (rp μ) (6 * n))) 2 0 3 (sLeast (rp μ) (6 * n))) 2 0 4 (sMost (rp μ) (6 * n))) 2 0 5 zh) 2 0 6 zc, h, ⟨⟨rfl, rfl, rfl, rfl, rfl⟩, hh, hc⟩, fun q => q⟩
theorem im_charge (h : RC n b B cap γ μ) : ∃ γ', RC n b B cap γ' (mCountS n μ) := by
  obtain ⟨h1, ⟨q1, q2, q3⟩, ⟨t1, t2, t3⟩, ⟨a1, a2, a3⟩, h5, ⟨s1, s2, s3, s4, s5, s6, s7, s8, s9⟩, h7, h8, h9, h10⟩ := h
  obtain ⟨k1, k2, k3, k4, k5, k6, k7, k8, k9, k10, k11, k12, k13, k14⟩ := id h1
  have et := tNew_z a2 a3 t2 t3
  have ec := qClamp_z k8 k5 k6 a2 a3 q2 q3
  have eq := qRest_z (n := n) (R := rp μ) (r := rNew μ) (q := qClamp μ) k8 k5 k6
  have bb := qcZ_b (q := (μ.2.1 10 0 11).toInt) (c := (μ.2.1 10 0 13).toInt) k5
  have bq := qrZ_b (n := n) (R := rp μ) (r := rNew μ) k5 bb.1 bb.2
  rw [ec] at eq
  rw [← eq] at bq
  have hb := szZ_b a2 a3
  have bt : 0 ≤ (tNew μ).toInt ∧ (tNew μ).toInt < 80000 := by
    rw [et]
    unfold tZ
    split <;> omega
  obtain ⟨zq, hq⟩ := dq_13 (k := (qRest n (rp μ) (rNew μ) (μ.2.1 10 0 3) (qClamp μ)).toInt) (by omega)
  obtain ⟨zt, ht⟩ := dq_3 (k := (tNew μ).toInt) (by omega)
  exact ⟨ck_ui (ck_ud (ck_ud γ 0 0 10 zt) 0 0 9 zq) 0 0 11 (rNew μ), h1, ⟨hq, bq.1, bq.2⟩, ⟨ht, bt.1, bt.2⟩, ⟨a1, a2, a3⟩, h5, ⟨s1, s2, s3, rfl, s5, s6, s7, s8, s9⟩, h7, h8, h9, h10⟩
theorem im_allow (h : RC n b B cap γ μ) : ∃ γ', RC n b B cap γ' (mAllowS n cap μ) := by
  obtain ⟨h1, ⟨q1, q2, q3⟩, h3, h4, h5, h6, h7, h8, h9, h10⟩ := h
  obtain ⟨k1, k2, k3, k4, k5, k6, k7, k8, k9, k10, k11, k12, k13, k14⟩ := id h1
  have hb := hot_b (mHot (rp μ) n)
  have cb := cold_b (mCold (rp μ) n)
  have f1 := full_b q2 k5
  have f2 := full_b (q := 8192 * cap - (μ.2.1 10 0 11).toInt) (by omega) k5
  unfold mAllowS
  generalize hG : 300 * min (min (hotZ (mHot (rp μ) n)) (coldZ (mCold (rp μ) n))) (fullZ (μ.2.1 10 0 11).toInt cap) = G
  generalize hT : 150 * min (min (hotZ (mHot (rp μ) n)) (coldZ (mCold (rp μ) n))) (fullZ (8192 * cap - (μ.2.1 10 0 11).toInt) cap) = T
  have eG : (Int64.ofInt G).toInt = G := by rw [Int64.toInt_ofInt, fb_bmodL (by omega) (by omega)]
  have eT : (Int64.ofInt T).toInt = T := by rw [Int64.toInt_ofInt, fb_bmodL (by omega) (by omega)]
  obtain ⟨zg, dg⟩ := dq_6 (k := (Int64.ofInt G).toInt) (by omega)
  obtain ⟨zt, dt⟩ := dq_6 (k := (Int64.ofInt T).toInt) (by omega)
  refine ⟨ck_ud (ck_ud γ 0 0 15 zg) 0 0 16 zt, h1, ⟨q1, q2, q3⟩, h3, h4, ⟨dg, ?_, ?_, dt, ?_, ?_⟩, h6, h7, h8, h9, h10⟩
  · show 0 ≤ (Int64.ofInt G).toInt
    omega
  · show (Int64.ofInt G).toInt ≤ 19200
    omega
  · show 0 ≤ (Int64.ofInt T).toInt
    omega
  · show (Int64.ofInt T).toInt ≤ 19200
    omega
theorem im_causes (h : RC n b B cap γ μ) (h27 : μ.1 10 0 27 = 0) : ∃ γ', RC n b B cap γ' (mCausesS n μ) ∧ Rf γ' (mCausesS n μ) := by
  obtain ⟨h1, h2, h3, h4, h5, h6, h7, h8, h9, h10⟩ := id h
  obtain ⟨k1, k2, k3, k4, k5, k6, k7, k8, k9, k10, k11, k12, k13, k14⟩ := id h1
  unfold mCausesS
  generalize soF n (rp μ) (μ.2.1 10 0 13).toInt (μ.2.1 10 0 23).toInt (μ.2.1 10 0 24).toInt = s
  have hf0 : Rf (ck_ui γ 3 0 3 0) μ := ⟨h27.symm, by rw [h27]; exact Or.inl rfl⟩
  have W := watches_rel (γ := ck_ui γ 3 0 3 0) (μ := μ) h7 hf0 k14 s 7 (by omega)
  have A : Fa γ (cWatches s (ck_ui γ 3 0 3 0) 7) := Fa_trans (Fa_3 _ (by omega) _) (Fa_watches _ _ 7)
  have D := Fe_causes s μ 7
  have ho : Ro (cWatches s (ck_ui γ 3 0 3 0) 7) (mCauses s μ 7) := by
    unfold Ro at h8 ⊢
    rw [A.2.1 5 (by decide) (by decide), D.2.2 28 (by decide) (by decide), D.2.2 29 (by decide) (by decide)]
    exact h8
  exact ⟨_, RC_al h A.1 (fun f p q _ => A.2.1 f p q) A.2.2 (Fc_causes s μ 7) W.1 ho, W.2⟩
theorem im_step (h : RC n b B cap γ μ) (hf : Rf γ μ) : ∃ γ', RC n b B cap γ' (mStepS n μ) ∧ Rf γ' (mStepS n μ) := by
  obtain ⟨h1, h2, h3, h4, h5, h6, h7, ⟨o1, ⟨s, hs, es⟩, o3⟩, h9, h10⟩ := id h
  unfold mStepS
  have F : Fc μ (mStep (decide (¬ μ.1 10 0 16 = 0) && !mSer μ) (!anyB (mBad (rp μ)) (6 * n)) (mSum (rp μ) (6 * n)).toInt (ck_ui μ 10 0 29 (μ.1 10 0 29 + 1))) := Fc_trans (Fc_10 _ (by omega) _) (Fc_step _ _ _ _)
  have q : Rolf (ck_ui γ 5 0 1 (γ.1 5 0 1 + 1)) (ck_ui μ 10 0 29 (μ.1 10 0 29 + 1)) := ⟨⟨o1, ⟨s, hs, es⟩, congrArg (· + 1) o3⟩, h7, hf⟩
  have r := step_rel q (decide (¬ μ.1 10 0 16 = 0) && !mSer μ) (!anyB (mBad (rp μ)) (6 * n)) (mSum (rp μ) (6 * n)).toInt
  have A : Fb γ (cStep (decide (¬ μ.1 10 0 16 = 0) && !mSer μ) (!anyB (mBad (rp μ)) (6 * n)) (mSum (rp μ) (6 * n)).toInt (μ.1 10 0 15).toInt (ck_ui γ 5 0 1 (γ.1 5 0 1 + 1))) := Fb_trans (Fb_5 _ _ _) (Fb_step _ _ _ _ _)
  exact ⟨_, RC_al h A.1 A.2.1 A.2.2 F r.2.1 r.1, r.2.2⟩
theorem im_bleed (h : RC n b B cap γ μ) (hf : Rf γ μ) : ∃ γ', RC n b B cap γ' (mBleedS n μ) ∧ Rf γ' (mBleedS n μ) := by
  obtain ⟨h1, h2, h3, h4, h5, h6, h7, h8, h9, h10⟩ := id h
  unfold mBleedS
  generalize mBl (mMay μ) (rp μ) (μ.1 10 0 10) (mLeast (rp μ) (6 * n)) = bl
  refine ⟨cBle bl n γ, ⟨h1, h2, h3, h4, h5, h6, h7, h8, h9, fun c hc => ⟨Rch_ble (h10 c hc).1, ?_⟩⟩, hf⟩
  show (cBle bl n γ).1 30 c 7 = (mBle bl n μ).1 20 0 c
  simp [cBle, mBle, hc]
/-- the reference's state before it may write, and that the relation can hold there -/
theorem im_tick6 (hB : B + 2 ≤ 1000000) (h : RC n b B cap γ μ) (γ0 : ck_S) (post : Int32 → ck_S → Prop) (K33 : ck_S → Int32 → Int32 → Prop) (x1 x2 : Int32) (hp : ((¬ (ck_gi (ck_mk γ0 (mTick6 n cap μ)) 10 0 27) = 0 → (sp_X7_tick_154 n (32 * b) post K33 (ck_mk γ0 (mTick6 n cap μ)) x1 x2)) ∧ ((ck_gi (ck_mk γ0 (mTick6 n cap μ)) 10 0 27) = 0 → (∀ x_14, x_14 = (ck_gi (ck_mk γ0 (mTick6 n cap μ)) 10 0 10) → ∀ x_15, x_15 = (ck_gi (ck_mk γ0 (mTick6 n cap μ)) 10 0 5) → (¬ x_15 = 0) ∧ ((¬ (x_14 - x_14 / x_15 * x_15) = 0 → (sp_X7_tick_158 n (32 * b) post K33 (ck_mk γ0 (mTick6 n cap μ)) x1 x2)) ∧ ((x_14 - x_14 / x_15 * x_15) = 0 → (sp_X7_tick_154 n (32 * b) post K33 (ck_mk γ0 (mTick6 n cap μ)) x1 x2))))))) : lx_4 (bd_X7_tick_64 n (32 * b) post K33) (ck_ui (ck_mk γ0 μ) 10 0 10 (μ.1 10 0 10 + 1)) x1 x2 0 := by
  obtain ⟨k1, k2, k3, k4, k5, k6, k7, k8, k9, k10, k11, k12, k13, k14⟩ := id h.1
  have hB1 : B + 1 ≤ 1000000 := by omega
  have e0 : ck_ui (ck_mk γ0 μ) 10 0 10 (μ.1 10 0 10 + 1) = ck_mk γ0 (ck_ui μ 10 0 10 (μ.1 10 0 10 + 1)) := mui_10 _ _ _ _ _
  rw [e0]
  refine cu_4 n nI (fun j s y1 y2 => ck_mk γ0 (mAge j (ck_ui μ 10 0 10 (μ.1 10 0 10 + 1))) = s ∧ x1 = y1 ∧ x2 = y2) ?_ ?_ 0 (by omega) _ _ _ ⟨by rw [mAge_0], rfl, rfl⟩ _ rfl
  · rintro j hj s y1 y2 ⟨rfl, rfl, rfl⟩ K hK
    unfold bd_X7_tick_64 sp_X7_tick_103
    have e1 : ck_gi (ck_mk γ0 (mAge j (ck_ui μ 10 0 10 (μ.1 10 0 10 + 1)))) 10 0 1 = nI n := k9
    have hv : vp_in (nI j) 4 := vp_in_nI (by omega) (by decide)
    rw [e1, nI_clamp (by omega)]
    generalize hτ : mAge j (ck_ui μ 10 0 10 (μ.1 10 0 10 + 1)) = τ
    have nx : ∀ v, v = mAg (τ.1 18 0 j) → ∀ w, w = nI j + 1 → K (ck_ui (ck_mk γ0 τ) 18 0 j v) x1 x2 w := by
      intro v hv' w hw
      refine hK _ _ _ ⟨?_, rfl, rfl⟩ _ (by rw [hw, nI_succ])
      have := mAge_succ j (ck_ui μ 10 0 10 (μ.1 10 0 10 + 1))
      rw [hτ] at this
      rw [mui_18, ← this, hv']
    refine kb_f (nI_ge hj (by omega)) ⟨hv, ⟨fun a => ⟨hv, al_1 (nx _ ?_)⟩, fun a => ⟨hv, hv, al_1 (nx _ ?_)⟩⟩⟩
    · have a : 1000 ≤ τ.1 18 0 j := a
      unfold mAg
      rw [if_pos a]
    · have a : ¬ 1000 ≤ τ.1 18 0 j := a
      unfold mAg
      rw [if_neg a]
      rfl
  · rintro s y1 y2 ⟨rfl, rfl, rfl⟩ K
    unfold bd_X7_tick_64
    have e1 : ck_gi (ck_mk γ0 (mAge n (ck_ui μ 10 0 10 (μ.1 10 0 10 + 1)))) 10 0 1 = nI n := k9
    rw [e1]
    refine kb_t (nI_le (Nat.le_refl _) (by omega)) (al_1 ?_)
    rw [mui_10]
    have a1 : RC n b (B + 1) cap (cAge n (ck_ui γ 0 0 8 (γ.1 0 0 8 + 1))) (ck_ui (mAge n (ck_ui μ 10 0 10 (μ.1 10 0 10 + 1))) 10 0 27 0) := age_rel h (by omega)
    unfold mTick6 at hp
    generalize hμ1 : ck_ui (mAge n (ck_ui μ 10 0 10 (μ.1 10 0 10 + 1))) 10 0 27 0 = μ1 at a1 hp
    have e27 : μ1.1 10 0 27 = 0 := by rw [← hμ1]; rfl
    obtain ⟨u1, r1, v1, -⟩ := sv_ex a1
    obtain ⟨p1, p2, p3, -⟩ := pr_charge hB1 r1 v1
    refine p1 γ0 _ ?_
    obtain ⟨c2, r2⟩ := im_charge r1
    obtain ⟨u2, r2, v2, -⟩ := sv_ex r2
    obtain ⟨q1, q2, q3, -⟩ := pr_allow hB1 r2 v2
    refine q1 γ0 _ ?_
    obtain ⟨c3, r3⟩ := im_allow r2
    obtain ⟨u3, r3, v3, -⟩ := sv_ex r3
    have f27 : (mAllowS n cap (mCountS n μ1)).1 10 0 27 = 0 := by rw [q2, p2, e27]
    obtain ⟨w1, w2, -⟩ := pr_causes hB1 r3 v3 f27
    refine w1 γ0 _ ?_
    obtain ⟨c4, r4, f4⟩ := im_causes r3 f27
    obtain ⟨u4, r4, v4, g4⟩ := sv_ex r4
    obtain ⟨z1, z2, -⟩ := pr_step hB1 r4 v4 (g4 f4)
    refine z1 γ0 _ ?_
    obtain ⟨c5, r5, f5⟩ := im_step r4 (g4 f4)
    obtain ⟨u5, r5, v5, g5⟩ := sv_ex r5
    obtain ⟨y1, y2, -⟩ := pr_bleed hB1 r5 v5 (g5 f5)
    exact y1 γ0 _ hp
theorem im_6 (hB : B + 2 ≤ 1000000) (h : RC n b B cap γ μ) : (∃ γ', RC n b (B + 1) cap γ' (mTick6 n cap μ)) ∧ (mTick6 n cap μ).1 10 0 0 = μ.1 10 0 0 := by
  have hB1 : B + 1 ≤ 1000000 := by omega
  have a1 : RC n b (B + 1) cap (cAge n (ck_ui γ 0 0 8 (γ.1 0 0 8 + 1))) (ck_ui (mAge n (ck_ui μ 10 0 10 (μ.1 10 0 10 + 1))) 10 0 27 0) := age_rel h (by omega)
  unfold mTick6
  generalize hμ1 : ck_ui (mAge n (ck_ui μ 10 0 10 (μ.1 10 0 10 + 1))) 10 0 27 0 = μ1 at a1 ⊢
  have e27 : μ1.1 10 0 27 = 0 := by rw [← hμ1]; rfl
  have e00 : μ1.1 10 0 0 = μ.1 10 0 0 := by rw [← hμ1]; rfl
  obtain ⟨u1, r1, v1, -⟩ := sv_ex a1
  obtain ⟨p1, p2, p3, -⟩ := pr_charge hB1 r1 v1
  obtain ⟨c2, r2⟩ := im_charge r1
  obtain ⟨u2, r2, v2, -⟩ := sv_ex r2
  obtain ⟨q1, q2, q3, -⟩ := pr_allow hB1 r2 v2
  obtain ⟨c3, r3⟩ := im_allow r2
  obtain ⟨u3, r3, v3, -⟩ := sv_ex r3
  have f27 : (mAllowS n cap (mCountS n μ1)).1 10 0 27 = 0 := by rw [q2, p2, e27]
  obtain ⟨w1, w2, -⟩ := pr_causes hB1 r3 v3 f27
  obtain ⟨c4, r4, f4⟩ := im_causes r3 f27
  obtain ⟨u4, r4, v4, g4⟩ := sv_ex r4
  obtain ⟨z1, z2, -⟩ := pr_step hB1 r4 v4 (g4 f4)
  obtain ⟨c5, r5, f5⟩ := im_step r4 (g4 f4)
  obtain ⟨u5, r5, v5, g5⟩ := sv_ex r5
  obtain ⟨y1, y2, -⟩ := pr_bleed hB1 r5 v5 (g5 f5)
  obtain ⟨c6, r6, f6⟩ := im_bleed r5 (g5 f5)
  exact ⟨⟨c6, r6⟩, by rw [y2, z2, w2, q3, p3, e00]⟩
theorem pm_tick (hB : B + 2 ≤ 1000000) (h : RC n b B cap γ μ) : (∀ γ0 (post : Int32 → ck_S → Prop) (K33 : ck_S → Int32 → Int32 → Prop) (x1 x2 : Int32), sp_X7_tick_158 n (32 * b) post K33 (ck_mk γ0 (mTickS n b cap μ)) x1 x2 → lx_4 (bd_X7_tick_64 n (32 * b) post K33) (ck_ui (ck_mk γ0 μ) 10 0 10 (μ.1 10 0 10 + 1)) x1 x2 0) ∧ (mTickS n b cap μ).1 10 0 0 = μ.1 10 0 0 := by
  obtain ⟨⟨c6, r6⟩, e6⟩ := im_6 hB h
  have T := im_tick6 hB h
  unfold mTickS
  generalize mTick6 n cap μ = ν at r6 e6 T ⊢
  obtain ⟨w1, w2, -⟩ := pr_write (by omega) r6
  have k13 : ¬ ν.1 10 0 5 = 0 := r6.1.2.2.2.2.2.2.2.2.2.2.2.2.1
  constructor
  · intro γ0 post K33 x1 x2 hp
    refine T γ0 post K33 x1 x2 ?_
    have g1 : ck_gi (ck_mk γ0 ν) 10 0 27 = ν.1 10 0 27 := rfl
    have g2 : ck_gi (ck_mk γ0 ν) 10 0 10 = ν.1 10 0 10 := rfl
    have g3 : ck_gi (ck_mk γ0 ν) 10 0 5 = ν.1 10 0 5 := rfl
    rw [g1, g2, g3]
    unfold sp_X7_tick_154
    refine ⟨fun a => ?_, fun a => al_1 (al_1 ⟨k13, ⟨fun c => ?_, fun c => ?_⟩⟩)⟩
    · rw [if_pos (wr_l a)] at hp
      exact w1 γ0 _ hp
    · rw [if_neg (wr_n a c)] at hp
      exact hp
    · rw [if_pos (wr_r c)] at hp
      exact w1 γ0 _ hp
  · split
    · rw [w2, e6]
    · exact e6
theorem pr_tick (hB : B + 2 ≤ 1000000) (h : RC n b B cap γ μ) : RunC (sp_X6_passOneTick n (32 * b)) γ (fun γ' => RC n b (B + 2) cap γ' (mTickS n b cap μ)) := by
  obtain ⟨k1, k2, k3, k4, k5, k6, k7, k8, k9, k10, k11, k12, k13, k14⟩ := id h.1
  have hB1 : B + 1 ≤ 1000000 := by omega
  have a0 := age_rel h (by omega)
  intro μ0 post hp
  unfold sp_X6_passOneTick
  refine al_1 (al_1 ?_)
  have e0 : ck_ui (ck_mk γ μ0) 0 0 8 (ck_gi (ck_mk γ μ0) 0 0 8 + 1) = ck_mk (ck_ui γ 0 0 8 (γ.1 0 0 8 + 1)) μ0 := mui_0 _ _ _ _ _
  rw [e0]
  refine cu_3 n nI (fun j s x => ck_mk (cAge j (ck_ui γ 0 0 8 (γ.1 0 0 8 + 1))) μ0 = s ∧ nI n = x) ?_ ?_ 0 (by omega) _ _ ⟨by rw [cAge_0], rfl⟩ _ rfl
  · rintro j hj s x ⟨rfl, rfl⟩ K hK
    unfold bd_X6_passOneTick_20
    rw [nI_clamp (by omega)]
    refine kb_f (nI_ge hj (by omega)) ⟨vp_in_nI hj (by omega), al_1 (al_1 ?_)⟩
    intro w hw
    refine hK _ _ ⟨?_, rfl⟩ _ (by rw [hw, nI_succ])
    rw [mui_30, ← cAge_succ]
    rfl
  · rintro s x ⟨rfl, rfl⟩ K
    unfold bd_X6_passOneTick_20
    refine kb_t (nI_le (Nat.le_refl _) (by omega)) ?_
    have hTc := a0.2.2.2.2.2.2.2.2.2
    refine c_look (σ := ck_mk (cAge n (ck_ui γ 0 0 8 (γ.1 0 0 8 + 1))) μ0) (R := rp (mAge n (ck_ui μ 10 0 10 (μ.1 10 0 10 + 1)))) (B := B + 1) hB1 k2 (fun c hc => (hTc c hc).1) (fun υ F sp sd => ?_)
    obtain ⟨r1, r2⟩ := look_rel a0 F
    rw [r2]
    have r1 : RC n b (B + 1) cap υ (ck_ui (mAge n (ck_ui μ 10 0 10 (μ.1 10 0 10 + 1))) 10 0 27 0) := r1
    have v1 : SV n υ (ck_ui (mAge n (ck_ui μ 10 0 10 (μ.1 10 0 10 + 1))) 10 0 27 0) := ⟨sp, sd⟩
    unfold mTickS mTick6 at hp
    generalize hμ1 : ck_ui (mAge n (ck_ui μ 10 0 10 (μ.1 10 0 10 + 1))) 10 0 27 0 = μ1 at r1 v1 hp
    have e27 : μ1.1 10 0 27 = 0 := by rw [← hμ1]; rfl
    obtain ⟨-, p2, p3, p4⟩ := pr_charge hB1 r1 v1
    refine p4 μ0 _ (fun γ2 ⟨r2, v2⟩ => ?_)
    obtain ⟨-, q2, q3, q4⟩ := pr_allow hB1 r2 v2
    refine q4 μ0 _ (fun γ3 ⟨r3, v3⟩ => ?_)
    obtain ⟨-, w2, w4⟩ := pr_causes hB1 r3 v3 (by rw [q2, p2, e27])
    refine w4 μ0 _ (fun γ4 ⟨r4, v4, f4⟩ => ?_)
    obtain ⟨-, z2, z4⟩ := pr_step hB1 r4 v4 f4
    refine z4 μ0 _ (fun γ5 ⟨r5, v5, f5⟩ => ?_)
    obtain ⟨-, y2, y4⟩ := pr_bleed hB1 r5 v5 f5
    refine y4 μ0 _ (fun γ6 ⟨r6, f6⟩ => ?_)
    generalize mBleedS n (mStepS n (mCausesS n (mAllowS n cap (mCountS n μ1)))) = ν at hp r6 f6
    obtain ⟨-, -, x4⟩ := pr_write hB1 r6
    have ef : ck_gi (ck_mk γ6 μ0) 3 0 3 = ν.1 10 0 27 := f6.1
    have et : ck_gi (ck_mk γ6 μ0) 0 0 8 = ν.1 10 0 10 := r6.2.2.2.2.2.1.2.2.1
    have ee : ck_gi (ck_mk γ6 μ0) 0 0 2 = ν.1 10 0 5 := r6.1.2.2.2.2.2.2.2.2.2.2.2.1
    have en : ¬ ν.1 10 0 5 = 0 := r6.1.2.2.2.2.2.2.2.2.2.2.2.2.1
    rw [ef, et, ee]
    refine ⟨fun a => ?_, fun a => al_1 (al_1 ⟨en, ⟨fun c => ?_, fun c => ?_⟩⟩)⟩
    · rw [if_pos (wr_l a)] at hp
      exact x4 μ0 _ hp
    · rw [if_neg (wr_n a c)] at hp
      exact hp _ (RC_mono (by omega) r6)
    · rw [if_pos (wr_r c)] at hp
      exact x4 μ0 _ hp
end TICK
