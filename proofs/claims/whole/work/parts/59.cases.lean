/-! THE LAW'S CASES: getters and simple setters. -/
section CASES
variable {n b B nc nb : Nat} {cap : Int} {σ : ck_S} {xs : Nat → Int32} {L : Nat} {K : ck_S → Int32 → Prop} {x5 : Int32}
theorem m_noPower {post : Int32 → ck_S → Prop} (hb : ck_b (σ.1 10 0 9)) (h0 : σ.1 10 0 9 = 0 → post (σ.1 10 0 9) (ck_ui σ 10 0 0 0)) (h1 : ¬ σ.1 10 0 9 = 0 → post (σ.1 10 0 9) (ck_ui σ 10 0 0 1)) : sp_X7_noPower nc nb σ post := by
  unfold sp_X7_noPower sp_X7_noPower_13
  exact ⟨fun a => al_1 ⟨hb, h0 a⟩, fun a => al_1 ⟨hb, h1 a⟩⟩
theorem lc_204 (h : RC n b B cap σ σ) (hK : ∀ σ', RC n b (B + 200) cap σ' σ' → K σ' x5) : sp_law_204 n (32 * b) xs L K σ x5 := by
  unfold sp_law_204 sp_X6_chips sp_X7_chips
  have k9 : σ.1 10 0 1 = nI n := h.1.2.2.2.2.2.2.2.2.1
  exact al_1 (kb_t k9.symm (hK _ (RC_mono (by omega) h)))
theorem lc_217 (h : RC n b B cap σ σ) (v1 : vp_in (x5 + 1) L) (v2 : vp_in (x5 + 2) L) (v3 : vp_in (x5 + 3) L) (v4 : vp_in (x5 + 4) L) (hK : ∀ σ', RC n b (B + 200) cap σ' σ' → K σ' x5) : sp_law_217 n (32 * b) xs L K σ x5 := by
  unfold sp_law_217 sp_X6_seal sp_X7_seal
  refine al_1 ⟨v1, al_1 ⟨v2, al_1 ⟨v3, al_1 ⟨v4, c_ofReply (al_1 ⟨v1, al_1 ⟨v2, al_1 ⟨v3, al_1 ⟨v4, al_1 (m_sealOf ?_)⟩⟩⟩⟩)⟩⟩⟩⟩
  exact kb_t rfl (hK _ (RC_mono (by omega) h))
theorem lc_875 (h : RC n b B cap σ σ) (hK : ∀ σ', RC n b (B + 200) cap σ' σ' → K σ' x5) : sp_law_875 n (32 * b) xs L K σ x5 := by
  unfold sp_law_875 sp_X6_off sp_X7_off
  obtain ⟨s1, s2, -⟩ := h.2.2.2.2.2.1
  have e : ck_gi σ 0 0 7 = σ.1 10 0 9 := s1
  rw [e]
  exact ⟨s2, al_1 ⟨s2, kb_t rfl (hK _ (RC_mono (by omega) h))⟩⟩
theorem lc_888 (h : RC n b B cap σ σ) (hK : ∀ σ', RC n b (B + 200) cap σ' σ' → K σ' x5) : sp_law_888 n (32 * b) xs L K σ x5 := by
  unfold sp_law_888 sp_L_time sp_X6_time sp_X6_needPower sp_law_929
  obtain ⟨s1, s2, s3, -⟩ := h.2.2.2.2.2.1
  have e : ck_gi σ 0 0 7 = σ.1 10 0 9 := s1
  rw [e]
  refine ⟨fun d => ⟨v01, al_1 ?_⟩, fun d => ⟨rfl, ?_⟩⟩
  · unfold sp_X7_time sp_X7_thrown
    refine m_noPower s2 (fun d' => kb_t d' ?_) (fun d' => absurd d d')
    refine kb_t rfl (kn_f rfl ⟨v01, kb_t ?_ ?_⟩)
    · rw [lg_cmp_eq]
      exact congrArg Int32.toInt64 s3
    · exact hK _ (RC_mono (by omega) h)
  · unfold sp_X7_time sp_X7_thrown
    refine m_noPower s2 (fun d' => absurd d' d) (fun d' => kb_f d' ?_)
    exact kb_t rfl (kn_t (by decide) (hK _ (RC_mono (by omega) h)))
theorem lc_1330 (h : RC n b B cap σ σ) (hK : ∀ σ', RC n b (B + 200) cap σ' σ' → K σ' x5) : sp_law_1330 n (32 * b) xs L K σ x5 := by
  unfold sp_law_1330 sp_L_faults sp_X6_faults sp_X6_needPower sp_law_1371
  obtain ⟨s1, s2, s3, -⟩ := h.2.2.2.2.2.1
  have l2 := h.2.2.2.2.2.2.1.2.1
  have e : ck_gi σ 0 0 7 = σ.1 10 0 9 := s1
  rw [e]
  refine ⟨fun d => ⟨v01, al_1 ?_⟩, fun d => ⟨rfl, ?_⟩⟩
  · unfold sp_X7_faults sp_X7_thrown
    refine m_noPower s2 (fun d' => kb_t d' ?_) (fun d' => absurd d d')
    refine kb_t rfl (kn_f rfl ⟨v01, kb_t ?_ ?_⟩)
    · rw [lg_cmp_eq]
      exact congrArg Int32.toInt64 l2
    · exact hK _ (RC_mono (by omega) h)
  · unfold sp_X7_faults sp_X7_thrown
    refine m_noPower s2 (fun d' => absurd d' d) (fun d' => kb_f d' ?_)
    exact kb_t rfl (kn_t (by decide) (hK _ (RC_mono (by omega) h)))
theorem lc_932 (h : RC n b B cap σ σ) (hK : ∀ σ', RC n b (B + 200) cap σ' σ' → K σ' x5) : sp_law_932 n (32 * b) xs L K σ x5 := by
  unfold sp_law_932 sp_L_charge sp_X6_charge sp_X6_needPower sp_law_994
  obtain ⟨k1, k2, k3, k4, k5, k6, -⟩ := id h.1
  obtain ⟨q1, q2, q3⟩ := h.2.1
  obtain ⟨s1, s2, s3, -⟩ := h.2.2.2.2.2.1
  have e : ck_gi σ 0 0 7 = σ.1 10 0 9 := s1
  rw [e]
  refine ⟨fun d => ⟨v01, al_1 ?_⟩, fun d => ⟨rfl, ?_⟩⟩
  · unfold sp_X7_charge sp_X7_thrown
    refine m_noPower s2 (fun d' => kb_t d' ?_) (fun d' => absurd d d')
    have d1 := ck_l2d (x := σ.2.1 10 0 11) (by omega)
    have d2 := ck_ddiv2 (T := 13) d1 kd_8192 (by omega) (by decide)
    refine ⟨ck_dq_n64 d2, kb_t rfl (kn_f rfl ⟨v01, kb_t ?_ ?_⟩)⟩
    · have e1 : FP.dcmp (ck_gd (ck_ui (ck_ud σ 22 0 (Int32.toNatClampNeg 0) (ck_gd σ 0 0 9)) 10 0 0 0) 22 0 (Int32.toNatClampNeg 0)) (FP.ddiv (FP.l2d (σ.2.1 10 0 11)) 4665729213955833856) = some (compare (σ.2.1 10 0 11).toInt (σ.2.1 10 0 11).toInt) := ck_dcmp (x := σ.2.2 0 0 9) q1 d2 (by decide)
      exact (congrArg (fun o => Op.cmpValue o .l = 0) e1).mpr ((cv_eq _ _ _).mpr rfl)
    · exact hK _ (RC_mono (by omega) h)
  · unfold sp_X7_charge sp_X7_thrown
    refine m_noPower s2 (fun d' => absurd d' d) (fun d' => kb_f d' ?_)
    exact kb_t rfl (kn_t (by decide) (hK _ (RC_mono (by omega) h)))
theorem lc_1041 (h : RC n b B cap σ σ) (hK : ∀ σ', RC n b (B + 200) cap σ' σ' → K σ' x5) : sp_law_1041 n (32 * b) xs L K σ x5 := by
  unfold sp_law_1041 sp_L_through sp_X6_through sp_X6_needPower sp_law_1103
  obtain ⟨q1, q2, q3⟩ := h.2.2.1
  obtain ⟨s1, s2, s3, -⟩ := h.2.2.2.2.2.1
  have e : ck_gi σ 0 0 7 = σ.1 10 0 9 := s1
  rw [e]
  refine ⟨fun d => ⟨v01, al_1 ?_⟩, fun d => ⟨rfl, ?_⟩⟩
  · unfold sp_X7_through sp_X7_thrown
    refine m_noPower s2 (fun d' => kb_t d' ?_) (fun d' => absurd d d')
    have d1 := ck_l2d (x := σ.2.1 10 0 12) (by omega)
    have d2 := ck_ddiv2 (T := 3) d1 kd_8 (by omega) (by decide)
    refine ⟨ck_dq_n64 d2, kb_t rfl (kn_f rfl ⟨v01, kb_t ?_ ?_⟩)⟩
    · have e1 : FP.dcmp (ck_gd (ck_ui (ck_ud σ 22 0 (Int32.toNatClampNeg 0) (ck_gd σ 0 0 10)) 10 0 0 0) 22 0 (Int32.toNatClampNeg 0)) (FP.ddiv (FP.l2d (σ.2.1 10 0 12)) 4620693217682128896) = some (compare (σ.2.1 10 0 12).toInt (σ.2.1 10 0 12).toInt) := ck_dcmp (x := σ.2.2 0 0 10) q1 d2 (by decide)
      exact (congrArg (fun o => Op.cmpValue o .l = 0) e1).mpr ((cv_eq _ _ _).mpr rfl)
    · exact hK _ (RC_mono (by omega) h)
  · unfold sp_X7_through sp_X7_thrown
    refine m_noPower s2 (fun d' => absurd d' d) (fun d' => kb_f d' ?_)
    exact kb_t rfl (kn_t (by decide) (hK _ (RC_mono (by omega) h)))
theorem lc_997 (h : RC n b B cap σ σ) (hK : ∀ σ', RC n b (B + 200) cap σ' σ' → K σ' x5) : sp_law_997 n (32 * b) xs L K σ x5 := by
  unfold sp_law_997 sp_L_percent sp_X6_percent sp_X6_needPower sp_law_1038
  obtain ⟨k1, k2, k3, k4, k5, k6, k7, k8, -⟩ := id h.1
  obtain ⟨q1, q2, q3⟩ := h.2.1
  obtain ⟨s1, s2, s3, -⟩ := h.2.2.2.2.2.1
  have e : ck_gi σ 0 0 7 = σ.1 10 0 9 := s1
  rw [e]
  refine ⟨fun d => ?_, fun d => ⟨rfl, ?_⟩⟩
  · have q1' : ck_dq (ck_gd σ 0 0 9) (σ.2.1 10 0 11).toInt 13 := q1
    have dm := ck_dmul kd_100 q1' (by omega) (by decide)
    have hf : 100 * (σ.2.1 10 0 11).toInt / (8192 * cap) ≤ 1000 := by
      have := Int.ediv_le_of_le_mul (a := 100 * (σ.2.1 10 0 11).toInt) (b := 1000) (c := 8192 * cap) (by omega) (by omega)
      exact this
    have hf0 : 0 ≤ 100 * (σ.2.1 10 0 11).toInt / (8192 * cap) := Int.ediv_nonneg (by omega) (by omega)
    refine ⟨ck_dq_n64 dm, c_whole dm (by omega) (by omega) k7 k5 k6 hf (fun x ex => ⟨v01, al_1 ?_⟩)⟩
    unfold sp_X7_percent sp_X7_thrown
    refine m_noPower s2 (fun d' => kb_t d' ?_) (fun d' => absurd d d')
    have e1 : (100 * σ.2.1 10 0 11).toInt = 100 * (σ.2.1 10 0 11).toInt := z_mul z_100 (by omega) (by omega)
    have e2 : (8192 * σ.2.1 10 0 3).toInt = 8192 * cap := by rw [z_mul z_8192 (by omega) (by omega), k8]
    refine m_floor (a := 100 * σ.2.1 10 0 11) (b := 8192 * σ.2.1 10 0 3) (by omega) (by omega) (fun y ey => ?_)
    rw [e1, e2] at ey
    refine kb_t rfl (kn_f rfl ⟨v01, kb_t ?_ ?_⟩)
    · rw [lg_cmp_eq]
      show x.toInt64 = y.toInt32.toInt64
      have : x = y.toInt32 := by
        apply Int32.toInt_inj.mp
        rw [Int64.toInt_toInt32, fb_bmod (by omega) (by omega), ex, ey]
      rw [this]
    · exact hK _ (RC_mono (by omega) h)
  · unfold sp_X7_percent sp_X7_thrown
    refine m_noPower s2 (fun d' => absurd d' d) (fun d' => kb_f d' ?_)
    exact kb_t rfl (kn_t (by decide) (hK _ (RC_mono (by omega) h)))
theorem lc_1106 (h : RC n b B cap σ σ) (v1 : vp_in (x5 + 1) L) (hK : ∀ σ', RC n b (B + 200) cap σ' σ' → K σ' x5) : sp_law_1106 n (32 * b) xs L K σ x5 := by
  obtain ⟨g1, g2, g3, g4, g5, g6⟩ := h.2.2.2.2.1
  obtain ⟨s1, s2, s3, -⟩ := h.2.2.2.2.2.1
  have e : ck_gi σ 0 0 7 = σ.1 10 0 9 := s1
  have key : ∀ (z : UInt64) (y : Int64), ck_dq z y.toInt 6 → 0 ≤ y.toInt → y.toInt ≤ 19200 → ∀ s0, (s0 = 0 → z = σ.2.2 0 0 15 ∧ y = σ.2.1 10 0 23) → (¬ s0 = 0 → z = σ.2.2 0 0 16 ∧ y = σ.2.1 10 0 24) → (xs (Int32.toNatClampNeg (x5 + 1)) = 0 ↔ s0 = 0) → (s0 = 0 ∨ s0 = 1) → sp_law_1121 n (32 * b) xs L K σ x5 s0 := by
    intro z y hz hy0 hy1 s0 hz0 hz1 hx hs
    unfold sp_law_1121 sp_L_allowed sp_X6_allowed sp_X6_needPower
    rw [e]
    have m2 : ∀ (τ : ck_S) (x6 : Int32), (∀ s1, s1 = s0 → sp_law_1143 n (32 * b) xs L K τ x5 x6 s1) → (vp_in (x5 + 1) L) ∧ (((xs (Int32.toNatClampNeg (x5 + 1))) = 0 → (sp_law_1143 n (32 * b) xs L K τ x5 x6 0)) ∧ (¬ (xs (Int32.toNatClampNeg (x5 + 1))) = 0 → (sp_law_1143 n (32 * b) xs L K τ x5 x6 1))) := by
      intro τ x6 hh
      refine ⟨v1, fun a => hh _ ((hx.mp a).symm), fun a => hh _ ?_⟩
      rcases hs with q | q
      · exact absurd (hx.mpr q) a
      · exact q.symm
    refine ⟨fun d => ?_, fun d => ⟨rfl, al_1 (m2 _ _ ?_)⟩⟩
    · have fin : ∀ z', z' = z → (vp_in 0 1) ∧ ∀ σ4, σ4 = ck_ud σ 22 0 (Int32.toNatClampNeg 0) z' → ∀ x_3, x_3 = (x5 + 1) → (vp_in x_3 L) ∧ (((xs (Int32.toNatClampNeg x_3)) = 0 → (sp_law_1143 n (32 * b) xs L K σ4 x5 0 0)) ∧ (¬ (xs (Int32.toNatClampNeg x_3)) = 0 → (sp_law_1143 n (32 * b) xs L K σ4 x5 0 1))) := by
        intro z' hz'
        subst hz'
        refine ⟨v01, al_1 (al_1 (m2 _ _ ?_))⟩
        intro s1 hs1
        subst hs1
        unfold sp_law_1143 sp_X7_allowed sp_X7_allowed_26 sp_X7_thrown sp_law_1196
        refine m_noPower s2 (fun d' => kb_t d' ?_) (fun d' => absurd d d')
        have d1 := ck_l2d (x := y) (by omega)
        have d2 := ck_ddiv2 (T := 6) d1 kd_64 (by omega) (by decide)
        have cmp : ∀ (τ : ck_S), ck_gd τ 22 0 (Int32.toNatClampNeg 0) = z' → Op.cmpValue (FP.dcmp (ck_gd τ 22 0 (Int32.toNatClampNeg 0)) (FP.ddiv (FP.l2d y) 4634204016564240384)) .l = 0 := by
          intro τ hτ
          rw [hτ, ck_dcmp hz d2 (by decide)]
          exact (cv_eq _ _ _).mpr rfl
        refine ⟨fun a => ?_, fun a => ?_⟩
        · obtain ⟨-, ey⟩ := hz0 a
          have ey : ck_gj (ck_ui (ck_ud σ 22 0 (Int32.toNatClampNeg 0) z') 10 0 0 0) 10 0 23 = y := ey.symm
          rw [ey]
          exact ⟨ck_dq_n64 d2, kb_t rfl (kn_f rfl ⟨v01, kb_t (cmp _ rfl) (hK _ (RC_mono (by omega) h))⟩)⟩
        · obtain ⟨-, ey⟩ := hz1 a
          have ey : ck_gj (ck_ui (ck_ud σ 22 0 (Int32.toNatClampNeg 0) z') 10 0 0 0) 10 0 24 = y := ey.symm
          rw [ey]
          exact ⟨ck_dq_n64 d2, kb_t rfl (kn_f rfl ⟨v01, kb_t (cmp _ rfl) (hK _ (RC_mono (by omega) h))⟩)⟩
      exact ⟨fun a => fin _ (hz0 a).1.symm, fun a => fin _ (hz1 a).1.symm⟩
    · intro s1 hs1
      unfold sp_law_1143 sp_X7_allowed sp_X7_thrown sp_law_1196
      refine m_noPower s2 (fun d' => absurd d' d) (fun d' => kb_f d' ?_)
      exact kb_t rfl (kn_t (by decide) (hK _ (RC_mono (by omega) h)))
  unfold sp_law_1106
  refine al_1 ⟨v1, fun a => key _ _ g1 g2 g3 0 (fun _ => ⟨rfl, rfl⟩) (fun q => absurd rfl q) ⟨fun _ => rfl, fun _ => a⟩ (Or.inl rfl), fun a => key _ _ g4 g5 g6 1 (fun q => absurd q (by decide)) (fun _ => ⟨rfl, rfl⟩) ⟨fun q => absurd q a, fun q => absurd q (by decide)⟩ (Or.inr rfl)⟩
end CASES
