/-! WRITING A BLOCK. -/
def bK0 (nx tm : Int32) (q : Int64) (fl st : Int32) (k : Nat) : Int32 := if k < 4 then byL nx.toInt64 k else if k < 8 then byL tm.toInt64 (k - 4) else if k < 16 then byL q (k - 8) else if k < 18 then byL fl.toInt64 (k - 16) else if k < 20 then byL st.toInt64 (k - 18) else 0
def bK (nx tm : Int32) (q : Int64) (fl st : Int32) (k : Nat) : Int32 := if k < 30 then bK0 nx tm q fl st k else byL (ckN (bK0 nx tm q fl st) 30).toInt64 (k - 30)
theorem byL_256 (v : Int64) (k : Nat) : ∃ x, x < 256 ∧ byL v k = nI x := by_256 _
theorem bK_256 (nx tm : Int32) (q : Int64) (fl st : Int32) (k : Nat) : ∃ x, x < 256 ∧ bK nx tm q fl st k = nI x := by
  unfold bK bK0
  repeat' split
  all_goals first | exact byL_256 _ _ | exact ⟨0, by decide, rfl⟩
theorem byL_0 (k : Nat) : byL 0 k = 0 := by
  unfold byL
  have : ∀ y : Int64, (0 : Int64) >>> y = 0 := by
    intro y
    apply Int64.toBitVec_inj.mp
    rw [Int64.toBitVec_shiftRight]
    show (0#64).sshiftRight _ = 0#64
    simp
  rw [this]
  decide
section PURE
variable {nc nb : Nat} {σ : ck_S}
def mWr (b m l : Nat) (g : Nat → Int32) (σ : ck_S) : ck_S := ck_ui (ck_ui (pt 11 (32 * ((m - 1) % b)) l g (pt 12 0 32 g σ)) 10 0 8 (nI (m + 1))) 10 0 9 (b2 (decide (l < 32)))
theorem m_write {b m l : Nat} (hb1 : 2 ≤ b) (hb2 : b ≤ 16) (h2 : σ.1 10 0 2 = nI b) (hm1 : 1 ≤ m) (hm2 : m ≤ 2000000000) (hm : σ.1 10 0 8 = nI m) (hl : l ≤ 32) (hc : σ.1 10 0 31 = nI l) {post : ck_S → Prop} (h : post (mWr b m l (bK (σ.1 10 0 8) (σ.1 10 0 10) (σ.2.1 10 0 11) (σ.1 10 0 26) (σ.1 10 0 28)) σ)) : sp_X7_write nc nb σ post := by
  generalize hg : bK (σ.1 10 0 8) (σ.1 10 0 10) (σ.2.1 10 0 11) (σ.1 10 0 26) (σ.1 10 0 28) = g at h
  have g0 : ∀ k, k < 30 → g k = bK0 (σ.1 10 0 8) (σ.1 10 0 10) (σ.2.1 10 0 11) (σ.1 10 0 26) (σ.1 10 0 28) k := by
    intro k hk
    rw [← hg]
    unfold bK
    rw [if_pos hk]
  unfold sp_X7_write
  refine m_put (a := 0) (l := 4) (by omega) ?_
  rw [show pt 12 0 4 (byL (ck_gi σ 10 0 8).toInt64) σ = pt 12 0 4 g σ from by
    have := pt_app (f0 := 12) (a := 0) (l := 4) (g := g) (h := byL (ck_gi σ 10 0 8).toInt64) (fun k hk => by
      rw [Nat.zero_add, g0 _ (by omega)]
      unfold bK0
      rw [if_pos hk]) σ
    rwa [pt_0] at this]
  refine m_put (a := 4) (l := 4) (by omega) ?_
  rw [show pt 12 4 4 (byL (ck_gi (pt 12 0 4 g σ) 10 0 10).toInt64) (pt 12 0 4 g σ) = pt 12 0 8 g σ from pt_app (f0 := 12) (a := 4) (l := 4) (fun k hk => by
      rw [g0 _ (by omega)]
      unfold bK0
      rw [if_neg (by omega), if_pos (by omega), Nat.add_sub_cancel_left]
      rfl) σ]
  refine m_put (a := 8) (l := 8) (by omega) ?_
  rw [show pt 12 8 8 (byL (ck_gj (pt 12 0 8 g σ) 10 0 11)) (pt 12 0 8 g σ) = pt 12 0 16 g σ from pt_app (f0 := 12) (a := 8) (l := 8) (fun k hk => by
      rw [g0 _ (by omega)]
      unfold bK0
      rw [if_neg (by omega), if_neg (by omega), if_pos (by omega), Nat.add_sub_cancel_left]
      rfl) σ]
  refine m_put (a := 16) (l := 2) (by omega) ?_
  rw [show pt 12 16 2 (byL (ck_gi (pt 12 0 16 g σ) 10 0 26).toInt64) (pt 12 0 16 g σ) = pt 12 0 18 g σ from pt_app (f0 := 12) (a := 16) (l := 2) (fun k hk => by
      rw [g0 _ (by omega)]
      unfold bK0
      rw [if_neg (by omega), if_neg (by omega), if_neg (by omega), if_pos (by omega), Nat.add_sub_cancel_left]
      rfl) σ]
  refine m_put (a := 18) (l := 2) (by omega) ?_
  rw [show pt 12 18 2 (byL (ck_gi (pt 12 0 18 g σ) 10 0 28).toInt64) (pt 12 0 18 g σ) = pt 12 0 20 g σ from pt_app (f0 := 12) (a := 18) (l := 2) (fun k hk => by
      rw [g0 _ (by omega)]
      unfold bK0
      rw [if_neg (by omega), if_neg (by omega), if_neg (by omega), if_neg (by omega), if_pos (by omega), Nat.add_sub_cancel_left]
      rfl) σ]
  refine m_put (a := 20) (l := 10) (by omega) ?_
  rw [show pt 12 20 10 (byL 0) (pt 12 0 20 g σ) = pt 12 0 30 g σ from pt_app (f0 := 12) (a := 20) (l := 10) (fun k hk => by
      rw [g0 _ (by omega), byL_0]
      unfold bK0
      rw [if_neg (by omega), if_neg (by omega), if_neg (by omega), if_neg (by omega), if_neg (by omega)]) σ]
  refine cu_3 30 nI (fun j s x1 => pt 12 0 30 g σ = s ∧ ckN g j = x1) ?_ ?_ 0 (by omega) _ _ ⟨rfl, rfl⟩ _ rfl
  · rintro j hj s x1 ⟨rfl, rfl⟩ K hK
    unfold bd_X7_write_71
    rw [nI_clamp (by omega)]
    refine kb_f (nI_ge (b := 30) hj (by decide)) ⟨vp_in_nI (by omega) (by decide), m_checked ?_⟩
    intro w hw
    refine hK _ _ ⟨rfl, ?_⟩ _ (by rw [hw, nI_succ])
    rw [ckN]
    have : ck_gi (pt 12 0 30 g σ) 12 0 j = g j := pt_in (by omega) (by omega)
    rw [this]
  · rintro s x1 ⟨rfl, rfl⟩ K
    unfold bd_X7_write_71
    refine kb_t (by decide) (m_put (a := 30) (l := 2) (by omega) ?_)
    have eck : ckN g 30 = ckN (bK0 (σ.1 10 0 8) (σ.1 10 0 10) (σ.2.1 10 0 11) (σ.1 10 0 26) (σ.1 10 0 28)) 30 := ckN_cong (fun k hk => by rw [g0 k hk])
    rw [show pt 12 30 2 (byL (ckN g 30).toInt64) (pt 12 0 30 g σ) = pt 12 0 32 g σ from pt_app (f0 := 12) (a := 30) (l := 2) (fun k hk => by
      rw [eck, ← hg]
      unfold bK
      rw [if_neg (by omega), Nat.add_sub_cancel_left]) σ]
    have e1 : ck_gi (pt 12 0 32 g σ) 10 0 8 = nI m := hm
    have e2 : ck_gi (pt 12 0 32 g σ) 10 0 2 = nI b := h2
    rw [e1, e2]
    refine al_1 (al_1 ⟨nI_ne0 (by omega) (by omega), ?_⟩)
    rw [show (1 : Int32) = nI 1 from rfl, pk_sub hm1, pk_rem (by omega) (by omega) (by omega), show (32 : Int32) * nI ((m - 1) % b) = nI (32 * ((m - 1) % b)) from pk_mul 32 _]
    refine al_1 ?_
    have hmod : (m - 1) % b < b := Nat.mod_lt _ (by omega)
    unfold mWr at h
    generalize hA : (m - 1) % b = A at hmod h
    refine cu_3 l nI (fun j s x2 => pt 11 (32 * A) j g (pt 12 0 32 g σ) = s ∧ nI (32 * A) = x2) ?_ ?_ 0 (by omega) _ _ ⟨pt_0 _ _ _ _, rfl⟩ _ rfl
    · rintro j hj s x2 ⟨rfl, rfl⟩ K2 hK2
      unfold bd_X7_write_120
      have e3 : ck_gi (pt 11 (32 * A) j g (pt 12 0 32 g σ)) 10 0 31 = nI l := hc
      rw [e3, nI_add]
      refine kb_f (nI_ge hj (by omega)) (al_1 ⟨vp_in_nI (by omega) (by decide), vp_in_nI (by omega) (by decide), ?_⟩)
      rw [nI_clamp (by omega), nI_clamp (by omega)]
      have e4 : ck_gi (pt 11 (32 * A) j g (pt 12 0 32 g σ)) 12 0 j = g j := by
        show (pt 11 (32 * A) j g (pt 12 0 32 g σ)).1 12 0 j = g j
        rw [pt_f (by decide), pt_in (by omega) (by omega)]
        rfl
      rw [e4, pt_succ]
      refine al_1 ?_
      intro w hw
      exact hK2 _ _ ⟨rfl, rfl⟩ _ (by rw [hw, nI_succ])
    · rintro s x2 ⟨rfl, rfl⟩ K2
      unfold bd_X7_write_120
      have e3 : ck_gi (pt 11 (32 * A) l g (pt 12 0 32 g σ)) 10 0 31 = nI l := hc
      have e4 : ck_gi (pt 11 (32 * A) l g (pt 12 0 32 g σ)) 10 0 8 = nI m := hm
      rw [e3, e4]
      refine kb_t (nI_le (Nat.le_refl _) (by omega)) (al_1 ?_)
      have e5 : ∀ v, ck_gi (ck_ui (pt 11 (32 * A) l g (pt 12 0 32 g σ)) 10 0 8 v) 10 0 31 = nI l := fun v => hc
      rw [e5, nI_1]
      refine ⟨fun a => al_1 ?_, fun a => al_1 ?_⟩
      · rw [decide_eq_false (by have := (nI_leI (a := 32) (by decide) (by omega)).mp a; omega)] at h
        exact h
      · rw [decide_eq_true (by
          rcases Nat.lt_or_ge l 32 with q | q
          · exact q
          · exact absurd (nI_le (a := 32) q (by omega)) a)] at h
        exact h
/-! the class -/
def cWr (b m l : Nat) (g : Nat → Int32) (σ : ck_S) : ck_S := ck_ui (pt 7 (32 * ((m - 1) % b)) l (fun k => sg (g k)) (pt 8 0 32 (fun k => sg (g k)) σ)) 6 0 3 (nI (m + 1))
theorem c_write {b m l : Nat} (hb1 : 2 ≤ b) (hb2 : b ≤ 16) (hnb : nb = 32 * b) (h2 : σ.1 6 0 0 = nI b) (hm1 : 1 ≤ m) (hm2 : m ≤ 2000000000) (hm : σ.1 6 0 3 = nI m) (hl : l ≤ 32) (hc : σ.1 6 0 4 = nI l) (hz : ∀ k, 20 ≤ k → k < 30 → σ.1 8 0 k = 0) {tm fl st : Int32} {q : Int64} {post : Int32 → ck_S → Prop} (h : post (b2 (decide (l = 32))) (cWr b m l (bK (σ.1 6 0 3) tm q fl st) σ)) : sp_X1_write nc nb σ tm q fl st post := by
  generalize hg : bK (σ.1 6 0 3) tm q fl st = g at h
  have g0 : ∀ k, k < 30 → g k = bK0 (σ.1 6 0 3) tm q fl st k := by
    intro k hk
    rw [← hg]
    unfold bK
    rw [if_pos hk]
  have gz : ∀ k, 20 ≤ k → k < 30 → g k = 0 := by
    intro k h1 h2
    rw [g0 k h2]
    unfold bK0
    rw [if_neg (by omega), if_neg (by omega), if_neg (by omega), if_neg (by omega), if_neg (by omega)]
  unfold sp_X1_write
  refine c_lay (a := 0) (l := 4) (by omega) (by omega) ?_
  rw [show pt 8 0 4 (fun k => sg (byL (ck_gi σ 6 0 3).toInt64 k)) σ = pt 8 0 4 (fun k => sg (g k)) σ from by
    have := pt_app (f0 := 8) (a := 0) (l := 4) (g := fun k => sg (g k)) (h := fun k => sg (byL (ck_gi σ 6 0 3).toInt64 k)) (fun k hk => by
      show sg _ = sg _
      rw [Nat.zero_add, g0 _ (by omega)]
      unfold bK0
      rw [if_pos hk]) σ
    rwa [pt_0] at this]
  refine c_lay (a := 4) (l := 4) (by omega) (by omega) ?_
  rw [show pt 8 4 4 (fun k => sg (byL tm.toInt64 k)) (pt 8 0 4 (fun k => sg (g k)) σ) = pt 8 0 8 (fun k => sg (g k)) σ from pt_app (f0 := 8) (a := 4) (l := 4) (fun k hk => by
      show sg _ = sg _
      rw [g0 _ (by omega)]
      unfold bK0
      rw [if_neg (by omega), if_pos (by omega), Nat.add_sub_cancel_left]) σ]
  refine c_lay (a := 8) (l := 8) (by omega) (by omega) ?_
  rw [show pt 8 8 8 (fun k => sg (byL q k)) (pt 8 0 8 (fun k => sg (g k)) σ) = pt 8 0 16 (fun k => sg (g k)) σ from pt_app (f0 := 8) (a := 8) (l := 8) (fun k hk => by
      show sg _ = sg _
      rw [g0 _ (by omega)]
      unfold bK0
      rw [if_neg (by omega), if_neg (by omega), if_pos (by omega), Nat.add_sub_cancel_left]) σ]
  refine c_lay (a := 16) (l := 2) (by omega) (by omega) ?_
  rw [show pt 8 16 2 (fun k => sg (byL fl.toInt64 k)) (pt 8 0 16 (fun k => sg (g k)) σ) = pt 8 0 18 (fun k => sg (g k)) σ from pt_app (f0 := 8) (a := 16) (l := 2) (fun k hk => by
      show sg _ = sg _
      rw [g0 _ (by omega)]
      unfold bK0
      rw [if_neg (by omega), if_neg (by omega), if_neg (by omega), if_pos (by omega), Nat.add_sub_cancel_left]) σ]
  refine c_lay (a := 18) (l := 2) (by omega) (by omega) ?_
  rw [show pt 8 18 2 (fun k => sg (byL st.toInt64 k)) (pt 8 0 18 (fun k => sg (g k)) σ) = pt 8 0 20 (fun k => sg (g k)) σ from pt_app (f0 := 8) (a := 18) (l := 2) (fun k hk => by
      show sg _ = sg _
      rw [g0 _ (by omega)]
      unfold bK0
      rw [if_neg (by omega), if_neg (by omega), if_neg (by omega), if_neg (by omega), if_pos (by omega), Nat.add_sub_cancel_left]) σ]
  rw [show pt 8 0 20 (fun k => sg (g k)) σ = pt 8 0 30 (fun k => sg (g k)) σ from pt_keep (f0 := 8) (a := 20) (l := 10) (fun k hk => by
      show _ = sg _
      rw [hz _ (by omega) (by omega), gz _ (by omega) (by omega)]
      decide)]
  refine c_ofRow8 ?_
  have eck : ckN (fun k => (pt 8 0 30 (fun k => sg (g k)) σ).1 8 0 k) 30 = ckN (bK0 (σ.1 6 0 3) tm q fl st) 30 := ckN_cong (fun k hk => by
    show (pt 8 0 30 (fun k => sg (g k)) σ).1 8 0 k &&& 255 = _
    rw [pt_in (by omega) (by omega), Nat.sub_zero, sg_255, g0 k hk])
  rw [eck]
  refine c_lay (a := 30) (l := 2) (by omega) (by omega) ?_
  rw [show pt 8 30 2 (fun k => sg (byL (ckN (bK0 (σ.1 6 0 3) tm q fl st) 30).toInt64 k)) (pt 8 0 30 (fun k => sg (g k)) σ) = pt 8 0 32 (fun k => sg (g k)) σ from pt_app (f0 := 8) (a := 30) (l := 2) (fun k hk => by
      show sg _ = sg _
      rw [← hg]
      unfold bK
      rw [if_neg (by omega), Nat.add_sub_cancel_left]) σ]
  unfold sp_X1_placeOf
  have e1 : ck_gi (pt 8 0 32 (fun k => sg (g k)) σ) 6 0 3 = nI m := hm
  have e2 : ck_gi (pt 8 0 32 (fun k => sg (g k)) σ) 6 0 0 = nI b := h2
  rw [e1, e2, show (1 : Int32) = nI 1 from rfl, pk_sub hm1]
  refine c_floorMod (by omega) (by omega) (by omega) ?_
  show ∀ x_17, x_17 = nI ((m - 1) % b) * 32 → lx_3 (bd_X1_write_82 nc nb post) (pt 8 0 32 (fun k => sg (g k)) σ) x_17 0
  rw [show nI ((m - 1) % b) * (32 : Int32) = nI (32 * ((m - 1) % b)) by rw [Nat.mul_comm]; exact pk_mul _ 32]
  refine al_1 ?_
  have hmod : (m - 1) % b < b := Nat.mod_lt _ (by omega)
  unfold cWr at h
  generalize hA : (m - 1) % b = A at hmod h
  refine cu_3 l nI (fun j s x2 => pt 7 (32 * A) j (fun k => sg (g k)) (pt 8 0 32 (fun k => sg (g k)) σ) = s ∧ nI (32 * A) = x2) ?_ ?_ 0 (by omega) _ _ ⟨pt_0 _ _ _ _, rfl⟩ _ rfl
  · rintro j hj s x2 ⟨rfl, rfl⟩ K2 hK2
    unfold bd_X1_write_82
    have e3 : ck_gi (pt 7 (32 * A) j (fun k => sg (g k)) (pt 8 0 32 (fun k => sg (g k)) σ)) 6 0 4 = nI l := hc
    rw [e3, nI_add]
    refine kb_f (nI_ge hj (by omega)) (al_1 ⟨vp_in_nI (by omega) (by decide), vp_in_nI (by omega) (by omega), ?_⟩)
    rw [nI_clamp (by omega), nI_clamp (by omega)]
    have e4 : ck_gi (pt 7 (32 * A) j (fun k => sg (g k)) (pt 8 0 32 (fun k => sg (g k)) σ)) 8 0 j = sg (g j) := by
      show (pt 7 (32 * A) j (fun k => sg (g k)) (pt 8 0 32 (fun k => sg (g k)) σ)).1 8 0 j = sg (g j)
      rw [pt_f (by decide), pt_in (by omega) (by omega)]
      rfl
    rw [e4, sg_nar, sg_sg]
    refine al_1 ?_
    intro w hw
    refine hK2 _ _ ⟨?_, rfl⟩ _ (by rw [hw, nI_succ])
    exact (pt_succ 7 (32 * A) j (fun k => sg (g k)) _).symm
  · rintro s x2 ⟨rfl, rfl⟩ K2
    unfold bd_X1_write_82
    have e3 : ck_gi (pt 7 (32 * A) l (fun k => sg (g k)) (pt 8 0 32 (fun k => sg (g k)) σ)) 6 0 4 = nI l := hc
    have e4 : ck_gi (pt 7 (32 * A) l (fun k => sg (g k)) (pt 8 0 32 (fun k => sg (g k)) σ)) 6 0 3 = nI m := hm
    rw [e3, e4]
    refine kb_t (nI_le (Nat.le_refl _) (by omega)) (al_1 ?_)
    have e5 : ∀ v, ck_gi (ck_ui (pt 7 (32 * A) l (fun k => sg (g k)) (pt 8 0 32 (fun k => sg (g k)) σ)) 6 0 3 v) 6 0 4 = nI l := fun v => hc
    rw [e5, nI_1, show (32 : Int32) = nI 32 from rfl, nI_eq (by omega) (by decide)]
    refine ⟨fun a => ⟨b2_b false, ?_⟩, fun a => ⟨b2_b true, ?_⟩⟩
    · rw [decide_eq_false a] at h
      exact h
    · rw [decide_eq_true a] at h
      exact h
theorem c_writeBlock {b m l : Nat} (hb1 : 2 ≤ b) (hb2 : b ≤ 16) (hnb : nb = 32 * b) (h2 : σ.1 6 0 0 = nI b) (hm1 : 1 ≤ m) (hm2 : m ≤ 2000000000) (hm : σ.1 6 0 3 = nI m) (hl : l ≤ 32) (hc : σ.1 6 0 4 = nI l) (hz : ∀ k, 20 ≤ k → k < 30 → σ.1 8 0 k = 0) {q : Int64} (hq : ck_dq (σ.2.2 0 0 9) q.toInt 13) (hq0 : 0 ≤ q.toInt) (hq1 : q.toInt ≤ 4000000000) {post : ck_S → Prop} (h : post (ck_ui (cWr b m l (bK (σ.1 6 0 3) (σ.1 0 0 8) q (σ.1 3 0 2) (σ.1 5 0 0)) σ) 0 0 7 (b2 (decide (l < 32))))) : sp_X6_writeBlock nc nb σ post := by
  unfold sp_X6_writeBlock
  have hq' : ck_dq (ck_gd σ 0 0 9) q.toInt 13 := hq
  have dm := ck_dmul hq' kd_8192 (by omega) (by decide)
  refine ⟨ck_dq_n64 dm, al_1 ?_⟩
  have e : (q.toInt * 8192).tdiv ((2 ^ (13 + 0) : Nat) : Int) = q.toInt := by
    rw [Int.tdiv_eq_ediv_of_nonneg (by omega)]
    omega
  rw [ck_d2l dm (by rw [e]; omega) (by rw [e]; omega), e, Int64.ofInt_toInt]
  refine c_write hb1 hb2 hnb h2 hm1 hm2 hm hl hc hz ?_
  rw [b2_0]
  refine ⟨fun a => al_1 ?_, fun a => al_1 ?_⟩
  · rw [Bool.not_eq_false, decide_eq_true_eq] at a
    rw [decide_eq_false (by omega)] at h
    exact h
  · rw [decide_eq_false_iff_not] at a
    rw [decide_eq_true (by omega)] at h
    exact h
end PURE
