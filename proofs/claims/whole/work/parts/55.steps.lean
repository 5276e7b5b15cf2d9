/-! THE STEPS OF A TICK, two by two. -/
/-- the reference's run from μ to ν, whatever the class half -/
def RunM (Q : ck_S → (ck_S → Prop) → Prop) (μ ν : ck_S) : Prop := ∀ γ0 post, post (ck_mk γ0 ν) → Q (ck_mk γ0 μ) post
/-- the class's run from γ, whatever the model half, to a state in Rel -/
def RunC (P : ck_S → (ck_S → Prop) → Prop) (γ : ck_S) (Rel : ck_S → Prop) : Prop := ∀ μ0 post, (∀ γ', Rel γ' → post (ck_mk γ' μ0)) → P (ck_mk γ μ0) post
theorem szZ_L {a : Int64} (h1 : -16000 ≤ a.toInt) (h2 : a.toInt ≤ 16000) : (szL a).toInt = szZ a.toInt := szL_z h1 h2
theorem szZ_b {c : Int} (h1 : -16000 ≤ c) (h2 : c ≤ 16000) : 0 ≤ szZ c ∧ szZ c ≤ 16000 := by unfold szZ; split <;> omega
theorem rNew_z {μ : ck_S} (h1 : -16000 ≤ (μ.2.1 10 0 13).toInt) (h2 : (μ.2.1 10 0 13).toInt ≤ 16000) : rNew μ = rI (μ.1 10 0 17) (μ.2.1 10 0 13).toInt := by
  unfold rNew rI
  rw [← szZ_L h1 h2]
  have : (szL (μ.2.1 10 0 13) < 4) ↔ (szL (μ.2.1 10 0 13)).toInt < 4 := by
    rw [Int64.lt_iff_toInt_lt]
    rfl
  simp only [this]
theorem tNew_z {μ : ck_S} (h1 : -16000 ≤ (μ.2.1 10 0 13).toInt) (h2 : (μ.2.1 10 0 13).toInt ≤ 16000) (h3 : 0 ≤ (μ.2.1 10 0 12).toInt) (h4 : (μ.2.1 10 0 12).toInt < 80000) : (tNew μ).toInt = tZ (μ.2.1 10 0 12).toInt (μ.2.1 10 0 13).toInt := by
  have hz := szZ_L h1 h2
  have hb := szZ_b h1 h2
  unfold tNew tZ
  have e : (μ.2.1 10 0 12 + szL (μ.2.1 10 0 13)).toInt = (μ.2.1 10 0 12).toInt + szZ (μ.2.1 10 0 13).toInt := by
    rw [fb_addL (by omega) (by omega), hz]
  generalize μ.2.1 10 0 12 + szL (μ.2.1 10 0 13) = T at e ⊢
  have i : T < 80000 ↔ T.toInt < 80000 := by rw [Int64.lt_iff_toInt_lt, z_80000]
  by_cases c : T < 80000
  · rw [if_pos c, if_pos (by rw [← e]; exact i.mp c), e]
  · have c' : ¬ T.toInt < 80000 := fun q => c (i.mpr q)
    rw [if_neg c, if_neg (by rw [← e]; exact c'), fb_subL (by rw [z_80000]; omega) (by rw [z_80000]; omega), z_80000, e]
theorem qClamp_z {μ : ck_S} {cap : Int} (hcap : (μ.2.1 10 0 3).toInt = cap) (hc1 : 100 ≤ cap) (hc2 : cap ≤ 400000) (h1 : -16000 ≤ (μ.2.1 10 0 13).toInt) (h2 : (μ.2.1 10 0 13).toInt ≤ 16000) (h3 : 0 ≤ (μ.2.1 10 0 11).toInt) (h4 : (μ.2.1 10 0 11).toInt ≤ 8192 * cap) : (qClamp μ).toInt = qcZ (μ.2.1 10 0 11).toInt (μ.2.1 10 0 13).toInt cap := by
  have e1 : (1024 * μ.2.1 10 0 13).toInt = 1024 * (μ.2.1 10 0 13).toInt := z_mul z_1024 (by omega) (by omega)
  have e2 : (8192 * μ.2.1 10 0 3).toInt = 8192 * cap := by rw [z_mul z_8192 (by omega) (by omega), hcap]
  have e3 : (μ.2.1 10 0 11 - 1024 * μ.2.1 10 0 13).toInt = (μ.2.1 10 0 11).toInt - 1024 * (μ.2.1 10 0 13).toInt := by rw [fb_subL (by omega) (by omega), e1]
  unfold qClamp qcZ
  generalize μ.2.1 10 0 11 - 1024 * μ.2.1 10 0 13 = Y at e3 ⊢
  generalize 8192 * μ.2.1 10 0 3 = M at e2 ⊢
  rw [← e3, ← e2]
  simp only [Int64.lt_iff_toInt_lt]
  have z0 : (0 : Int64).toInt = 0 := by decide
  rw [z0]
  split
  · exact z0
  · split <;> rfl
theorem qRest_z {n : Nat} {R : ck_R} {r : Int32} {capJ q : Int64} {cap : Int} (hcap : capJ.toInt = cap) (hc1 : 100 ≤ cap) (hc2 : cap ≤ 400000) : (qRest n R r capJ q).toInt = qrZ n R r cap q.toInt := by
  unfold qRest qrZ
  split
  · rfl
  · split
    · rfl
    · have tb := told_b (mSum R (6 * n) / nI (6 * n))
      generalize toldF (mSum R (6 * n) / nI (6 * n)) = T at tb ⊢
      have e1 : (8 * capJ).toInt = 8 * cap := by rw [z_mul z_8 (by omega) (by omega), hcap]
      have b1 : 0 ≤ 8 * cap * T.toInt := Int.mul_nonneg (by omega) tb.1
      have b2 : 8 * cap * T.toInt ≤ 8 * cap * 1024 := Int.mul_le_mul_of_nonneg_left tb.2 (by omega)
      rw [fb_mulL (by rw [e1, Int32.toInt_toInt64]; omega) (by rw [e1, Int32.toInt_toInt64]; omega), e1, Int32.toInt_toInt64]
theorem qrZ_b {n : Nat} {R : ck_R} {r : Int32} {cap q : Int} (hc1 : 100 ≤ cap) (h0 : 0 ≤ q) (h1 : q ≤ 8192 * cap) : 0 ≤ qrZ n R r cap q ∧ qrZ n R r cap q ≤ 8192 * cap := by
  unfold qrZ
  split
  · omega
  · split
    · omega
    · have tb := told_b (mSum R (6 * n) / nI (6 * n))
      generalize toldF (mSum R (6 * n) / nI (6 * n)) = T at tb ⊢
      have b1 : 0 ≤ 8 * cap * T.toInt := Int.mul_nonneg (by omega) tb.1
      have b2 : 8 * cap * T.toInt ≤ 8 * cap * 1024 := Int.mul_le_mul_of_nonneg_left tb.2 (by omega)
      omega
theorem qcZ_b {q c cap : Int} (hc1 : 100 ≤ cap) : 0 ≤ qcZ q c cap ∧ qcZ q c cap ≤ 8192 * cap := by
  unfold qcZ
  split
  · omega
  · split <;> omega
def mCountS (n : Nat) (μ : ck_S) : ck_S := ck_ui (ck_uj (ck_uj μ 10 0 11 (qRest n (rp μ) (rNew μ) (μ.2.1 10 0 3) (qClamp μ))) 10 0 12 (tNew μ)) 10 0 17 (rNew μ)
def mAllowS (n : Nat) (cap : Int) (μ : ck_S) : ck_S := ck_uj (ck_uj μ 10 0 23 (Int64.ofInt (300 * min (min (hotZ (mHot (rp μ) n)) (coldZ (mCold (rp μ) n))) (fullZ (μ.2.1 10 0 11).toInt cap)))) 10 0 24 (Int64.ofInt (150 * min (min (hotZ (mHot (rp μ) n)) (coldZ (mCold (rp μ) n))) (fullZ (8192 * cap - (μ.2.1 10 0 11).toInt) cap)))
def mCausesS (n : Nat) (μ : ck_S) : ck_S := mCauses (soF n (rp μ) (μ.2.1 10 0 13).toInt (μ.2.1 10 0 23).toInt (μ.2.1 10 0 24).toInt) μ 7
section STEPS
variable {n b B : Nat} {cap : Int} {γ μ : ck_S}
theorem pr_charge (hB : B ≤ 1000000) (h : RC n b B cap γ μ) (hS : SV n γ μ) : RunM (sp_X7_countCharge n (32 * b)) μ (mCountS n μ) ∧ (mCountS n μ).1 10 0 27 = μ.1 10 0 27 ∧ (mCountS n μ).1 10 0 0 = μ.1 10 0 0 ∧ RunC (sp_X6_moveCharge n (32 * b)) γ (fun γ' => RC n b B cap γ' (mCountS n μ) ∧ SV n γ' (mCountS n μ)) := by
  obtain ⟨h1, ⟨q1, q2, q3⟩, ⟨t1, t2, t3⟩, ⟨a1, a2, a3⟩, h5, ⟨s1, s2, s3, s4, s5, s6, s7, s8, s9⟩, h7, h8, h9, h10⟩ := h
  obtain ⟨k1, k2, k3, k4, k5, k6, k7, k8, k9, k10, k11, k12, k13, k14⟩ := id h1
  have er := rNew_z a2 a3
  have et := tNew_z a2 a3 t2 t3
  have ec := qClamp_z k8 k5 k6 a2 a3 q2 q3
  have eq := qRest_z (n := n) (R := rp μ) (r := rNew μ) (q := qClamp μ) k8 k5 k6
  refine ⟨?_, rfl, rfl, ?_⟩
  · intro γ0 post hp
    refine m_count (σ := ck_mk γ0 μ) k2 k1 k9 (Rc_gR hB h10) t2 t3 a2 a3 ?_
    have e : ck_ui (ck_uj (ck_uj (ck_mk γ0 μ) 10 0 11 (qRest n (rp μ) (rNew μ) (μ.2.1 10 0 3) (qClamp μ))) 10 0 12 (tNew μ)) 10 0 17 (rNew μ) = ck_mk γ0 (ck_ui (ck_uj (ck_uj μ 10 0 11 (qRest n (rp μ) (rNew μ) (μ.2.1 10 0 3) (qClamp μ))) 10 0 12 (tNew μ)) 10 0 17 (rNew μ)) := by
      simp only [muj_10, mui_10]
    exact (congrArg post e).mpr hp
  · intro μ0 post hp
    refine c_move (σ := ck_mk γ μ0) (R := rp μ) k2 k1 hS.1 k7 k5 k6 q1 q2 q3 a1 a2 a3 t1 t2 t3 (fun zq zt dq dt => ?_)
    have er2 : rI ((ck_mk γ μ0).1 0 0 11) (μ.2.1 10 0 13).toInt = rNew μ := by
      show rI (γ.1 0 0 11) _ = _
      rw [er, s4]
    rw [er2] at dq ⊢
    simp only [mud_0, mui_0]
    refine hp _ ⟨⟨h1, ?_, ?_, ⟨a1, a2, a3⟩, h5, ⟨s1, s2, s3, rfl, s5, s6, s7, s8, s9⟩, h7, h8, h9, h10⟩, hS⟩
    · have bb := qcZ_b (q := (μ.2.1 10 0 11).toInt) (c := (μ.2.1 10 0 13).toInt) k5
      have bq := qrZ_b (n := n) (R := rp μ) (r := rNew μ) k5 bb.1 bb.2
      refine ⟨?_, ?_, ?_⟩
      · show ck_dq zq (qRest n (rp μ) (rNew μ) (μ.2.1 10 0 3) (qClamp μ)).toInt 13
        rw [eq, ec]
        exact dq
      · show 0 ≤ (qRest n (rp μ) (rNew μ) (μ.2.1 10 0 3) (qClamp μ)).toInt
        rw [eq, ec]
        exact bq.1
      · show (qRest n (rp μ) (rNew μ) (μ.2.1 10 0 3) (qClamp μ)).toInt ≤ _
        rw [eq, ec]
        exact bq.2
    · have hb := szZ_b a2 a3
      have bt : 0 ≤ tZ (μ.2.1 10 0 12).toInt (μ.2.1 10 0 13).toInt ∧ tZ (μ.2.1 10 0 12).toInt (μ.2.1 10 0 13).toInt < 80000 := by
        unfold tZ
        split <;> omega
      refine ⟨?_, ?_, ?_⟩
      · show ck_dq zt (tNew μ).toInt 3
        rw [et]
        exact dt
      · show 0 ≤ (tNew μ).toInt
        rw [et]
        exact bt.1
      · show (tNew μ).toInt < 80000
        rw [et]
        exact bt.2
theorem pr_allow (hB : B ≤ 1000000) (h : RC n b B cap γ μ) (hS : SV n γ μ) : RunM (sp_X7_allow n (32 * b)) μ (mAllowS n cap μ) ∧ (mAllowS n cap μ).1 10 0 27 = μ.1 10 0 27 ∧ (mAllowS n cap μ).1 10 0 0 = μ.1 10 0 0 ∧ RunC (sp_X6_tellAllowed n (32 * b)) γ (fun γ' => RC n b B cap γ' (mAllowS n cap μ) ∧ SV n γ' (mAllowS n cap μ)) := by
  obtain ⟨h1, ⟨q1, q2, q3⟩, h3, h4, h5, h6, h7, h8, h9, h10⟩ := h
  obtain ⟨k1, k2, k3, k4, k5, k6, k7, k8, k9, k10, k11, k12, k13, k14⟩ := id h1
  have hw := Rc_w h10
  obtain ⟨⟨r1, r2⟩, ⟨r3, r4⟩⟩ := hot_rng (R := rp μ) (n := n) hw
  have hb := hot_b (mHot (rp μ) n)
  have cb := cold_b (mCold (rp μ) n)
  have f1 := full_b q2 k5
  have f2 := full_b (q := 8192 * cap - (μ.2.1 10 0 11).toInt) (by omega) k5
  unfold mAllowS
  generalize hG : 300 * min (min (hotZ (mHot (rp μ) n)) (coldZ (mCold (rp μ) n))) (fullZ (μ.2.1 10 0 11).toInt cap) = G
  generalize hT : 150 * min (min (hotZ (mHot (rp μ) n)) (coldZ (mCold (rp μ) n))) (fullZ (8192 * cap - (μ.2.1 10 0 11).toInt) cap) = T
  have eG : (Int64.ofInt G).toInt = G := by rw [Int64.toInt_ofInt, fb_bmodL (by omega) (by omega)]
  have eT : (Int64.ofInt T).toInt = T := by rw [Int64.toInt_ofInt, fb_bmodL (by omega) (by omega)]
  refine ⟨?_, rfl, rfl, ?_⟩
  · intro γ0 post hp
    refine m_allow (σ := ck_mk γ0 μ) k2 k1 k9 k8 k5 k6 q2 q3 hw r1 r2 r3 r4 (fun g t eg et => ?_)
    have eg : g = Int64.ofInt G := by
      rw [← hG]
      exact (Int64.ofInt_toInt g).symm.trans (congrArg Int64.ofInt eg)
    have et : t = Int64.ofInt T := by
      rw [← hT]
      exact (Int64.ofInt_toInt t).symm.trans (congrArg Int64.ofInt et)
    subst eg et
    simp only [muj_10]
    exact hp
  · intro μ0 post hp
    refine c_tell (σ := ck_mk γ μ0) q1 q2 q3 k7 k5 k6 hS.2.1 r1 r2 hS.2.2 r3 r4 (fun zg zt dg dt => ?_)
    rw [hG] at dg
    rw [hT] at dt
    simp only [mud_0]
    refine hp _ ⟨⟨h1, ⟨q1, q2, q3⟩, h3, h4, ⟨?_, ?_, ?_, ?_, ?_, ?_⟩, h6, h7, h8, h9, h10⟩, hS⟩
    · show ck_dq zg (Int64.ofInt G).toInt 6
      rw [eG]
      exact dg
    · show 0 ≤ (Int64.ofInt G).toInt
      rw [eG]
      omega
    · show (Int64.ofInt G).toInt ≤ 19200
      rw [eG]
      omega
    · show ck_dq zt (Int64.ofInt T).toInt 6
      rw [eT]
      exact dt
    · show 0 ≤ (Int64.ofInt T).toInt
      rw [eT]
      omega
    · show (Int64.ofInt T).toInt ≤ 19200
      rw [eT]
      omega
/-! alarms -/
theorem or_bit {x : Int32} {k : Nat} (hk : k < 31) (h : ¬ (x >>> (nI k &&& 31)) &&& 1 = 0) : x ||| ((1 : Int32) <<< (nI k &&& 31)) = x := by
  have hb : bt x k = true := by
    rcases hq : bt x k with _ | _
    · exfalso
      apply h
      apply b_ext
      intro i hi
      rw [b_and, b_sshr k (by omega) x hi, b_1, b_0]
      by_cases e : i = 0
      · subst e
        rw [if_pos (by omega), Nat.add_zero, hq]
        rfl
      · simp [e]
    · rfl
  apply b_ext
  intro i hi
  rw [b_or, b_shl k (by omega) _ hi, b_1]
  by_cases e : i = k
  · subst e
    rw [hb]
    simp
  · have : decide (i - k = 0) = false ∨ decide (k ≤ i) = false := by
      by_cases q : k ≤ i
      · left; exact decide_eq_false (by omega)
      · right; exact decide_eq_false q
    rcases this with q | q <;> rw [q] <;> simp
theorem shl_k : ∀ k, k < 9 → (1 : Int32) <<< (nI k &&& 31) = nI (2 ^ k) := by decide +kernel
theorem or_nI (a c : Nat) : nI a ||| nI c = nI (a ||| c) := by
  apply Int32.toBitVec_inj.1
  show BitVec.ofNat 32 a ||| BitVec.ofNat 32 c = BitVec.ofNat 32 (a ||| c)
  apply BitVec.eq_of_getLsbD_eq
  intro i hi
  simp [hi]
theorem latch_rel {γ μ : ck_S} (hl : Rl γ μ) (hf : Rf γ μ) {k : Nat} (hk : k < 9) : Rl (cLatch k γ) (mLatch k μ) ∧ Rf (cLatch k γ) (mLatch k μ) := by
  obtain ⟨l1, l2, F, l3, l4⟩ := hl
  obtain ⟨f1, f2⟩ := hf
  have hor : ∃ F', F' < 512 ∧ μ.1 10 0 26 ||| ((1 : Int32) <<< (nI k &&& 31)) = nI F' := by
    refine ⟨F ||| 2 ^ k, Nat.or_lt_two_pow (n := 9) l3 (Nat.pow_lt_pow_right (by decide) hk), ?_⟩
    rw [l4, shl_k k hk, or_nI]
  unfold cLatch mLatch
  rw [l2]
  by_cases hb : (μ.1 10 0 26 >>> (nI k &&& 31)) &&& 1 = 0
  · rw [if_pos hb, if_pos hb]
    refine ⟨⟨l1, rfl, hor⟩, ?_, ?_⟩
    · show (1 : Int32) = if μ.1 10 0 27 = 0 then 1 else 1
      split <;> rfl
    · show ck_b (if μ.1 10 0 27 = 0 then 1 else 1)
      split <;> exact Or.inr rfl
  · rw [if_neg hb, if_neg hb]
    have ef : (if μ.1 10 0 27 = 0 then (0 : Int32) else 1) = μ.1 10 0 27 := by
      rcases f2 with q | q <;> rw [q] <;> rfl
    rw [ef, or_bit (by omega) hb]
    refine ⟨⟨l1, l2, F, l3, l4⟩, f1, f2⟩
theorem cnt_eq (s : Bool) {v : Nat} (hv : v ≤ 255) : cCnt s (nI v) = mCnt s (nI v) ∧ ∃ w, w ≤ 255 ∧ mCnt s (nI v) = nI w := by
  cases s
  · exact ⟨rfl, 0, by decide, rfl⟩
  · exact (by decide +kernel : ∀ v, v ≤ 255 → cCnt true (nI v) = mCnt true (nI v) ∧ ∃ w, w ≤ 255 ∧ mCnt true (nI v) = nI w) v hv
theorem watch_rel {γ μ : ck_S} (hl : Rl γ μ) (hf : Rf γ μ) (hd : γ.1 3 0 0 = μ.1 10 0 4) {k : Nat} (hk : k < 7) (s : Bool) : Rl (cWatch k s γ) (mCause k s μ) ∧ Rf (cWatch k s γ) (mCause k s μ) := by
  obtain ⟨l1, l2⟩ := id hl
  obtain ⟨e, x, hx, ex⟩ := l1 k hk
  have ce := cnt_eq s hx
  rw [← ex] at ce
  have hl2 : Rl (ck_ui γ 4 0 k (mCnt s (μ.1 19 0 k))) (ck_ui μ 19 0 k (mCnt s (μ.1 19 0 k))) := by
    refine ⟨fun j hj => ?_, l2⟩
    show (if 4 = 4 ∧ 0 = 0 ∧ j = k then _ else γ.1 4 0 j) = (if 19 = 19 ∧ 0 = 0 ∧ j = k then _ else μ.1 19 0 j) ∧ ∃ x, x ≤ 255 ∧ (if 19 = 19 ∧ 0 = 0 ∧ j = k then _ else μ.1 19 0 j) = nI x
    by_cases q : j = k
    · subst q
      simp only [and_self, if_true]
      exact ⟨trivial, ce.2⟩
    · simp only [q, and_false, if_false]
      exact l1 j hj
  unfold cWatch mCause
  rw [e, ce.1, hd]
  split
  · exact ⟨hl2, hf⟩
  · exact latch_rel hl2 hf (by omega)
/-- only 26 and 27 of family 10, and family 19 -/
def Fe (σ τ : ck_S) : Prop := τ.2 = σ.2 ∧ (∀ f, f ≠ 10 → f ≠ 19 → τ.1 f = σ.1 f) ∧ ∀ k, k ≠ 26 → k ≠ 27 → τ.1 10 0 k = σ.1 10 0 k
theorem Fe_refl (σ : ck_S) : Fe σ σ := ⟨rfl, fun _ _ _ => rfl, fun _ _ _ => rfl⟩
theorem Fe_trans {σ τ υ : ck_S} (h1 : Fe σ τ) (h2 : Fe τ υ) : Fe σ υ := ⟨h2.1.trans h1.1, fun f a b => (h2.2.1 f a b).trans (h1.2.1 f a b), fun k a b => (h2.2.2 k a b).trans (h1.2.2 k a b)⟩
theorem Fe_10 (σ : ck_S) {k : Nat} (hk : k = 26 ∨ k = 27) (v : Int32) : Fe σ (ck_ui σ 10 0 k v) := by
  refine ⟨rfl, fun f a b => ?_, fun q a b => ?_⟩
  · funext i j
    simp [ck_ui, ck_up, a]
  · have : q ≠ k := by omega
    simp [ck_ui, ck_up, this]
theorem Fe_19 (σ : ck_S) (k : Nat) (v : Int32) : Fe σ (ck_ui σ 19 0 k v) := by
  refine ⟨rfl, fun f a b => ?_, fun q a b => ?_⟩
  · funext i j
    simp [ck_ui, ck_up, b]
  · simp [ck_ui, ck_up]
theorem Fe_latch (k : Nat) (σ : ck_S) : Fe σ (mLatch k σ) := Fe_trans (Fe_10 _ (by omega) _) (Fe_10 _ (by omega) _)
theorem Fe_cause (k : Nat) (s : Bool) (σ : ck_S) : Fe σ (mCause k s σ) := by
  unfold mCause
  split
  · exact Fe_19 _ _ _
  · exact Fe_trans (Fe_19 _ _ _) (Fe_latch _ _)
theorem Fe_causes (s : Nat → Bool) (σ : ck_S) : ∀ j, Fe σ (mCauses s σ j)
  | 0 => Fe_refl σ
  | j + 1 => Fe_trans (Fe_causes s σ j) (Fe_cause _ _ _)
theorem watches_rel {γ μ : ck_S} (hl : Rl γ μ) (hf : Rf γ μ) (hd : γ.1 3 0 0 = μ.1 10 0 4) (s : Nat → Bool) : ∀ j, j ≤ 7 → Rl (cWatches s γ j) (mCauses s μ j) ∧ Rf (cWatches s γ j) (mCauses s μ j)
  | 0, _ => ⟨hl, hf⟩
  | j + 1, hj => by
    have ih := watches_rel hl hf hd s j (by omega)
    refine watch_rel ih.1 ih.2 ?_ (by omega) (s j)
    rw [(Fa_watches s γ j).2.2, (Fe_causes s μ j).2.2 4 (by decide) (by decide), hd]
/-- the relation, where the class's families 3, 4, 5 and the reference's 19 and 26 to 29 of 10 have changed -/
theorem RC_al {γ' μ' : ck_S} (h : RC n b B cap γ μ) (c2 : γ'.2 = γ.2) (cf : ∀ f, f ≠ 3 → f ≠ 4 → f ≠ 5 → γ'.1 f = γ.1 f) (c3 : γ'.1 3 0 0 = γ.1 3 0 0) (F : Fc μ μ') (hl : Rl γ' μ') (ho : Ro γ' μ') : RC n b B cap γ' μ' := by
  obtain ⟨h1, h2, h3, h4, h5, h6, h7, h8, h9, h10⟩ := h
  have f10 := F.2.2
  have g1 := f10 1 (by decide) (by decide) (by decide) (by decide)
  have g2 := f10 2 (by decide) (by decide) (by decide) (by decide)
  have g4 := f10 4 (by decide) (by decide) (by decide) (by decide)
  have g5 := f10 5 (by decide) (by decide) (by decide) (by decide)
  have g8 := f10 8 (by decide) (by decide) (by decide) (by decide)
  have g9 := f10 9 (by decide) (by decide) (by decide) (by decide)
  have ga := f10 10 (by decide) (by decide) (by decide) (by decide)
  have gf := f10 15 (by decide) (by decide) (by decide) (by decide)
  have gg := f10 16 (by decide) (by decide) (by decide) (by decide)
  have gh := f10 17 (by decide) (by decide) (by decide) (by decide)
  have gi := f10 31 (by decide) (by decide) (by decide) (by decide)
  have e11 := F.2.1 11 (by decide) (by decide)
  have e20 := F.2.1 20 (by decide) (by decide)
  have e0 := cf 0 (by decide) (by decide) (by decide)
  have e6 := cf 6 (by decide) (by decide) (by decide)
  have e7 := cf 7 (by decide) (by decide) (by decide)
  have e8 := cf 8 (by decide) (by decide) (by decide)
  have e30 := cf 30 (by decide) (by decide) (by decide)
  have e31 := cf 31 (by decide) (by decide) (by decide)
  have e32 := cf 32 (by decide) (by decide) (by decide)
  have er := Fc_rp F
  refine ⟨?_, ?_, ?_, ?_, ?_, ?_, hl, ho, ?_, ?_⟩
  · unfold Rk at h1 ⊢
    rw [e0, e6, c3, F.1, g1, g2, g4, g5]
    exact h1
  · unfold Rq at h2 ⊢
    rw [c2, F.1]
    exact h2
  · unfold Rt at h3 ⊢
    rw [c2, F.1]
    exact h3
  · unfold Ra at h4 ⊢
    rw [c2, F.1]
    exact h4
  · unfold Rg at h5 ⊢
    rw [c2, F.1]
    exact h5
  · unfold Rs at h6 ⊢
    rw [e0, g9, ga, gf, gg, gh]
    exact h6
  · unfold Rb sJ at h9 ⊢
    rw [e6, e7, e8, g8, gi, e11]
    exact h9
  · intro c hc
    have := h10 c hc
    have ec : cp γ' c = cp γ c := by
      show (γ'.1 30 c, γ'.1 31 c, γ'.1 32 c, γ'.2.2 33 c, γ'.2.2 30 c) = _
      rw [e30, e31, e32, c2]
    rw [ec, er, e30, e20]
    exact this
theorem SV_al {γ' μ' : ck_S} (h : SV n γ μ) (c2 : γ'.2 = γ.2) (e2 : γ'.1 2 = γ.1 2) (F : Fc μ μ') : SV n γ' μ' := by
  unfold SV SVp SVd at h ⊢
  rw [Fc_rp F, c2, e2]
  exact h
theorem mLatch_mk (k : Nat) (γ μ : ck_S) : mLatch k (ck_mk γ μ) = ck_mk γ (mLatch k μ) := by
  unfold mLatch
  simp only [mi_10, mui_10]
  rfl
theorem mCause_mk (k : Nat) (s : Bool) (γ μ : ck_S) : mCause k s (ck_mk γ μ) = ck_mk γ (mCause k s μ) := by
  unfold mCause
  simp only [mi_10, mi_19, mui_19, mLatch_mk]
  split <;> rfl
theorem mCauses_mk (s : Nat → Bool) (γ μ : ck_S) : ∀ j, mCauses s (ck_mk γ μ) j = ck_mk γ (mCauses s μ j)
  | 0 => rfl
  | j + 1 => by rw [mCauses, mCauses, mCauses_mk s γ μ j, mCause_mk]
theorem cLatch_mk (k : Nat) (γ μ : ck_S) : cLatch k (ck_mk γ μ) = ck_mk (cLatch k γ) μ := by
  unfold cLatch
  simp only [mi_3, mui_3]
  split <;> rfl
theorem cWatch_mk (k : Nat) (s : Bool) (γ μ : ck_S) : cWatch k s (ck_mk γ μ) = ck_mk (cWatch k s γ) μ := by
  unfold cWatch
  simp only [mi_3, mi_4, mui_4, cLatch_mk]
  split <;> rfl
theorem cWatches_mk (s : Nat → Bool) (γ μ : ck_S) : ∀ j, cWatches s (ck_mk γ μ) j = ck_mk (cWatches s γ j) μ
  | 0 => rfl
  | j + 1 => by rw [cWatches, cWatches, cWatches_mk s γ μ j, cWatch_mk]
theorem pr_causes (hB : B ≤ 1000000) (h : RC n b B cap γ μ) (hS : SV n γ μ) (h27 : μ.1 10 0 27 = 0) : RunM (sp_X7_causes n (32 * b)) μ (mCausesS n μ) ∧ (mCausesS n μ).1 10 0 0 = μ.1 10 0 0 ∧ RunC (sp_X6_watchCauses n (32 * b)) γ (fun γ' => RC n b B cap γ' (mCausesS n μ) ∧ SV n γ' (mCausesS n μ) ∧ Rf γ' (mCausesS n μ)) := by
  obtain ⟨h1, h2, h3, ⟨a1, a2, a3⟩, ⟨g1, g2, g3, g4, g5, g6⟩, h6, h7, h8, h9, h10⟩ := id h
  obtain ⟨k1, k2, k3, k4, k5, k6, k7, k8, k9, k10, k11, k12, k13, k14⟩ := id h1
  have hw := Rc_w h10 0 (by omega)
  unfold mCausesS
  generalize hs : soF n (rp μ) (μ.2.1 10 0 13).toInt (μ.2.1 10 0 23).toInt (μ.2.1 10 0 24).toInt = s
  refine ⟨?_, (Fe_causes s μ 7).2.2 0 (by decide) (by decide), ?_⟩
  · intro γ0 post hp
    refine m_causes (σ := ck_mk γ0 μ) k2 k1 k9 (Rc_gR hB h10) hw.1 hw.2 rfl a2 a3 rfl g2 g3 rfl g5 g6 ?_
    have e : soF n (rp (ck_mk γ0 μ)) ((ck_mk γ0 μ).2.1 10 0 13).toInt ((ck_mk γ0 μ).2.1 10 0 23).toInt ((ck_mk γ0 μ).2.1 10 0 24).toInt = s := hs
    rw [e, mCauses_mk]
    exact hp
  · intro μ0 post hp
    refine c_watchCauses (σ := ck_mk γ μ0) (R := rp μ) hS.1 hS.2 a1 a2 a3 g1 g2 g3 g4 g5 g6 ?_
    rw [hs, mui_3, cWatches_mk]
    have hf0 : Rf (ck_ui γ 3 0 3 0) μ := ⟨h27.symm, by rw [h27]; exact Or.inl rfl⟩
    have W := watches_rel (γ := ck_ui γ 3 0 3 0) (μ := μ) h7 hf0 k14 s 7 (by omega)
    have A : Fa γ (cWatches s (ck_ui γ 3 0 3 0) 7) := Fa_trans (Fa_3 _ (by omega) _) (Fa_watches _ _ 7)
    have D := Fe_causes s μ 7
    have ho : Ro (cWatches s (ck_ui γ 3 0 3 0) 7) (mCauses s μ 7) := by
      unfold Ro at h8 ⊢
      rw [A.2.1 5 (by decide) (by decide), D.2.2 28 (by decide) (by decide), D.2.2 29 (by decide) (by decide)]
      exact h8
    exact hp _ ⟨RC_al h A.1 (fun f p q _ => A.2.1 f p q) A.2.2 (Fc_causes s μ 7) W.1 ho, SV_al hS A.1 (A.2.1 2 (by decide) (by decide)) (Fc_causes s μ 7), W.2⟩
end STEPS
