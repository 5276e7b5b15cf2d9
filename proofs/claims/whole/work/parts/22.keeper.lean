def sp_X6_chips (nc nb : Nat) (σ : ck_S) (post : Int32 → ck_S → Prop) : Prop := post (nI nc) σ
set_option maxHeartbeats 4000000 in
set_option maxRecDepth 100000 in
theorem wk_X6_chips_0 {p : Program} {l : Launch} {e : Env} {s : State} {m : MethodId} {args : Array Value} {below : List Frame} {meth : Method} {c : Code} {G : ck_G} (X : ck_X p s m meth c args cX6_chips 1 (some .int) RX6 wsX6_chips) (hC : ck_inC G) {post : Int32 → ck_S → Prop} {σ : ck_S} {H : Heap} {locs : List Loc} {ls : Array Slot} (h : sp_X6_chips (ck_nc G) (ck_nb G) σ post) (hw : ck_H G s H locs σ) (hl : lv_has ls 1 [(0, .ref (ck_ad G 0 0))]) : W p l e ({ frames := 0, cells := 0, slots := 0, locals := 0 } : Room) s m args below meth c H locs 0 0 (MQ below (va_Qi post (ck_Q G) (ck_A G s.heap.size)) args s 0 0 (ck_A G s.heap.size)) (F0 m 0 ls []) := by
  obtain ⟨hx, hb, hr, hml, hown, hts, hlocks⟩ := id X
  have inX6 : ∀ w ∈ wsX60, w ∈ wsX6_chips := fun _ h => List.mem_cons_of_mem _ (List.mem_append_right _ (h))
  unfold sp_X6_chips at h
  refine lv_aload_n hx hb dX6_chips_0 rfl (lv_at hl 0 rfl) ?_
  refine ck_get hx hb hts inX6 hown hw (hC.1 0 (by decide)) rfl rfl 0 (by decide) (hts _ (List.mem_of_getElem? (i := 1) rfl)) rfl dX6_chips_1 ?_
  refine ck_alen hx hb hw (hC.1 1 (by decide)) rfl 4 rfl rfl dX6_chips_4 ?_
  exact ck_iret X hw h dX6_chips_5
set_option maxHeartbeats 4000000 in
set_option maxRecDepth 100000 in
theorem ct_X6_chips (l : Launch) (G : ck_G) (hC : ck_inC G) {σ : ck_S} {post : Int32 → ck_S → Prop} (h : sp_X6_chips (ck_nc G) (ck_nb G) σ post) : ck_Mi l yX6_chips wsX6_chips ({ frames := 0, cells := 0, slots := 0, locals := 0 } : Room) G σ [.ref (ck_ad G 0 0)] post := by
  intro sz
  refine Met.ofW (cc := cX6_chips) (maxL := 1) (ret := (some .int)) (by decide) rfl ?_
  intro p e s m args below meth c s₁ B hml hv
  obtain ⟨rfl, rfl, hw⟩ := ck_enter hv
  have hl := lv_entry ([.ref (ck_ad G 0 0)]) (n := 1) (Nat.le_of_ble_eq_true rfl)
  rw [lg_entry_eq]
  generalize (lg_sl ([.ref (ck_ad G 0 0)]) ++ List.replicate (1 - (lg_sl ([.ref (ck_ad G 0 0)])).length) Slot.unset).toArray = ls at hl ⊢
  have hl : lv_has ls 1 [(0, .ref (ck_ad G 0 0))] := hl
  exact wk_X6_chips_0 ⟨B.exec, B.bytes, B.returns, hml, findClass_of_methodNamed B.named, atoms_spec (ws := wsX6_chips) B.pre, B.notSynchronized⟩ hC h hw hl
def sp_X6_seal (nc nb : Nat) (σ : ck_S) (a0 : Int64) (a1 : Int64) (post : Int32 → ck_S → Prop) : Prop := sp_X2_ofReply nc nb σ a0 a1 (fun x_2 σ1 => post x_2 σ1)
set_option maxHeartbeats 4000000 in
set_option maxRecDepth 100000 in
theorem wk_X6_seal_0 {p : Program} {l : Launch} {e : Env} {s : State} {m : MethodId} {args : Array Value} {below : List Frame} {meth : Method} {c : Code} {G : ck_G} (X : ck_X p s m meth c args cX6_seal 5 (some .int) RX6 wsX6_seal) (hC : ck_inC G) {post : Int32 → ck_S → Prop} {σ : ck_S} {a0 : Int64} {a1 : Int64} {H : Heap} {locs : List Loc} {ls : Array Slot} (h : sp_X6_seal (ck_nc G) (ck_nb G) σ a0 a1 post) (hw : ck_H G s H locs σ) (hl : lv_has ls 5 [(0, .ref (ck_ad G 0 0)), (1, .long a0), (3, .long a1)]) : W p l e ({ frames := 2, cells := 0, slots := 0, locals := 49 } : Room) s m args below meth c H locs 0 0 (MQ below (va_Qi post (ck_Q G) (ck_A G s.heap.size)) args s 0 0 (ck_A G s.heap.size)) (F0 m 0 ls []) := by
  obtain ⟨hx, hb, hr, hml, hown, hts, hlocks⟩ := id X
  unfold sp_X6_seal at h
  refine lv_lload_n hx hb dX6_seal_0 rfl (lv_at hl 1 rfl) ?_
  refine lv_lload_n hx hb dX6_seal_1 rfl (lv_at hl 2 rfl) ?_
  refine ck_callSi (rest := []) ⟨hx, hb, hml, hown, hts⟩ hw (ct_X2_ofReply l G h) (va_cwS 2 hts gX6_seal_X2_ofReply rfl rfl rfl (by decide +kernel) ⟨(Nat.le_of_ble_eq_true rfl), (Nat.le_of_ble_eq_true rfl)⟩) rfl hl.1 rfl (Nat.le_of_ble_eq_true rfl) dX6_seal_2 ⟨(Nat.le_of_ble_eq_true rfl), (Nat.le_of_ble_eq_true rfl)⟩ (fun x_2 σ1 H locs h hw => ?_)
  exact ck_iret X hw h dX6_seal_5
set_option maxHeartbeats 4000000 in
set_option maxRecDepth 100000 in
theorem ct_X6_seal (l : Launch) (G : ck_G) (hC : ck_inC G) {a0 : Int64} {a1 : Int64} {σ : ck_S} {post : Int32 → ck_S → Prop} (h : sp_X6_seal (ck_nc G) (ck_nb G) σ a0 a1 post) : ck_Mi l yX6_seal wsX6_seal ({ frames := 2, cells := 0, slots := 0, locals := 49 } : Room) G σ [.ref (ck_ad G 0 0), .long a0, .long a1] post := by
  intro sz
  refine Met.ofW (cc := cX6_seal) (maxL := 5) (ret := (some .int)) (by decide) rfl ?_
  intro p e s m args below meth c s₁ B hml hv
  obtain ⟨rfl, rfl, hw⟩ := ck_enter hv
  have hl := lv_entry ([.ref (ck_ad G 0 0), .long a0, .long a1]) (n := 5) (Nat.le_of_ble_eq_true rfl)
  rw [lg_entry_eq]
  generalize (lg_sl ([.ref (ck_ad G 0 0), .long a0, .long a1]) ++ List.replicate (5 - (lg_sl ([.ref (ck_ad G 0 0), .long a0, .long a1])).length) Slot.unset).toArray = ls at hl ⊢
  have hl : lv_has ls 5 [(0, .ref (ck_ad G 0 0)), (1, .long a0), (3, .long a1)] := hl
  exact wk_X6_seal_0 ⟨B.exec, B.bytes, B.returns, hml, findClass_of_methodNamed B.named, atoms_spec (ws := wsX6_seal) B.pre, B.notSynchronized⟩ hC h hw hl
def sp_X6_off (nc nb : Nat) (σ : ck_S) (post : Int32 → ck_S → Prop) : Prop := (ck_b (ck_gi σ 0 0 7) ∧ post (ck_gi σ 0 0 7) σ)
set_option maxHeartbeats 4000000 in
set_option maxRecDepth 100000 in
theorem wk_X6_off_0 {p : Program} {l : Launch} {e : Env} {s : State} {m : MethodId} {args : Array Value} {below : List Frame} {meth : Method} {c : Code} {G : ck_G} (X : ck_X p s m meth c args cX6_off 1 (some .boolean) RX6 wsX6_off) (hC : ck_inC G) {post : Int32 → ck_S → Prop} {σ : ck_S} {H : Heap} {locs : List Loc} {ls : Array Slot} (h : sp_X6_off (ck_nc G) (ck_nb G) σ post) (hw : ck_H G s H locs σ) (hl : lv_has ls 1 [(0, .ref (ck_ad G 0 0))]) : W p l e ({ frames := 0, cells := 0, slots := 0, locals := 0 } : Room) s m args below meth c H locs 0 0 (MQ below (va_Qi post (ck_Q G) (ck_A G s.heap.size)) args s 0 0 (ck_A G s.heap.size)) (F0 m 0 ls []) := by
  obtain ⟨hx, hb, hr, hml, hown, hts, hlocks⟩ := id X
  have inX6 : ∀ w ∈ wsX60, w ∈ wsX6_off := fun _ h => List.mem_cons_of_mem _ (List.mem_append_right _ (h))
  unfold sp_X6_off at h
  refine lv_aload_n hx hb dX6_off_0 rfl (lv_at hl 0 rfl) ?_
  refine ck_get hx hb hts inX6 hown hw (hC.1 0 (by decide)) rfl rfl 7 (by decide) (hts _ (List.mem_of_getElem? (i := 1) rfl)) rfl dX6_off_1 ?_
  exact ck_zret X hw h dX6_off_4
set_option maxHeartbeats 4000000 in
set_option maxRecDepth 100000 in
theorem ct_X6_off (l : Launch) (G : ck_G) (hC : ck_inC G) {σ : ck_S} {post : Int32 → ck_S → Prop} (h : sp_X6_off (ck_nc G) (ck_nb G) σ post) : ck_Mi l yX6_off wsX6_off ({ frames := 0, cells := 0, slots := 0, locals := 0 } : Room) G σ [.ref (ck_ad G 0 0)] post := by
  intro sz
  refine Met.ofW (cc := cX6_off) (maxL := 1) (ret := (some .boolean)) (by decide) rfl ?_
  intro p e s m args below meth c s₁ B hml hv
  obtain ⟨rfl, rfl, hw⟩ := ck_enter hv
  have hl := lv_entry ([.ref (ck_ad G 0 0)]) (n := 1) (Nat.le_of_ble_eq_true rfl)
  rw [lg_entry_eq]
  generalize (lg_sl ([.ref (ck_ad G 0 0)]) ++ List.replicate (1 - (lg_sl ([.ref (ck_ad G 0 0)])).length) Slot.unset).toArray = ls at hl ⊢
  have hl : lv_has ls 1 [(0, .ref (ck_ad G 0 0))] := hl
  exact wk_X6_off_0 ⟨B.exec, B.bytes, B.returns, hml, findClass_of_methodNamed B.named, atoms_spec (ws := wsX6_off) B.pre, B.notSynchronized⟩ hC h hw hl
def sp_X6_nearest (nc nb : Nat) (σ : ck_S) (a0 : Int32) (a1 : Int32) (a2 : Int32) (post : Int32 → ck_S → Prop) : Prop := post (if a1 < (if a0 < a2 then a0 else a2) then (if a0 < a2 then a0 else a2) else a1) σ
set_option maxHeartbeats 4000000 in
set_option maxRecDepth 100000 in
theorem wk_X6_nearest_0 {p : Program} {l : Launch} {e : Env} {s : State} {m : MethodId} {args : Array Value} {below : List Frame} {meth : Method} {c : Code} {G : ck_G} (X : ck_X p s m meth c args cX6_nearest 3 (some .int) RX6 wsX6_nearest) {post : Int32 → ck_S → Prop} {σ : ck_S} {a0 : Int32} {a1 : Int32} {a2 : Int32} {H : Heap} {locs : List Loc} {ls : Array Slot} (h : sp_X6_nearest (ck_nc G) (ck_nb G) σ a0 a1 a2 post) (hw : ck_H G s H locs σ) (hl : lv_has ls 3 [(0, .int a0), (1, .int a1), (2, .int a2)]) : W p l e ({ frames := 1, cells := 0, slots := 0, locals := 24 } : Room) s m args below meth c H locs 0 0 (MQ below (va_Qi post (ck_Q G) (ck_A G s.heap.size)) args s 0 0 (ck_A G s.heap.size)) (F0 m 0 ls []) := by
  obtain ⟨hx, hb, hr, hml, hown, hts, hlocks⟩ := id X
  unfold sp_X6_nearest at h
  refine lv_iload_n hx hb dX6_nearest_0 rfl (lv_at hl 1 rfl) ?_
  refine lv_iload_n hx hb dX6_nearest_1 rfl (lv_at hl 2 rfl) ?_
  refine lv_iload_n hx hb dX6_nearest_2 rfl (lv_at hl 0 rfl) ?_
  refine va_mmin hx hb (hml.trans hl.1.symm) hown (hts _ (List.mem_of_getElem? (i := 1) rfl)) (hts _ (List.mem_of_getElem? (i := 2) rfl)) (hts _ (List.mem_of_getElem? (i := 3) rfl)) (hts _ (List.mem_of_getElem? (i := 4) rfl)) (Nat.le_of_ble_eq_true rfl) (Nat.le_of_ble_eq_true rfl) (Nat.le_of_ble_eq_true rfl) (Nat.le_of_ble_eq_true rfl) dX6_nearest_3 ?_
  refine va_mmax hx hb (hml.trans hl.1.symm) hown (hts _ (List.mem_of_getElem? (i := 5) rfl)) (hts _ (List.mem_of_getElem? (i := 6) rfl)) (hts _ (List.mem_of_getElem? (i := 3) rfl)) (hts _ (List.mem_of_getElem? (i := 7) rfl)) (Nat.le_of_ble_eq_true rfl) (Nat.le_of_ble_eq_true rfl) (Nat.le_of_ble_eq_true rfl) (Nat.le_of_ble_eq_true rfl) dX6_nearest_6 ?_
  exact ck_iret X hw h dX6_nearest_9
set_option maxHeartbeats 4000000 in
set_option maxRecDepth 100000 in
theorem ct_X6_nearest (l : Launch) (G : ck_G) {a0 : Int32} {a1 : Int32} {a2 : Int32} {σ : ck_S} {post : Int32 → ck_S → Prop} (h : sp_X6_nearest (ck_nc G) (ck_nb G) σ a0 a1 a2 post) : ck_Mi l yX6_nearest wsX6_nearest ({ frames := 1, cells := 0, slots := 0, locals := 24 } : Room) G σ [.int a0, .int a1, .int a2] post := by
  intro sz
  refine Met.ofW (cc := cX6_nearest) (maxL := 3) (ret := (some .int)) (by decide) rfl ?_
  intro p e s m args below meth c s₁ B hml hv
  obtain ⟨rfl, rfl, hw⟩ := ck_enter hv
  have hl := lv_entry ([.int a0, .int a1, .int a2]) (n := 3) (Nat.le_of_ble_eq_true rfl)
  rw [lg_entry_eq]
  generalize (lg_sl ([.int a0, .int a1, .int a2]) ++ List.replicate (3 - (lg_sl ([.int a0, .int a1, .int a2])).length) Slot.unset).toArray = ls at hl ⊢
  have hl : lv_has ls 3 [(0, .int a0), (1, .int a1), (2, .int a2)] := hl
  exact wk_X6_nearest_0 ⟨B.exec, B.bytes, B.returns, hml, findClass_of_methodNamed B.named, atoms_spec (ws := wsX6_nearest) B.pre, B.notSynchronized⟩ h hw hl
def bd_X6_beginAnew_60 (nc nb : Nat) (post : ck_S → Prop) (K60 : ck_S → Int32 → Int32 → Prop) (σ : ck_S) (x2 : Int32) (x3 : Int32) : Prop := ((x2 ≤ x3 → (sp_X0_beginAnew nc nb σ (fun σ2 => sp_X4_beginAnew nc nb σ2 (fun σ4 => sp_X1_beginAnew nc nb σ4 (fun σ6 => post σ6))))) ∧ (¬ x2 ≤ x3 → ((vp_in x3 nc) ∧ ∀ j9, j9 = Int32.toNatClampNeg x3 → sp_X3_beginAnew nc nb σ j9 (fun σ10 => ∀ x_12, x_12 = x3 + 1 → K60 σ10 x2 x_12))))
def sp_X6_beginAnew (nc nb : Nat) (σ : ck_S) (post : ck_S → Prop) : Prop := ∀ σ1, σ1 = ck_ui σ 0 0 7 0 → ∀ σ2, σ2 = ck_ui σ1 0 0 8 0 → ∀ σ3, σ3 = ck_ud σ2 0 0 9 FP.dconst0 → ∀ σ4, σ4 = ck_ud σ3 0 0 10 FP.dconst0 → ∀ σ5, σ5 = ck_ui σ4 0 0 11 0 → ∀ σ6, σ6 = ck_ud σ5 0 0 12 FP.dconst0 → ∀ σ7, σ7 = ck_ui σ6 0 0 13 0 → ∀ σ8, σ8 = ck_ui σ7 0 0 14 0 → ∀ σ9, σ9 = ck_ud σ8 0 0 15 FP.dconst0 → ∀ σ10, σ10 = ck_ud σ9 0 0 16 FP.dconst0 → ∀ x_11, x_11 = (nI nc) → lx_3 (bd_X6_beginAnew_60 nc nb post) σ10 x_11 0
set_option maxHeartbeats 4000000 in
set_option maxRecDepth 100000 in
theorem wk_X6_beginAnew_60 {p : Program} {l : Launch} {e : Env} {s : State} {m : MethodId} {args : Array Value} {below : List Frame} {meth : Method} {c : Code} {G : ck_G} (X : ck_X p s m meth c args cX6_beginAnew 5 none RX6 wsX6_beginAnew) (hC : ck_inC G) {post : ck_S → Prop} : ∀ (fu : Nat) (σ : ck_S) (x2 : Int32) (x3 : Int32) (H : Heap) (locs : List Loc) (ls : Array Slot), lk_3 (bd_X6_beginAnew_60 (ck_nc G) (ck_nb G) post) fu σ x2 x3 → ck_H G s H locs σ → lv_has ls 5 [(0, .ref (ck_ad G 0 0)), (1, .ref (ck_ad G 1 0)), (2, .int x2), (3, .int x3)] → W p l e ({ frames := 1, cells := 0, slots := 0, locals := 21 } : Room) s m args below meth c H locs 0 0 (MQ below (va_Qv post (ck_Q G) (ck_A G s.heap.size)) args s 0 0 (ck_A G s.heap.size)) (F0 m 60 ls []) := by
  obtain ⟨hx, hb, hr, hml, hown, hts, hlocks⟩ := id X
  have inX6 : ∀ w ∈ wsX60, w ∈ wsX6_beginAnew := fun _ h => List.mem_cons_of_mem _ (List.mem_append_left _ (List.mem_append_left _ (List.mem_append_left _ (List.mem_append_left _ (List.mem_append_right _ (h))))))
  intro fu
  induction fu with
  | zero => intro σ x2 x3 H locs ls h hw hl; exact h.elim
  | succ fu hK60 =>
    intro σ x2 x3 H locs ls h hw hl
    have h : bd_X6_beginAnew_60 (ck_nc G) (ck_nb G) post (lk_3 (bd_X6_beginAnew_60 (ck_nc G) (ck_nb G) post) fu) σ x2 x3 := h
    unfold bd_X6_beginAnew_60 at h
    refine lv_iload_n hx hb dX6_beginAnew_60 rfl (lv_at hl 3 rfl) ?_
    refine lv_iload_n hx hb dX6_beginAnew_61 rfl (lv_at hl 2 rfl) ?_
    obtain ⟨hA, hB⟩ := h
    refine lv_icmp_ge (tgt := 81) hx hb dX6_beginAnew_62 (by decide) (fun c1 => ?_) (fun c1 => ?_)
    · have h := hA c1
      refine lv_aload_n hx hb dX6_beginAnew_81 rfl (lv_at hl 0 rfl) ?_
      refine ck_get hx hb hts inX6 hown hw (hC.1 0 (by decide)) rfl rfl 4 (by decide) (hts _ (List.mem_of_getElem? (i := 12) rfl)) rfl dX6_beginAnew_82 ?_
      refine ck_callVv (rest := []) ⟨hx, hb, hml, hown, hts⟩ hw (hC.1 3 (by decide)) rfl rfl (ct_X0_beginAnew l G hC h) (cwV 0 hts gX6_beginAnew_X0_beginAnew rfl rfl rfl (by decide +kernel) ⟨(Nat.le_of_ble_eq_true rfl), (Nat.le_of_ble_eq_true rfl)⟩) rfl hl.1 rfl (Nat.le_of_ble_eq_true rfl) dX6_beginAnew_85 ⟨(Nat.le_of_ble_eq_true rfl), (Nat.le_of_ble_eq_true rfl)⟩ (fun σ2 H locs h hw => ?_)
      refine lv_aload_n hx hb dX6_beginAnew_88 rfl (lv_at hl 0 rfl) ?_
      refine ck_get hx hb hts inX6 hown hw (hC.1 0 (by decide)) rfl rfl 5 (by decide) (hts _ (List.mem_of_getElem? (i := 13) rfl)) rfl dX6_beginAnew_89 ?_
      refine ck_callVv (rest := []) ⟨hx, hb, hml, hown, hts⟩ hw (hC.1 5 (by decide)) rfl rfl (ct_X4_beginAnew l G hC h) (cwV 0 hts gX6_beginAnew_X4_beginAnew rfl rfl rfl (by decide +kernel) ⟨(Nat.le_of_ble_eq_true rfl), (Nat.le_of_ble_eq_true rfl)⟩) rfl hl.1 rfl (Nat.le_of_ble_eq_true rfl) dX6_beginAnew_92 ⟨(Nat.le_of_ble_eq_true rfl), (Nat.le_of_ble_eq_true rfl)⟩ (fun σ4 H locs h hw => ?_)
      refine lv_aload_n hx hb dX6_beginAnew_95 rfl (lv_at hl 0 rfl) ?_
      refine ck_get hx hb hts inX6 hown hw (hC.1 0 (by decide)) rfl rfl 6 (by decide) (hts _ (List.mem_of_getElem? (i := 14) rfl)) rfl dX6_beginAnew_96 ?_
      refine ck_callVv (rest := []) ⟨hx, hb, hml, hown, hts⟩ hw (hC.1 6 (by decide)) rfl rfl (ct_X1_beginAnew l G hC h) (cwV 0 hts gX6_beginAnew_X1_beginAnew rfl rfl rfl (by decide +kernel) ⟨(Nat.le_of_ble_eq_true rfl), (Nat.le_of_ble_eq_true rfl)⟩) rfl hl.1 rfl (Nat.le_of_ble_eq_true rfl) dX6_beginAnew_99 ⟨(Nat.le_of_ble_eq_true rfl), (Nat.le_of_ble_eq_true rfl)⟩ (fun σ6 H locs h hw => ?_)
      exact ck_vret X hw h dX6_beginAnew_102
    · have h := hB c1
      refine lv_aload_n hx hb dX6_beginAnew_65 rfl (lv_at hl 1 rfl) ?_
      refine lv_iload_n hx hb dX6_beginAnew_66 rfl (lv_at hl 3 rfl) ?_
      obtain ⟨n8, h⟩ := h
      refine ck_aald hx hb hw (hC.1 1 (by decide)) n8 dX6_beginAnew_67 ?_
      obtain ⟨j9, ej9⟩ : ∃ z : Nat, z = Int32.toNatClampNeg x3 := ⟨_, rfl⟩
      have hj9 : j9 < ck_nc G := by rw [ej9]; exact ck_in n8
      rw [← ej9]
      have h := h j9 ej9
      refine lv_astore (lv' := [(4, .ref (ck_ad G 30 j9)), (0, .ref (ck_ad G 0 0)), (1, .ref (ck_ad G 1 0)), (2, .int x2), (3, .int x3)]) hx hb dX6_beginAnew_68 hl (by decide) rfl (fun ls hl => ?_)
      refine lv_aload hx hb dX6_beginAnew_70 (lv_at hl 0 rfl) ?_
      refine ck_callVv (rest := []) ⟨hx, hb, hml, hown, hts⟩ hw (hC.2 30 _ (by decide) (by decide) hj9) rfl rfl (ct_X3_beginAnew l G hC hj9 h) (cwV 0 hts gX6_beginAnew_X3_beginAnew rfl rfl rfl (by decide +kernel) ⟨(Nat.le_of_ble_eq_true rfl), (Nat.le_of_ble_eq_true rfl)⟩) rfl hl.1 rfl (Nat.le_of_ble_eq_true rfl) dX6_beginAnew_72 ⟨(Nat.le_of_ble_eq_true rfl), (Nat.le_of_ble_eq_true rfl)⟩ (fun σ10 H locs h hw => ?_)
      obtain ⟨x_12, ex_12⟩ : ∃ z : Int32, z = x3 + 1 := ⟨_, rfl⟩
      have h := h x_12 ex_12
      refine lv_iinc (v := x_12) (lv' := [(3, .int x_12), (4, .ref (ck_ad G 30 j9)), (0, .ref (ck_ad G 0 0)), (1, .ref (ck_ad G 1 0)), (2, .int x2)]) hx hb dX6_beginAnew_75 hl (k := 4) rfl (by rw [ex_12]; rfl) (by decide) rfl (fun ls hl => ?_)
      refine lv_goto (tgt := 60) hx hb dX6_beginAnew_78 (by decide) ?_
      exact hK60 _ _ _ _ _ _ h hw (lv_sub hl [2, 3, 4, 0] rfl)
set_option maxHeartbeats 4000000 in
set_option maxRecDepth 100000 in
theorem wk_X6_beginAnew_0 {p : Program} {l : Launch} {e : Env} {s : State} {m : MethodId} {args : Array Value} {below : List Frame} {meth : Method} {c : Code} {G : ck_G} (X : ck_X p s m meth c args cX6_beginAnew 5 none RX6 wsX6_beginAnew) (hC : ck_inC G) {post : ck_S → Prop} {σ : ck_S} {H : Heap} {locs : List Loc} {ls : Array Slot} (h : sp_X6_beginAnew (ck_nc G) (ck_nb G) σ post) (hw : ck_H G s H locs σ) (hl : lv_has ls 5 [(0, .ref (ck_ad G 0 0))]) : W p l e ({ frames := 1, cells := 0, slots := 0, locals := 21 } : Room) s m args below meth c H locs 0 0 (MQ below (va_Qv post (ck_Q G) (ck_A G s.heap.size)) args s 0 0 (ck_A G s.heap.size)) (F0 m 0 ls []) := by
  obtain ⟨hx, hb, hr, hml, hown, hts, hlocks⟩ := id X
  have inX6 : ∀ w ∈ wsX60, w ∈ wsX6_beginAnew := fun _ h => List.mem_cons_of_mem _ (List.mem_append_left _ (List.mem_append_left _ (List.mem_append_left _ (List.mem_append_left _ (List.mem_append_right _ (h))))))
  unfold sp_X6_beginAnew at h
  refine lv_aload_n hx hb dX6_beginAnew_0 rfl (lv_at hl 0 rfl) ?_
  refine lv_iconst (v := 0) hx hb dX6_beginAnew_1 (by decide) ?_
  refine ck_puti hx hb hts inX6 tyX6 tyX6_ok nmX6 hown hw (hC.1 0 (by decide)) rfl rfl 7 (by decide) (hts _ (List.mem_of_getElem? (i := 1) rfl)) rfl rfl rfl (Nat.le_of_ble_eq_true rfl) rfl dX6_beginAnew_2 (fun H locs hw => ?_)
  obtain ⟨σ1, eσ1⟩ : ∃ z : ck_S, z = ck_ui σ 0 0 7 0 := ⟨_, rfl⟩
  rw [← eσ1] at hw
  have h := h σ1 eσ1
  refine lv_aload_n hx hb dX6_beginAnew_5 rfl (lv_at hl 0 rfl) ?_
  refine lv_iconst (v := 0) hx hb dX6_beginAnew_6 (by decide) ?_
  refine ck_puti hx hb hts inX6 tyX6 tyX6_ok nmX6 hown hw (hC.1 0 (by decide)) rfl rfl 8 (by decide) (hts _ (List.mem_of_getElem? (i := 2) rfl)) rfl rfl rfl (Nat.le_of_ble_eq_true rfl) rfl dX6_beginAnew_7 (fun H locs hw => ?_)
  obtain ⟨σ2, eσ2⟩ : ∃ z : ck_S, z = ck_ui σ1 0 0 8 0 := ⟨_, rfl⟩
  rw [← eσ2] at hw
  have h := h σ2 eσ2
  refine lv_aload_n hx hb dX6_beginAnew_10 rfl (lv_at hl 0 rfl) ?_
  refine lv_dconst0 hx hb dX6_beginAnew_11 ?_
  refine ck_putd hx hb hts inX6 tyX6 tyX6_ok nmX6 hown hw (hC.1 0 (by decide)) rfl rfl 9 (by decide) (hts _ (List.mem_of_getElem? (i := 3) rfl)) rfl rfl rfl (Nat.le_of_ble_eq_true rfl) rfl dX6_beginAnew_12 (fun H locs hw => ?_)
  obtain ⟨σ3, eσ3⟩ : ∃ z : ck_S, z = ck_ud σ2 0 0 9 FP.dconst0 := ⟨_, rfl⟩
  rw [← eσ3] at hw
  have h := h σ3 eσ3
  refine lv_aload_n hx hb dX6_beginAnew_15 rfl (lv_at hl 0 rfl) ?_
  refine lv_dconst0 hx hb dX6_beginAnew_16 ?_
  refine ck_putd hx hb hts inX6 tyX6 tyX6_ok nmX6 hown hw (hC.1 0 (by decide)) rfl rfl 10 (by decide) (hts _ (List.mem_of_getElem? (i := 4) rfl)) rfl rfl rfl (Nat.le_of_ble_eq_true rfl) rfl dX6_beginAnew_17 (fun H locs hw => ?_)
  obtain ⟨σ4, eσ4⟩ : ∃ z : ck_S, z = ck_ud σ3 0 0 10 FP.dconst0 := ⟨_, rfl⟩
  rw [← eσ4] at hw
  have h := h σ4 eσ4
  refine lv_aload_n hx hb dX6_beginAnew_20 rfl (lv_at hl 0 rfl) ?_
  refine lv_iconst (v := 0) hx hb dX6_beginAnew_21 (by decide) ?_
  refine ck_puti hx hb hts inX6 tyX6 tyX6_ok nmX6 hown hw (hC.1 0 (by decide)) rfl rfl 11 (by decide) (hts _ (List.mem_of_getElem? (i := 5) rfl)) rfl rfl rfl (Nat.le_of_ble_eq_true rfl) rfl dX6_beginAnew_22 (fun H locs hw => ?_)
  obtain ⟨σ5, eσ5⟩ : ∃ z : ck_S, z = ck_ui σ4 0 0 11 0 := ⟨_, rfl⟩
  rw [← eσ5] at hw
  have h := h σ5 eσ5
  refine lv_aload_n hx hb dX6_beginAnew_25 rfl (lv_at hl 0 rfl) ?_
  refine lv_dconst0 hx hb dX6_beginAnew_26 ?_
  refine ck_putd hx hb hts inX6 tyX6 tyX6_ok nmX6 hown hw (hC.1 0 (by decide)) rfl rfl 12 (by decide) (hts _ (List.mem_of_getElem? (i := 6) rfl)) rfl rfl rfl (Nat.le_of_ble_eq_true rfl) rfl dX6_beginAnew_27 (fun H locs hw => ?_)
  obtain ⟨σ6, eσ6⟩ : ∃ z : ck_S, z = ck_ud σ5 0 0 12 FP.dconst0 := ⟨_, rfl⟩
  rw [← eσ6] at hw
  have h := h σ6 eσ6
  refine lv_aload_n hx hb dX6_beginAnew_30 rfl (lv_at hl 0 rfl) ?_
  refine lv_iconst (v := 0) hx hb dX6_beginAnew_31 (by decide) ?_
  refine ck_puti hx hb hts inX6 tyX6 tyX6_ok nmX6 hown hw (hC.1 0 (by decide)) rfl rfl 13 (by decide) (hts _ (List.mem_of_getElem? (i := 7) rfl)) rfl rfl rfl (Nat.le_of_ble_eq_true rfl) rfl dX6_beginAnew_32 (fun H locs hw => ?_)
  obtain ⟨σ7, eσ7⟩ : ∃ z : ck_S, z = ck_ui σ6 0 0 13 0 := ⟨_, rfl⟩
  rw [← eσ7] at hw
  have h := h σ7 eσ7
  refine lv_aload_n hx hb dX6_beginAnew_35 rfl (lv_at hl 0 rfl) ?_
  refine lv_iconst (v := 0) hx hb dX6_beginAnew_36 (by decide) ?_
  refine ck_puti hx hb hts inX6 tyX6 tyX6_ok nmX6 hown hw (hC.1 0 (by decide)) rfl rfl 14 (by decide) (hts _ (List.mem_of_getElem? (i := 8) rfl)) rfl rfl rfl (Nat.le_of_ble_eq_true rfl) rfl dX6_beginAnew_37 (fun H locs hw => ?_)
  obtain ⟨σ8, eσ8⟩ : ∃ z : ck_S, z = ck_ui σ7 0 0 14 0 := ⟨_, rfl⟩
  rw [← eσ8] at hw
  have h := h σ8 eσ8
  refine lv_aload_n hx hb dX6_beginAnew_40 rfl (lv_at hl 0 rfl) ?_
  refine lv_dconst0 hx hb dX6_beginAnew_41 ?_
  refine ck_putd hx hb hts inX6 tyX6 tyX6_ok nmX6 hown hw (hC.1 0 (by decide)) rfl rfl 15 (by decide) (hts _ (List.mem_of_getElem? (i := 9) rfl)) rfl rfl rfl (Nat.le_of_ble_eq_true rfl) rfl dX6_beginAnew_42 (fun H locs hw => ?_)
  obtain ⟨σ9, eσ9⟩ : ∃ z : ck_S, z = ck_ud σ8 0 0 15 FP.dconst0 := ⟨_, rfl⟩
  rw [← eσ9] at hw
  have h := h σ9 eσ9
  refine lv_aload_n hx hb dX6_beginAnew_45 rfl (lv_at hl 0 rfl) ?_
  refine lv_dconst0 hx hb dX6_beginAnew_46 ?_
  refine ck_putd hx hb hts inX6 tyX6 tyX6_ok nmX6 hown hw (hC.1 0 (by decide)) rfl rfl 16 (by decide) (hts _ (List.mem_of_getElem? (i := 10) rfl)) rfl rfl rfl (Nat.le_of_ble_eq_true rfl) rfl dX6_beginAnew_47 (fun H locs hw => ?_)
  obtain ⟨σ10, eσ10⟩ : ∃ z : ck_S, z = ck_ud σ9 0 0 16 FP.dconst0 := ⟨_, rfl⟩
  rw [← eσ10] at hw
  have h := h σ10 eσ10
  refine lv_aload_n hx hb dX6_beginAnew_50 rfl (lv_at hl 0 rfl) ?_
  refine ck_get hx hb hts inX6 hown hw (hC.1 0 (by decide)) rfl rfl 0 (by decide) (hts _ (List.mem_of_getElem? (i := 11) rfl)) rfl dX6_beginAnew_51 ?_
  refine lv_astore_n (lv' := [(1, .ref (ck_ad G 1 0)), (0, .ref (ck_ad G 0 0))]) hx hb dX6_beginAnew_54 rfl hl (by decide) rfl (fun ls hl => ?_)
  refine lv_aload_n hx hb dX6_beginAnew_55 rfl (lv_at hl 0 rfl) ?_
  refine ck_alen hx hb hw (hC.1 1 (by decide)) rfl 4 rfl rfl dX6_beginAnew_56 ?_
  refine lv_topi (fun x_11 ex_11 => ?_)
  have h := h x_11 ex_11
  refine lv_istore_n (lv' := [(2, .int x_11), (1, .ref (ck_ad G 1 0)), (0, .ref (ck_ad G 0 0))]) hx hb dX6_beginAnew_57 rfl hl (by decide) rfl (fun ls hl => ?_)
  refine lv_iconst (v := 0) hx hb dX6_beginAnew_58 (by decide) ?_
  refine lv_istore_n (lv' := [(3, .int 0), (2, .int x_11), (1, .ref (ck_ad G 1 0)), (0, .ref (ck_ad G 0 0))]) hx hb dX6_beginAnew_59 rfl hl (by decide) rfl (fun ls hl => ?_)
  obtain ⟨fu, h⟩ := h
  exact wk_X6_beginAnew_60 X hC fu _ _ _ _ _ _ h hw (lv_sub hl [3, 2, 1, 0] rfl)
set_option maxHeartbeats 4000000 in
set_option maxRecDepth 100000 in
theorem ct_X6_beginAnew (l : Launch) (G : ck_G) (hC : ck_inC G) {σ : ck_S} {post : ck_S → Prop} (h : sp_X6_beginAnew (ck_nc G) (ck_nb G) σ post) : ck_Mv l yX6_beginAnew wsX6_beginAnew ({ frames := 1, cells := 0, slots := 0, locals := 21 } : Room) G σ [.ref (ck_ad G 0 0)] post := by
  intro sz
  refine Met.ofW (cc := cX6_beginAnew) (maxL := 5) (ret := none) (by decide) rfl ?_
  intro p e s m args below meth c s₁ B hml hv
  obtain ⟨rfl, rfl, hw⟩ := ck_enter hv
  have hl := lv_entry ([.ref (ck_ad G 0 0)]) (n := 5) (Nat.le_of_ble_eq_true rfl)
  rw [lg_entry_eq]
  generalize (lg_sl ([.ref (ck_ad G 0 0)]) ++ List.replicate (5 - (lg_sl ([.ref (ck_ad G 0 0)])).length) Slot.unset).toArray = ls at hl ⊢
  have hl : lv_has ls 5 [(0, .ref (ck_ad G 0 0))] := hl
  exact wk_X6_beginAnew_0 ⟨B.exec, B.bytes, B.returns, hml, findClass_of_methodNamed B.named, atoms_spec (ws := wsX6_beginAnew) B.pre, B.notSynchronized⟩ hC h hw hl
def sp_X6_chargeOfParts (nc nb : Nat) (σ : ck_S) (a0 : Int64) (post : UInt64 → ck_S → Prop) : Prop := ∀ y_1, y_1 = (((ck_gi σ 0 0 1).toInt64) * 8192) → (vf_n64 (FP.ddiv (FP.l2d (if (if a0 < y_1 then a0 else y_1) < 0 then 0 else (if a0 < y_1 then a0 else y_1))) 4665729213955833856)) ∧ post (FP.ddiv (FP.l2d (if (if a0 < y_1 then a0 else y_1) < 0 then 0 else (if a0 < y_1 then a0 else y_1))) 4665729213955833856) σ
set_option maxHeartbeats 4000000 in
set_option maxRecDepth 100000 in
theorem wk_X6_chargeOfParts_0 {p : Program} {l : Launch} {e : Env} {s : State} {m : MethodId} {args : Array Value} {below : List Frame} {meth : Method} {c : Code} {G : ck_G} (X : ck_X p s m meth c args cX6_chargeOfParts 5 (some .double) RX6 wsX6_chargeOfParts) (hC : ck_inC G) {post : UInt64 → ck_S → Prop} {σ : ck_S} {a0 : Int64} {H : Heap} {locs : List Loc} {ls : Array Slot} (h : sp_X6_chargeOfParts (ck_nc G) (ck_nb G) σ a0 post) (hw : ck_H G s H locs σ) (hl : lv_has ls 5 [(0, .ref (ck_ad G 0 0)), (1, .long a0)]) : W p l e ({ frames := 1, cells := 0, slots := 0, locals := 24 } : Room) s m args below meth c H locs 0 0 (MQ below (va_Qd post (ck_Q G) (ck_A G s.heap.size)) args s 0 0 (ck_A G s.heap.size)) (F0 m 0 ls []) := by
  obtain ⟨hx, hb, hr, hml, hown, hts, hlocks⟩ := id X
  have inX6 : ∀ w ∈ wsX60, w ∈ wsX6_chargeOfParts := fun _ h => List.mem_cons_of_mem _ (List.mem_append_right _ (h))
  unfold sp_X6_chargeOfParts at h
  refine lv_aload_n hx hb dX6_chargeOfParts_0 rfl (lv_at hl 0 rfl) ?_
  refine ck_get hx hb hts inX6 hown hw (hC.1 0 (by decide)) rfl rfl 1 (by decide) (hts _ (List.mem_of_getElem? (i := 1) rfl)) rfl dX6_chargeOfParts_1 ?_
  refine lv_i2l hx hb dX6_chargeOfParts_4 rfl ?_
  refine lv_ldc2 hx hb hown (hts _ (List.mem_of_getElem? (i := 2) rfl)) dX6_chargeOfParts_5 ?_
  refine lv_lmul hx hb dX6_chargeOfParts_8 ?_
  refine lv_topl (fun y_1 ey_1 => ?_)
  have h := h y_1 ey_1
  refine lv_lstore_n (lv' := [(3, .long y_1), (0, .ref (ck_ad G 0 0)), (1, .long a0)]) hx hb dX6_chargeOfParts_9 rfl hl (by decide) rfl (fun ls hl => ?_)
  refine lv_lconst (v := 0) hx hb dX6_chargeOfParts_10 (by decide) ?_
  refine lv_lload_n hx hb dX6_chargeOfParts_11 rfl (lv_at hl 0 rfl) ?_
  refine lv_lload_n hx hb dX6_chargeOfParts_12 rfl (lv_at hl 2 rfl) ?_
  refine va_mmin_long hx hb (hml.trans hl.1.symm) hown (hts _ (List.mem_of_getElem? (i := 3) rfl)) (hts _ (List.mem_of_getElem? (i := 4) rfl)) (hts _ (List.mem_of_getElem? (i := 5) rfl)) (hts _ (List.mem_of_getElem? (i := 6) rfl)) (Nat.le_of_ble_eq_true rfl) (Nat.le_of_ble_eq_true rfl) (Nat.le_of_ble_eq_true rfl) (Nat.le_of_ble_eq_true rfl) dX6_chargeOfParts_13 ?_
  refine va_mmax_long hx hb (hml.trans hl.1.symm) hown (hts _ (List.mem_of_getElem? (i := 7) rfl)) (hts _ (List.mem_of_getElem? (i := 8) rfl)) (hts _ (List.mem_of_getElem? (i := 5) rfl)) (hts _ (List.mem_of_getElem? (i := 9) rfl)) (Nat.le_of_ble_eq_true rfl) (Nat.le_of_ble_eq_true rfl) (Nat.le_of_ble_eq_true rfl) (Nat.le_of_ble_eq_true rfl) dX6_chargeOfParts_16 ?_
  refine lv_l2d hx hb dX6_chargeOfParts_19 ?_
  refine lv_ldc2d hx hb hown (hts _ (List.mem_of_getElem? (i := 10) rfl)) dX6_chargeOfParts_20 ?_
  obtain ⟨n2, h⟩ := h
  refine lv_ddiv hx hb dX6_chargeOfParts_23 n2 ?_
  exact ck_dret X hw h dX6_chargeOfParts_24
set_option maxHeartbeats 4000000 in
set_option maxRecDepth 100000 in
theorem ct_X6_chargeOfParts (l : Launch) (G : ck_G) (hC : ck_inC G) {a0 : Int64} {σ : ck_S} {post : UInt64 → ck_S → Prop} (h : sp_X6_chargeOfParts (ck_nc G) (ck_nb G) σ a0 post) : ck_Md l yX6_chargeOfParts wsX6_chargeOfParts ({ frames := 1, cells := 0, slots := 0, locals := 24 } : Room) G σ [.ref (ck_ad G 0 0), .long a0] post := by
  intro sz
  refine Met.ofW (cc := cX6_chargeOfParts) (maxL := 5) (ret := (some .double)) (by decide) rfl ?_
  intro p e s m args below meth c s₁ B hml hv
  obtain ⟨rfl, rfl, hw⟩ := ck_enter hv
  have hl := lv_entry ([.ref (ck_ad G 0 0), .long a0]) (n := 5) (Nat.le_of_ble_eq_true rfl)
  rw [lg_entry_eq]
  generalize (lg_sl ([.ref (ck_ad G 0 0), .long a0]) ++ List.replicate (5 - (lg_sl ([.ref (ck_ad G 0 0), .long a0])).length) Slot.unset).toArray = ls at hl ⊢
  have hl : lv_has ls 5 [(0, .ref (ck_ad G 0 0)), (1, .long a0)] := hl
  exact wk_X6_chargeOfParts_0 ⟨B.exec, B.bytes, B.returns, hml, findClass_of_methodNamed B.named, atoms_spec (ws := wsX6_chargeOfParts) B.pre, B.notSynchronized⟩ hC h hw hl
def sp_X6_currentSize (nc nb : Nat) (σ : ck_S) (post : UInt64 → ck_S → Prop) : Prop := ((0 ≤ (Op.cmpValue (FP.dcmp (ck_gd σ 0 0 12) FP.dconst0) .g) → (post (ck_gd σ 0 0 12) σ)) ∧ (¬ 0 ≤ (Op.cmpValue (FP.dcmp (ck_gd σ 0 0 12) FP.dconst0) .g) → (post (FP.dneg (ck_gd σ 0 0 12)) σ)))
set_option maxHeartbeats 4000000 in
set_option maxRecDepth 100000 in
theorem wk_X6_currentSize_0 {p : Program} {l : Launch} {e : Env} {s : State} {m : MethodId} {args : Array Value} {below : List Frame} {meth : Method} {c : Code} {G : ck_G} (X : ck_X p s m meth c args cX6_currentSize 1 (some .double) RX6 wsX6_currentSize) (hC : ck_inC G) {post : UInt64 → ck_S → Prop} {σ : ck_S} {H : Heap} {locs : List Loc} {ls : Array Slot} (h : sp_X6_currentSize (ck_nc G) (ck_nb G) σ post) (hw : ck_H G s H locs σ) (hl : lv_has ls 1 [(0, .ref (ck_ad G 0 0))]) : W p l e ({ frames := 0, cells := 0, slots := 0, locals := 0 } : Room) s m args below meth c H locs 0 0 (MQ below (va_Qd post (ck_Q G) (ck_A G s.heap.size)) args s 0 0 (ck_A G s.heap.size)) (F0 m 0 ls []) := by
  obtain ⟨hx, hb, hr, hml, hown, hts, hlocks⟩ := id X
  have inX6 : ∀ w ∈ wsX60, w ∈ wsX6_currentSize := fun _ h => List.mem_cons_of_mem _ (List.mem_append_right _ (h))
  unfold sp_X6_currentSize at h
  refine lv_aload_n hx hb dX6_currentSize_0 rfl (lv_at hl 0 rfl) ?_
  refine ck_get hx hb hts inX6 hown hw (hC.1 0 (by decide)) rfl rfl 12 (by decide) (hts _ (List.mem_of_getElem? (i := 1) rfl)) rfl dX6_currentSize_1 ?_
  refine lv_dconst0 hx hb dX6_currentSize_4 ?_
  refine lv_dcmp hx hb dX6_currentSize_5 ?_
  obtain ⟨hA, hB⟩ := h
  refine lv_if_ge (tgt := 17) hx hb dX6_currentSize_6 (by decide) (fun c1 => ?_) (fun c1 => ?_)
  · have h := hA c1
    refine lv_aload_n hx hb dX6_currentSize_17 rfl (lv_at hl 0 rfl) ?_
    refine ck_get hx hb hts inX6 hown hw (hC.1 0 (by decide)) rfl rfl 12 (by decide) (hts _ (List.mem_of_getElem? (i := 1) rfl)) rfl dX6_currentSize_18 ?_
    exact ck_dret X hw h dX6_currentSize_21
  · have h := hB c1
    refine lv_aload_n hx hb dX6_currentSize_9 rfl (lv_at hl 0 rfl) ?_
    refine ck_get hx hb hts inX6 hown hw (hC.1 0 (by decide)) rfl rfl 12 (by decide) (hts _ (List.mem_of_getElem? (i := 1) rfl)) rfl dX6_currentSize_10 ?_
    refine lv_dneg hx hb dX6_currentSize_13 ?_
    refine lv_goto (tgt := 21) hx hb dX6_currentSize_14 (by decide) ?_
    exact ck_dret X hw h dX6_currentSize_21
set_option maxHeartbeats 4000000 in
set_option maxRecDepth 100000 in
theorem ct_X6_currentSize (l : Launch) (G : ck_G) (hC : ck_inC G) {σ : ck_S} {post : UInt64 → ck_S → Prop} (h : sp_X6_currentSize (ck_nc G) (ck_nb G) σ post) : ck_Md l yX6_currentSize wsX6_currentSize ({ frames := 0, cells := 0, slots := 0, locals := 0 } : Room) G σ [.ref (ck_ad G 0 0)] post := by
  intro sz
  refine Met.ofW (cc := cX6_currentSize) (maxL := 1) (ret := (some .double)) (by decide) rfl ?_
  intro p e s m args below meth c s₁ B hml hv
  obtain ⟨rfl, rfl, hw⟩ := ck_enter hv
  have hl := lv_entry ([.ref (ck_ad G 0 0)]) (n := 1) (Nat.le_of_ble_eq_true rfl)
  rw [lg_entry_eq]
  generalize (lg_sl ([.ref (ck_ad G 0 0)]) ++ List.replicate (1 - (lg_sl ([.ref (ck_ad G 0 0)])).length) Slot.unset).toArray = ls at hl ⊢
  have hl : lv_has ls 1 [(0, .ref (ck_ad G 0 0))] := hl
  exact wk_X6_currentSize_0 ⟨B.exec, B.bytes, B.returns, hml, findClass_of_methodNamed B.named, atoms_spec (ws := wsX6_currentSize) B.pre, B.notSynchronized⟩ hC h hw hl
def bd_X6_partsAtRest_17 (nc nb : Nat) (post : Int32 → ck_S → Prop) (K17 : ck_S → Int32 → Int32 → Prop) (σ : ck_S) (x0 : Int32) (x1 : Int32) : Prop := (((nI 7) ≤ x1 → (post 1024 σ)) ∧ (¬ (nI 7) ≤ x1 → ((vp_in x1 7) ∧ (((ck_RM (Int32.toNatClampNeg x1)) ≤ x0 → (∀ x_6, x_6 = x1 + 1 → K17 σ x0 x_6)) ∧ (¬ (ck_RM (Int32.toNatClampNeg x1)) ≤ x0 → (∀ x_8, x_8 = (x1 - 1) → (vp_in x_8 7) ∧ ∀ x_10, x_10 = (ck_RM (Int32.toNatClampNeg x_8)) → ∀ x_12, x_12 = (x1 - 1) → (vp_in x_12 7) ∧ ∀ x_14, x_14 = (ck_RP (Int32.toNatClampNeg x_12)) → (vp_in x1 7) ∧ (vp_in x1 7) ∧ (¬ ((ck_RM (Int32.toNatClampNeg x1)) - x_10) = 0) ∧ post (x_14 + ((((ck_RP (Int32.toNatClampNeg x1)) - x_14) * (x0 - x_10)) / ((ck_RM (Int32.toNatClampNeg x1)) - x_10))) σ))))))
def sp_X6_partsAtRest (nc nb : Nat) (σ : ck_S) (a0 : Int32) (post : Int32 → ck_S → Prop) : Prop := (vp_in 0 7) ∧ (((ck_RM (Int32.toNatClampNeg 0)) < a0 → (lx_3 (bd_X6_partsAtRest_17 nc nb post) σ a0 1)) ∧ (¬ (ck_RM (Int32.toNatClampNeg 0)) < a0 → ((vp_in 0 7) ∧ post (ck_RP (Int32.toNatClampNeg 0)) σ)))
set_option maxHeartbeats 4000000 in
set_option maxRecDepth 100000 in
theorem wk_X6_partsAtRest_17 {p : Program} {l : Launch} {e : Env} {s : State} {m : MethodId} {args : Array Value} {below : List Frame} {meth : Method} {c : Code} {G : ck_G} (X : ck_X p s m meth c args cX6_partsAtRest 4 (some .int) RX6 wsX6_partsAtRest) (hE : ck_E (ck_A G s.heap.size) s) {post : Int32 → ck_S → Prop} : ∀ (fu : Nat) (σ : ck_S) (x0 : Int32) (x1 : Int32) (H : Heap) (locs : List Loc) (ls : Array Slot), lk_3 (bd_X6_partsAtRest_17 (ck_nc G) (ck_nb G) post) fu σ x0 x1 → ck_H G s H locs σ → lv_has ls 4 [(0, .int x0), (1, .int x1)] → W p l e ({ frames := 0, cells := 0, slots := 0, locals := 0 } : Room) s m args below meth c H locs 0 0 (MQ below (va_Qi post (ck_Q G) (ck_A G s.heap.size)) args s 0 0 (ck_A G s.heap.size)) (F0 m 17 ls []) := by
  obtain ⟨hx, hb, hr, hml, hown, hts, hlocks⟩ := id X
  intro fu
  induction fu with
  | zero => intro σ x0 x1 H locs ls h hw hl; exact h.elim
  | succ fu hK17 =>
    intro σ x0 x1 H locs ls h hw hl
    have h : bd_X6_partsAtRest_17 (ck_nc G) (ck_nb G) post (lk_3 (bd_X6_partsAtRest_17 (ck_nc G) (ck_nb G) post) fu) σ x0 x1 := h
    unfold bd_X6_partsAtRest_17 at h
    refine lv_iload_n hx hb dX6_partsAtRest_17 rfl (lv_at hl 1 rfl) ?_
    refine ck_gets hx hb hw hE.2.2.2.2.1 hown (hts _ (List.mem_of_getElem? (i := 1) rfl)) dX6_partsAtRest_18 (fun z1 hz1 => ?_)
    refine ck_zlen hx hb hw hz1 dX6_partsAtRest_21 ?_
    obtain ⟨hA, hB⟩ := h
    refine lv_icmp_ge (tgt := 78) hx hb dX6_partsAtRest_22 (by decide) (fun c2 => ?_) (fun c2 => ?_)
    · have h := hA c2
      refine lv_sipush (v := 1024) hx hb dX6_partsAtRest_78 (by decide) ?_
      exact ck_iret X hw h dX6_partsAtRest_81
    · have h := hB c2
      refine lv_iload_n hx hb dX6_partsAtRest_25 rfl (lv_at hl 0 rfl) ?_
      refine ck_gets hx hb hw hE.2.2.2.2.1 hown (hts _ (List.mem_of_getElem? (i := 1) rfl)) dX6_partsAtRest_26 (fun z3 hz3 => ?_)
      refine lv_iload_n hx hb dX6_partsAtRest_29 rfl (lv_at hl 1 rfl) ?_
      obtain ⟨n4, h⟩ := h
      refine ck_zald hx hb hw hz3 n4 dX6_partsAtRest_30 ?_
      obtain ⟨hA, hB⟩ := h
      refine lv_icmp_ge (tgt := 72) hx hb dX6_partsAtRest_31 (by decide) (fun c5 => ?_) (fun c5 => ?_)
      · have h := hA c5
        obtain ⟨x_6, ex_6⟩ : ∃ z : Int32, z = x1 + 1 := ⟨_, rfl⟩
        have h := h x_6 ex_6
        refine lv_iinc (v := x_6) (lv' := [(1, .int x_6), (0, .int x0)]) hx hb dX6_partsAtRest_72 hl (k := 1) rfl (by rw [ex_6]; rfl) (by decide) rfl (fun ls hl => ?_)
        refine lv_goto (tgt := 17) hx hb dX6_partsAtRest_75 (by decide) ?_
        exact hK17 _ _ _ _ _ _ h hw (lv_sub hl [1, 0] rfl)
      · have h := hB c5
        refine ck_gets hx hb hw hE.2.2.2.2.1 hown (hts _ (List.mem_of_getElem? (i := 1) rfl)) dX6_partsAtRest_34 (fun z7 hz7 => ?_)
        refine lv_iload_n hx hb dX6_partsAtRest_37 rfl (lv_at hl 1 rfl) ?_
        refine lv_iconst (v := 1) hx hb dX6_partsAtRest_38 (by decide) ?_
        refine lv_isub hx hb dX6_partsAtRest_39 ?_
        refine lv_topi (fun x_8 ex_8 => ?_)
        have h := h x_8 ex_8
        obtain ⟨n9, h⟩ := h
        refine ck_zald hx hb hw hz7 n9 dX6_partsAtRest_40 ?_
        refine lv_topi (fun x_10 ex_10 => ?_)
        have h := h x_10 ex_10
        refine lv_istore_n (lv' := [(2, .int x_10), (0, .int x0), (1, .int x1)]) hx hb dX6_partsAtRest_41 rfl hl (by decide) rfl (fun ls hl => ?_)
        refine ck_gets hx hb hw hE.2.2.2.2.2 hown (hts _ (List.mem_of_getElem? (i := 2) rfl)) dX6_partsAtRest_42 (fun z11 hz11 => ?_)
        refine lv_iload_n hx hb dX6_partsAtRest_45 rfl (lv_at hl 2 rfl) ?_
        refine lv_iconst (v := 1) hx hb dX6_partsAtRest_46 (by decide) ?_
        refine lv_isub hx hb dX6_partsAtRest_47 ?_
        refine lv_topi (fun x_12 ex_12 => ?_)
        have h := h x_12 ex_12
        obtain ⟨n13, h⟩ := h
        refine ck_zald hx hb hw hz11 n13 dX6_partsAtRest_48 ?_
        refine lv_topi (fun x_14 ex_14 => ?_)
        have h := h x_14 ex_14
        refine lv_istore_n (lv' := [(3, .int x_14), (2, .int x_10), (0, .int x0), (1, .int x1)]) hx hb dX6_partsAtRest_49 rfl hl (by decide) rfl (fun ls hl => ?_)
        refine lv_iload_n hx hb dX6_partsAtRest_50 rfl (lv_at hl 0 rfl) ?_
        refine ck_gets hx hb hw hE.2.2.2.2.2 hown (hts _ (List.mem_of_getElem? (i := 2) rfl)) dX6_partsAtRest_51 (fun z15 hz15 => ?_)
        refine lv_iload_n hx hb dX6_partsAtRest_54 rfl (lv_at hl 3 rfl) ?_
        obtain ⟨n16, h⟩ := h
        refine ck_zald hx hb hw hz15 n16 dX6_partsAtRest_55 ?_
        refine lv_iload_n hx hb dX6_partsAtRest_56 rfl (lv_at hl 0 rfl) ?_
        refine lv_isub hx hb dX6_partsAtRest_57 ?_
        refine lv_iload_n hx hb dX6_partsAtRest_58 rfl (lv_at hl 2 rfl) ?_
        refine lv_iload_n hx hb dX6_partsAtRest_59 rfl (lv_at hl 1 rfl) ?_
        refine lv_isub hx hb dX6_partsAtRest_60 ?_
        refine lv_imul hx hb dX6_partsAtRest_61 ?_
        refine ck_gets hx hb hw hE.2.2.2.2.1 hown (hts _ (List.mem_of_getElem? (i := 1) rfl)) dX6_partsAtRest_62 (fun z17 hz17 => ?_)
        refine lv_iload_n hx hb dX6_partsAtRest_65 rfl (lv_at hl 3 rfl) ?_
        obtain ⟨n18, h⟩ := h
        refine ck_zald hx hb hw hz17 n18 dX6_partsAtRest_66 ?_
        refine lv_iload_n hx hb dX6_partsAtRest_67 rfl (lv_at hl 1 rfl) ?_
        refine lv_isub hx hb dX6_partsAtRest_68 ?_
        obtain ⟨n19, h⟩ := h
        refine lv_idiv hx hb dX6_partsAtRest_69 n19 ?_
        refine lv_iadd hx hb dX6_partsAtRest_70 ?_
        exact ck_iret X hw h dX6_partsAtRest_71
set_option maxHeartbeats 4000000 in
set_option maxRecDepth 100000 in
theorem wk_X6_partsAtRest_0 {p : Program} {l : Launch} {e : Env} {s : State} {m : MethodId} {args : Array Value} {below : List Frame} {meth : Method} {c : Code} {G : ck_G} (X : ck_X p s m meth c args cX6_partsAtRest 4 (some .int) RX6 wsX6_partsAtRest) (hE : ck_E (ck_A G s.heap.size) s) {post : Int32 → ck_S → Prop} {σ : ck_S} {a0 : Int32} {H : Heap} {locs : List Loc} {ls : Array Slot} (h : sp_X6_partsAtRest (ck_nc G) (ck_nb G) σ a0 post) (hw : ck_H G s H locs σ) (hl : lv_has ls 4 [(0, .int a0)]) : W p l e ({ frames := 0, cells := 0, slots := 0, locals := 0 } : Room) s m args below meth c H locs 0 0 (MQ below (va_Qi post (ck_Q G) (ck_A G s.heap.size)) args s 0 0 (ck_A G s.heap.size)) (F0 m 0 ls []) := by
  obtain ⟨hx, hb, hr, hml, hown, hts, hlocks⟩ := id X
  unfold sp_X6_partsAtRest at h
  refine lv_iload_n hx hb dX6_partsAtRest_0 rfl (lv_at hl 0 rfl) ?_
  refine ck_gets hx hb hw hE.2.2.2.2.1 hown (hts _ (List.mem_of_getElem? (i := 1) rfl)) dX6_partsAtRest_1 (fun z1 hz1 => ?_)
  refine lv_iconst (v := 0) hx hb dX6_partsAtRest_4 (by decide) ?_
  obtain ⟨n2, h⟩ := h
  refine ck_zald hx hb hw hz1 n2 dX6_partsAtRest_5 ?_
  obtain ⟨hA, hB⟩ := h
  refine lv_icmp_gt (tgt := 15) hx hb dX6_partsAtRest_6 (by decide) (fun c3 => ?_) (fun c3 => ?_)
  · have h := hA c3
    refine lv_iconst (v := 1) hx hb dX6_partsAtRest_15 (by decide) ?_
    refine lv_istore_n (lv' := [(1, .int 1), (0, .int a0)]) hx hb dX6_partsAtRest_16 rfl hl (by decide) rfl (fun ls hl => ?_)
    obtain ⟨fu, h⟩ := h
    exact wk_X6_partsAtRest_17 X hE fu _ _ _ _ _ _ h hw (lv_sub hl [1, 0] rfl)
  · have h := hB c3
    refine ck_gets hx hb hw hE.2.2.2.2.2 hown (hts _ (List.mem_of_getElem? (i := 2) rfl)) dX6_partsAtRest_9 (fun z4 hz4 => ?_)
    refine lv_iconst (v := 0) hx hb dX6_partsAtRest_12 (by decide) ?_
    obtain ⟨n5, h⟩ := h
    refine ck_zald hx hb hw hz4 n5 dX6_partsAtRest_13 ?_
    exact ck_iret X hw h dX6_partsAtRest_14
set_option maxHeartbeats 4000000 in
set_option maxRecDepth 100000 in
theorem ct_X6_partsAtRest (l : Launch) (G : ck_G) {a0 : Int32} {σ : ck_S} {post : Int32 → ck_S → Prop} (h : sp_X6_partsAtRest (ck_nc G) (ck_nb G) σ a0 post) : ck_MEi l yX6_partsAtRest wsX6_partsAtRest ({ frames := 0, cells := 0, slots := 0, locals := 0 } : Room) G σ [.int a0] post 0 0 := by
  intro sz
  refine Met.ofW (cc := cX6_partsAtRest) (maxL := 4) (ret := (some .int)) (by decide) rfl ?_
  intro p e s m args below meth c s₁ B hml hv
  obtain ⟨rfl, rfl, hw, hE⟩ := ck_enterE hv
  have hl := lv_entry ([.int a0]) (n := 4) (Nat.le_of_ble_eq_true rfl)
  rw [lg_entry_eq]
  generalize (lg_sl ([.int a0]) ++ List.replicate (4 - (lg_sl ([.int a0])).length) Slot.unset).toArray = ls at hl ⊢
  have hl : lv_has ls 4 [(0, .int a0)] := hl
  exact wk_X6_partsAtRest_0 ⟨B.exec, B.bytes, B.returns, hml, findClass_of_methodNamed B.named, atoms_spec (ws := wsX6_partsAtRest) B.pre, B.notSynchronized⟩ hE h hw hl
def sp_X6_moveCharge_110 (nc nb : Nat) (post : ck_S → Prop) (σ : ck_S) (s0 : Int32) : Prop := ∀ σ1, σ1 = ck_ui σ 0 0 11 s0 → (((ck_gi σ1 0 0 11) < 60 → (post σ1)) ∧ (¬ (ck_gi σ1 0 0 11) < 60 → (sp_X5_allValid nc nb σ1 (fun x_4 σ3 => ((x_4 = 0 → (post σ3)) ∧ (¬ x_4 = 0 → ((¬ (6 * (if 1 < (nI nc) then (nI nc) else 1)) = 0) ∧ ∀ x_7, x_7 = ((ck_gi σ3 2 0 2) / (6 * (if 1 < (nI nc) then (nI nc) else 1))) → sp_X6_partsAtRest nc nb σ3 x_7 (fun x_9 σ8 => (vf_n64 (FP.dmul (FP.i2d (ck_gi σ3 0 0 1)) (FP.i2d x_9))) ∧ (vf_n64 (FP.ddiv (FP.dmul (FP.i2d (ck_gi σ3 0 0 1)) (FP.i2d x_9)) 4652218415073722368)) ∧ ∀ σ12, σ12 = ck_ud σ8 0 0 9 (FP.ddiv (FP.dmul (FP.i2d (ck_gi σ3 0 0 1)) (FP.i2d x_9)) 4652218415073722368) → post σ12))))))))
def sp_X6_moveCharge_88 (nc nb : Nat) (post : ck_S → Prop) (σ : ck_S) : Prop := sp_X6_currentSize nc nb σ (fun z_2 σ1 => ((0 ≤ (Op.cmpValue (FP.dcmp z_2 4602678819172646912) .g) → (sp_X6_moveCharge_110 nc nb post σ1 0)) ∧ (¬ 0 ≤ (Op.cmpValue (FP.dcmp z_2 4602678819172646912) .g) → (sp_X6_moveCharge_110 nc nb post σ1 ((ck_gi σ1 0 0 11) + 1)))))
def sp_X6_moveCharge_52 (nc nb : Nat) (post : ck_S → Prop) (σ : ck_S) : Prop := sp_X6_currentSize nc nb σ (fun z_2 σ1 => (vf_n64 (FP.dadd (ck_gd σ 0 0 10) z_2)) ∧ ∀ σ4, σ4 = ck_ud σ1 0 0 10 (FP.dadd (ck_gd σ 0 0 10) z_2) → (((Op.cmpValue (FP.dcmp (ck_gd σ4 0 0 10) 4666723172467343360) .l) < 0 → (sp_X6_moveCharge_88 nc nb post σ4)) ∧ (¬ (Op.cmpValue (FP.dcmp (ck_gd σ4 0 0 10) 4666723172467343360) .l) < 0 → ((vf_n64 (FP.dsub (ck_gd σ4 0 0 10) 4666723172467343360)) ∧ ∀ σ7, σ7 = ck_ud σ4 0 0 10 (FP.dsub (ck_gd σ4 0 0 10) 4666723172467343360) → sp_X6_moveCharge_88 nc nb post σ7))))
def sp_X6_moveCharge (nc nb : Nat) (σ : ck_S) (post : ck_S → Prop) : Prop := (vf_n64 (FP.dsub (ck_gd σ 0 0 9) (ck_gd σ 0 0 12))) ∧ ∀ σ2, σ2 = ck_ud σ 0 0 9 (FP.dsub (ck_gd σ 0 0 9) (ck_gd σ 0 0 12)) → ((0 ≤ (Op.cmpValue (FP.dcmp (ck_gd σ2 0 0 9) FP.dconst0) .g) → ((((Op.cmpValue (FP.dcmp (ck_gd σ2 0 0 9) (FP.i2d (ck_gi σ2 0 0 1))) .l) ≤ 0 → (sp_X6_moveCharge_52 nc nb post σ2)) ∧ (¬ (Op.cmpValue (FP.dcmp (ck_gd σ2 0 0 9) (FP.i2d (ck_gi σ2 0 0 1))) .l) ≤ 0 → (∀ σ5, σ5 = ck_ud σ2 0 0 9 (FP.i2d (ck_gi σ2 0 0 1)) → sp_X6_moveCharge_52 nc nb post σ5))))) ∧ (¬ 0 ≤ (Op.cmpValue (FP.dcmp (ck_gd σ2 0 0 9) FP.dconst0) .g) → (∀ σ6, σ6 = ck_ud σ2 0 0 9 FP.dconst0 → sp_X6_moveCharge_52 nc nb post σ6)))
set_option maxHeartbeats 4000000 in
set_option maxRecDepth 100000 in
theorem wk_X6_moveCharge_110 {p : Program} {l : Launch} {e : Env} {s : State} {m : MethodId} {args : Array Value} {below : List Frame} {meth : Method} {c : Code} {G : ck_G} (X : ck_X p s m meth c args cX6_moveCharge 2 none RX6 wsX6_moveCharge) (hE : ck_E (ck_A G s.heap.size) s) (hC : ck_inC G) {post : ck_S → Prop} {σ : ck_S} {s0 : Int32} {H : Heap} {locs : List Loc} {ls : Array Slot} (h : sp_X6_moveCharge_110 (ck_nc G) (ck_nb G) post σ s0) (hw : ck_H G s H locs σ) (hl : lv_has ls 2 [(0, .ref (ck_ad G 0 0))]) : W p l e ({ frames := 1, cells := 0, slots := 0, locals := 24 } : Room) s m args below meth c H locs 0 0 (MQ below (va_Qv post (ck_Q G) (ck_A G s.heap.size)) args s 0 0 (ck_A G s.heap.size)) (F0 m 110 ls [.int s0, .ref (ck_ad G 0 0)]) := by
  obtain ⟨hx, hb, hr, hml, hown, hts, hlocks⟩ := id X
  have inX5 : ∀ w ∈ wsX50, w ∈ wsX6_moveCharge := fun _ h => List.mem_cons_of_mem _ (List.mem_append_right _ (h))
  have inX6 : ∀ w ∈ wsX60, w ∈ wsX6_moveCharge := fun _ h => List.mem_cons_of_mem _ (List.mem_append_left _ (List.mem_append_right _ (h)))
  unfold sp_X6_moveCharge_110 at h
  refine ck_puti hx hb hts inX6 tyX6 tyX6_ok nmX6 hown hw (hC.1 0 (by decide)) rfl rfl 11 (by decide) (hts _ (List.mem_of_getElem? (i := 7) rfl)) rfl rfl rfl (Nat.le_of_ble_eq_true rfl) rfl dX6_moveCharge_110 (fun H locs hw => ?_)
  obtain ⟨σ1, eσ1⟩ : ∃ z : ck_S, z = ck_ui σ 0 0 11 s0 := ⟨_, rfl⟩
  rw [← eσ1] at hw
  have h := h σ1 eσ1
  refine lv_aload_n hx hb dX6_moveCharge_113 rfl (lv_at hl 0 rfl) ?_
  refine ck_get hx hb hts inX6 hown hw (hC.1 0 (by decide)) rfl rfl 11 (by decide) (hts _ (List.mem_of_getElem? (i := 7) rfl)) rfl dX6_moveCharge_114 ?_
  refine lv_bipush (v := 60) hx hb dX6_moveCharge_117 (by decide) ?_
  obtain ⟨hA, hB⟩ := h
  refine lv_icmp_lt (tgt := 172) hx hb dX6_moveCharge_119 (by decide) (fun c2 => ?_) (fun c2 => ?_)
  · have h := hA c2
    exact ck_vret X hw h dX6_moveCharge_172
  · have h := hB c2
    refine lv_aload_n hx hb dX6_moveCharge_122 rfl (lv_at hl 0 rfl) ?_
    refine ck_get hx hb hts inX6 hown hw (hC.1 0 (by decide)) rfl rfl 3 (by decide) (hts _ (List.mem_of_getElem? (i := 8) rfl)) rfl dX6_moveCharge_123 ?_
    refine ck_callVi (rest := []) ⟨hx, hb, hml, hown, hts⟩ hw (hC.1 2 (by decide)) rfl rfl (ct_X5_allValid l G hC h) (cwV 0 hts gX6_moveCharge_X5_allValid rfl rfl rfl (by decide +kernel) ⟨(Nat.le_of_ble_eq_true rfl), (Nat.le_of_ble_eq_true rfl)⟩) rfl hl.1 rfl (Nat.le_of_ble_eq_true rfl) dX6_moveCharge_126 ⟨(Nat.le_of_ble_eq_true rfl), (Nat.le_of_ble_eq_true rfl)⟩ (fun x_4 σ3 H locs h hw => ?_)
    obtain ⟨hA, hB⟩ := h
    refine lv_if_eq (tgt := 172) hx hb dX6_moveCharge_129 (by decide) (fun c5 => ?_) (fun c5 => ?_)
    · have h := hA c5
      exact ck_vret X hw h dX6_moveCharge_172
    · have h := hB c5
      refine lv_aload_n hx hb dX6_moveCharge_132 rfl (lv_at hl 0 rfl) ?_
      refine ck_get hx hb hts inX6 hown hw (hC.1 0 (by decide)) rfl rfl 3 (by decide) (hts _ (List.mem_of_getElem? (i := 8) rfl)) rfl dX6_moveCharge_133 ?_
      refine ck_get hx hb hts inX5 hown hw (hC.1 2 (by decide)) rfl rfl 2 (by decide) (hts _ (List.mem_of_getElem? (i := 9) rfl)) rfl dX6_moveCharge_136 ?_
      refine lv_bipush (v := 6) hx hb dX6_moveCharge_139 (by decide) ?_
      refine lv_iconst (v := 1) hx hb dX6_moveCharge_141 (by decide) ?_
      refine lv_aload_n hx hb dX6_moveCharge_142 rfl (lv_at hl 0 rfl) ?_
      refine ck_get hx hb hts inX6 hown hw (hC.1 0 (by decide)) rfl rfl 0 (by decide) (hts _ (List.mem_of_getElem? (i := 10) rfl)) rfl dX6_moveCharge_143 ?_
      refine ck_alen hx hb hw (hC.1 1 (by decide)) rfl 4 rfl rfl dX6_moveCharge_146 ?_
      refine va_mmax hx hb (hml.trans hl.1.symm) hown (hts _ (List.mem_of_getElem? (i := 11) rfl)) (hts _ (List.mem_of_getElem? (i := 12) rfl)) (hts _ (List.mem_of_getElem? (i := 13) rfl)) (hts _ (List.mem_of_getElem? (i := 14) rfl)) (Nat.le_of_ble_eq_true rfl) (Nat.le_of_ble_eq_true rfl) (Nat.le_of_ble_eq_true rfl) (Nat.le_of_ble_eq_true rfl) dX6_moveCharge_147 ?_
      refine lv_imul hx hb dX6_moveCharge_150 ?_
      obtain ⟨n6, h⟩ := h
      refine lv_idiv hx hb dX6_moveCharge_151 n6 ?_
      refine lv_topi (fun x_7 ex_7 => ?_)
      have h := h x_7 ex_7
      refine lv_istore_n (lv' := [(1, .int x_7), (0, .ref (ck_ad G 0 0))]) hx hb dX6_moveCharge_152 rfl hl (by decide) rfl (fun ls hl => ?_)
      refine lv_aload_n hx hb dX6_moveCharge_153 rfl (lv_at hl 1 rfl) ?_
      refine lv_aload_n hx hb dX6_moveCharge_154 rfl (lv_at hl 1 rfl) ?_
      refine ck_get hx hb hts inX6 hown hw (hC.1 0 (by decide)) rfl rfl 1 (by decide) (hts _ (List.mem_of_getElem? (i := 3) rfl)) rfl dX6_moveCharge_155 ?_
      refine lv_i2d hx hb dX6_moveCharge_158 ?_
      refine lv_iload_n hx hb dX6_moveCharge_159 rfl (lv_at hl 0 rfl) ?_
      refine ck_ecallSi (rest := [.double (FP.i2d (ck_gi σ3 0 0 1)), .ref (ck_ad G 0 0)]) ⟨hx, hb, hml, hown, hts⟩ hw hE (ct_X6_partsAtRest l G h) (va_cwS 1 hts gX6_moveCharge_X6_partsAtRest rfl rfl rfl (by decide +kernel) ⟨(Nat.le_of_ble_eq_true rfl), (Nat.le_of_ble_eq_true rfl)⟩) rfl hl.1 rfl (Nat.le_of_ble_eq_true rfl) dX6_moveCharge_160 ⟨(Nat.le_of_ble_eq_true rfl), (Nat.le_of_ble_eq_true rfl)⟩ (fun x_9 σ8 H locs h hw => ?_)
      refine lv_i2d hx hb dX6_moveCharge_163 ?_
      obtain ⟨n10, h⟩ := h
      refine lv_dmul hx hb dX6_moveCharge_164 n10 ?_
      refine lv_ldc2d hx hb hown (hts _ (List.mem_of_getElem? (i := 15) rfl)) dX6_moveCharge_165 ?_
      obtain ⟨n11, h⟩ := h
      refine lv_ddiv hx hb dX6_moveCharge_168 n11 ?_
      refine ck_putd hx hb hts inX6 tyX6 tyX6_ok nmX6 hown hw (hC.1 0 (by decide)) rfl rfl 9 (by decide) (hts _ (List.mem_of_getElem? (i := 1) rfl)) rfl rfl rfl (Nat.le_of_ble_eq_true rfl) rfl dX6_moveCharge_169 (fun H locs hw => ?_)
      obtain ⟨σ12, eσ12⟩ : ∃ z : ck_S, z = ck_ud σ8 0 0 9 (FP.ddiv (FP.dmul (FP.i2d (ck_gi σ3 0 0 1)) (FP.i2d x_9)) 4652218415073722368) := ⟨_, rfl⟩
      rw [← eσ12] at hw
      have h := h σ12 eσ12
      exact ck_vret X hw h dX6_moveCharge_172
set_option maxHeartbeats 4000000 in
set_option maxRecDepth 100000 in
theorem wk_X6_moveCharge_88 {p : Program} {l : Launch} {e : Env} {s : State} {m : MethodId} {args : Array Value} {below : List Frame} {meth : Method} {c : Code} {G : ck_G} (X : ck_X p s m meth c args cX6_moveCharge 2 none RX6 wsX6_moveCharge) (hE : ck_E (ck_A G s.heap.size) s) (hC : ck_inC G) {post : ck_S → Prop} {σ : ck_S} {H : Heap} {locs : List Loc} {ls : Array Slot} (h : sp_X6_moveCharge_88 (ck_nc G) (ck_nb G) post σ) (hw : ck_H G s H locs σ) (hl : lv_has ls 2 [(0, .ref (ck_ad G 0 0))]) : W p l e ({ frames := 1, cells := 0, slots := 0, locals := 24 } : Room) s m args below meth c H locs 0 0 (MQ below (va_Qv post (ck_Q G) (ck_A G s.heap.size)) args s 0 0 (ck_A G s.heap.size)) (F0 m 88 ls []) := by
  obtain ⟨hx, hb, hr, hml, hown, hts, hlocks⟩ := id X
  have inX5 : ∀ w ∈ wsX50, w ∈ wsX6_moveCharge := fun _ h => List.mem_cons_of_mem _ (List.mem_append_right _ (h))
  have inX6 : ∀ w ∈ wsX60, w ∈ wsX6_moveCharge := fun _ h => List.mem_cons_of_mem _ (List.mem_append_left _ (List.mem_append_right _ (h)))
  unfold sp_X6_moveCharge_88 at h
  refine lv_aload_n hx hb dX6_moveCharge_88 rfl (lv_at hl 0 rfl) ?_
  refine lv_aload_n hx hb dX6_moveCharge_89 rfl (lv_at hl 0 rfl) ?_
  refine ck_callVd (rest := [.ref (ck_ad G 0 0)]) ⟨hx, hb, hml, hown, hts⟩ hw (hC.1 0 (by decide)) rfl rfl (ct_X6_currentSize l G hC h) (cwV 0 hts gX6_moveCharge_X6_currentSize rfl rfl rfl (by decide +kernel) ⟨(Nat.le_of_ble_eq_true rfl), (Nat.le_of_ble_eq_true rfl)⟩) rfl hl.1 rfl (Nat.le_of_ble_eq_true rfl) dX6_moveCharge_90 ⟨(Nat.le_of_ble_eq_true rfl), (Nat.le_of_ble_eq_true rfl)⟩ (fun z_2 σ1 H locs h hw => ?_)
  refine lv_ldc2d hx hb hown (hts _ (List.mem_of_getElem? (i := 6) rfl)) dX6_moveCharge_93 ?_
  refine lv_dcmp hx hb dX6_moveCharge_96 ?_
  obtain ⟨hA, hB⟩ := h
  refine lv_if_ge (tgt := 109) hx hb dX6_moveCharge_97 (by decide) (fun c3 => ?_) (fun c3 => ?_)
  · have h := hA c3
    refine lv_iconst (v := 0) hx hb dX6_moveCharge_109 (by decide) ?_
    exact wk_X6_moveCharge_110 X hE hC h hw (lv_sub hl [0] rfl)
  · have h := hB c3
    refine lv_aload_n hx hb dX6_moveCharge_100 rfl (lv_at hl 0 rfl) ?_
    refine ck_get hx hb hts inX6 hown hw (hC.1 0 (by decide)) rfl rfl 11 (by decide) (hts _ (List.mem_of_getElem? (i := 7) rfl)) rfl dX6_moveCharge_101 ?_
    refine lv_iconst (v := 1) hx hb dX6_moveCharge_104 (by decide) ?_
    refine lv_iadd hx hb dX6_moveCharge_105 ?_
    refine lv_goto (tgt := 110) hx hb dX6_moveCharge_106 (by decide) ?_
    exact wk_X6_moveCharge_110 X hE hC h hw (lv_sub hl [0] rfl)
set_option maxHeartbeats 4000000 in
set_option maxRecDepth 100000 in
theorem wk_X6_moveCharge_52 {p : Program} {l : Launch} {e : Env} {s : State} {m : MethodId} {args : Array Value} {below : List Frame} {meth : Method} {c : Code} {G : ck_G} (X : ck_X p s m meth c args cX6_moveCharge 2 none RX6 wsX6_moveCharge) (hE : ck_E (ck_A G s.heap.size) s) (hC : ck_inC G) {post : ck_S → Prop} {σ : ck_S} {H : Heap} {locs : List Loc} {ls : Array Slot} (h : sp_X6_moveCharge_52 (ck_nc G) (ck_nb G) post σ) (hw : ck_H G s H locs σ) (hl : lv_has ls 2 [(0, .ref (ck_ad G 0 0))]) : W p l e ({ frames := 1, cells := 0, slots := 0, locals := 24 } : Room) s m args below meth c H locs 0 0 (MQ below (va_Qv post (ck_Q G) (ck_A G s.heap.size)) args s 0 0 (ck_A G s.heap.size)) (F0 m 52 ls []) := by
  obtain ⟨hx, hb, hr, hml, hown, hts, hlocks⟩ := id X
  have inX5 : ∀ w ∈ wsX50, w ∈ wsX6_moveCharge := fun _ h => List.mem_cons_of_mem _ (List.mem_append_right _ (h))
  have inX6 : ∀ w ∈ wsX60, w ∈ wsX6_moveCharge := fun _ h => List.mem_cons_of_mem _ (List.mem_append_left _ (List.mem_append_right _ (h)))
  unfold sp_X6_moveCharge_52 at h
  refine lv_aload_n hx hb dX6_moveCharge_52 rfl (lv_at hl 0 rfl) ?_
  refine lv_aload_n hx hb dX6_moveCharge_53 rfl (lv_at hl 0 rfl) ?_
  refine ck_get hx hb hts inX6 hown hw (hC.1 0 (by decide)) rfl rfl 10 (by decide) (hts _ (List.mem_of_getElem? (i := 4) rfl)) rfl dX6_moveCharge_54 ?_
  refine lv_aload_n hx hb dX6_moveCharge_57 rfl (lv_at hl 0 rfl) ?_
  refine ck_callVd (rest := [.double (ck_gd σ 0 0 10), .ref (ck_ad G 0 0)]) ⟨hx, hb, hml, hown, hts⟩ hw (hC.1 0 (by decide)) rfl rfl (ct_X6_currentSize l G hC h) (cwV 0 hts gX6_moveCharge_X6_currentSize rfl rfl rfl (by decide +kernel) ⟨(Nat.le_of_ble_eq_true rfl), (Nat.le_of_ble_eq_true rfl)⟩) rfl hl.1 rfl (Nat.le_of_ble_eq_true rfl) dX6_moveCharge_58 ⟨(Nat.le_of_ble_eq_true rfl), (Nat.le_of_ble_eq_true rfl)⟩ (fun z_2 σ1 H locs h hw => ?_)
  obtain ⟨n3, h⟩ := h
  refine lv_dadd hx hb dX6_moveCharge_61 n3 ?_
  refine ck_putd hx hb hts inX6 tyX6 tyX6_ok nmX6 hown hw (hC.1 0 (by decide)) rfl rfl 10 (by decide) (hts _ (List.mem_of_getElem? (i := 4) rfl)) rfl rfl rfl (Nat.le_of_ble_eq_true rfl) rfl dX6_moveCharge_62 (fun H locs hw => ?_)
  obtain ⟨σ4, eσ4⟩ : ∃ z : ck_S, z = ck_ud σ1 0 0 10 (FP.dadd (ck_gd σ 0 0 10) z_2) := ⟨_, rfl⟩
  rw [← eσ4] at hw
  have h := h σ4 eσ4
  refine lv_aload_n hx hb dX6_moveCharge_65 rfl (lv_at hl 0 rfl) ?_
  refine ck_get hx hb hts inX6 hown hw (hC.1 0 (by decide)) rfl rfl 10 (by decide) (hts _ (List.mem_of_getElem? (i := 4) rfl)) rfl dX6_moveCharge_66 ?_
  refine lv_ldc2d hx hb hown (hts _ (List.mem_of_getElem? (i := 5) rfl)) dX6_moveCharge_69 ?_
  refine lv_dcmp hx hb dX6_moveCharge_72 ?_
  obtain ⟨hA, hB⟩ := h
  refine lv_if_lt (tgt := 88) hx hb dX6_moveCharge_73 (by decide) (fun c5 => ?_) (fun c5 => ?_)
  · have h := hA c5
    exact wk_X6_moveCharge_88 X hE hC h hw (lv_sub hl [0] rfl)
  · have h := hB c5
    refine lv_aload_n hx hb dX6_moveCharge_76 rfl (lv_at hl 0 rfl) ?_
    refine lv_aload_n hx hb dX6_moveCharge_77 rfl (lv_at hl 0 rfl) ?_
    refine ck_get hx hb hts inX6 hown hw (hC.1 0 (by decide)) rfl rfl 10 (by decide) (hts _ (List.mem_of_getElem? (i := 4) rfl)) rfl dX6_moveCharge_78 ?_
    refine lv_ldc2d hx hb hown (hts _ (List.mem_of_getElem? (i := 5) rfl)) dX6_moveCharge_81 ?_
    obtain ⟨n6, h⟩ := h
    refine lv_dsub hx hb dX6_moveCharge_84 n6 ?_
    refine ck_putd hx hb hts inX6 tyX6 tyX6_ok nmX6 hown hw (hC.1 0 (by decide)) rfl rfl 10 (by decide) (hts _ (List.mem_of_getElem? (i := 4) rfl)) rfl rfl rfl (Nat.le_of_ble_eq_true rfl) rfl dX6_moveCharge_85 (fun H locs hw => ?_)
    obtain ⟨σ7, eσ7⟩ : ∃ z : ck_S, z = ck_ud σ4 0 0 10 (FP.dsub (ck_gd σ4 0 0 10) 4666723172467343360) := ⟨_, rfl⟩
    rw [← eσ7] at hw
    have h := h σ7 eσ7
    exact wk_X6_moveCharge_88 X hE hC h hw (lv_sub hl [0] rfl)
set_option maxHeartbeats 4000000 in
set_option maxRecDepth 100000 in
theorem wk_X6_moveCharge_0 {p : Program} {l : Launch} {e : Env} {s : State} {m : MethodId} {args : Array Value} {below : List Frame} {meth : Method} {c : Code} {G : ck_G} (X : ck_X p s m meth c args cX6_moveCharge 2 none RX6 wsX6_moveCharge) (hE : ck_E (ck_A G s.heap.size) s) (hC : ck_inC G) {post : ck_S → Prop} {σ : ck_S} {H : Heap} {locs : List Loc} {ls : Array Slot} (h : sp_X6_moveCharge (ck_nc G) (ck_nb G) σ post) (hw : ck_H G s H locs σ) (hl : lv_has ls 2 [(0, .ref (ck_ad G 0 0))]) : W p l e ({ frames := 1, cells := 0, slots := 0, locals := 24 } : Room) s m args below meth c H locs 0 0 (MQ below (va_Qv post (ck_Q G) (ck_A G s.heap.size)) args s 0 0 (ck_A G s.heap.size)) (F0 m 0 ls []) := by
  obtain ⟨hx, hb, hr, hml, hown, hts, hlocks⟩ := id X
  have inX5 : ∀ w ∈ wsX50, w ∈ wsX6_moveCharge := fun _ h => List.mem_cons_of_mem _ (List.mem_append_right _ (h))
  have inX6 : ∀ w ∈ wsX60, w ∈ wsX6_moveCharge := fun _ h => List.mem_cons_of_mem _ (List.mem_append_left _ (List.mem_append_right _ (h)))
  unfold sp_X6_moveCharge at h
  refine lv_aload_n hx hb dX6_moveCharge_0 rfl (lv_at hl 0 rfl) ?_
  refine lv_aload_n hx hb dX6_moveCharge_1 rfl (lv_at hl 0 rfl) ?_
  refine ck_get hx hb hts inX6 hown hw (hC.1 0 (by decide)) rfl rfl 9 (by decide) (hts _ (List.mem_of_getElem? (i := 1) rfl)) rfl dX6_moveCharge_2 ?_
  refine lv_aload_n hx hb dX6_moveCharge_5 rfl (lv_at hl 0 rfl) ?_
  refine ck_get hx hb hts inX6 hown hw (hC.1 0 (by decide)) rfl rfl 12 (by decide) (hts _ (List.mem_of_getElem? (i := 2) rfl)) rfl dX6_moveCharge_6 ?_
  obtain ⟨n1, h⟩ := h
  refine lv_dsub hx hb dX6_moveCharge_9 n1 ?_
  refine ck_putd hx hb hts inX6 tyX6 tyX6_ok nmX6 hown hw (hC.1 0 (by decide)) rfl rfl 9 (by decide) (hts _ (List.mem_of_getElem? (i := 1) rfl)) rfl rfl rfl (Nat.le_of_ble_eq_true rfl) rfl dX6_moveCharge_10 (fun H locs hw => ?_)
  obtain ⟨σ2, eσ2⟩ : ∃ z : ck_S, z = ck_ud σ 0 0 9 (FP.dsub (ck_gd σ 0 0 9) (ck_gd σ 0 0 12)) := ⟨_, rfl⟩
  rw [← eσ2] at hw
  have h := h σ2 eσ2
  refine lv_aload_n hx hb dX6_moveCharge_13 rfl (lv_at hl 0 rfl) ?_
  refine ck_get hx hb hts inX6 hown hw (hC.1 0 (by decide)) rfl rfl 9 (by decide) (hts _ (List.mem_of_getElem? (i := 1) rfl)) rfl dX6_moveCharge_14 ?_
  refine lv_dconst0 hx hb dX6_moveCharge_17 ?_
  refine lv_dcmp hx hb dX6_moveCharge_18 ?_
  obtain ⟨hA, hB⟩ := h
  refine lv_if_ge (tgt := 30) hx hb dX6_moveCharge_19 (by decide) (fun c3 => ?_) (fun c3 => ?_)
  · have h := hA c3
    refine lv_aload_n hx hb dX6_moveCharge_30 rfl (lv_at hl 0 rfl) ?_
    refine ck_get hx hb hts inX6 hown hw (hC.1 0 (by decide)) rfl rfl 9 (by decide) (hts _ (List.mem_of_getElem? (i := 1) rfl)) rfl dX6_moveCharge_31 ?_
    refine lv_aload_n hx hb dX6_moveCharge_34 rfl (lv_at hl 0 rfl) ?_
    refine ck_get hx hb hts inX6 hown hw (hC.1 0 (by decide)) rfl rfl 1 (by decide) (hts _ (List.mem_of_getElem? (i := 3) rfl)) rfl dX6_moveCharge_35 ?_
    refine lv_i2d hx hb dX6_moveCharge_38 ?_
    refine lv_dcmp hx hb dX6_moveCharge_39 ?_
    obtain ⟨hA, hB⟩ := h
    refine lv_if_le (tgt := 52) hx hb dX6_moveCharge_40 (by decide) (fun c4 => ?_) (fun c4 => ?_)
    · have h := hA c4
      exact wk_X6_moveCharge_52 X hE hC h hw (lv_sub hl [0] rfl)
    · have h := hB c4
      refine lv_aload_n hx hb dX6_moveCharge_43 rfl (lv_at hl 0 rfl) ?_
      refine lv_aload_n hx hb dX6_moveCharge_44 rfl (lv_at hl 0 rfl) ?_
      refine ck_get hx hb hts inX6 hown hw (hC.1 0 (by decide)) rfl rfl 1 (by decide) (hts _ (List.mem_of_getElem? (i := 3) rfl)) rfl dX6_moveCharge_45 ?_
      refine lv_i2d hx hb dX6_moveCharge_48 ?_
      refine ck_putd hx hb hts inX6 tyX6 tyX6_ok nmX6 hown hw (hC.1 0 (by decide)) rfl rfl 9 (by decide) (hts _ (List.mem_of_getElem? (i := 1) rfl)) rfl rfl rfl (Nat.le_of_ble_eq_true rfl) rfl dX6_moveCharge_49 (fun H locs hw => ?_)
      obtain ⟨σ5, eσ5⟩ : ∃ z : ck_S, z = ck_ud σ2 0 0 9 (FP.i2d (ck_gi σ2 0 0 1)) := ⟨_, rfl⟩
      rw [← eσ5] at hw
      have h := h σ5 eσ5
      exact wk_X6_moveCharge_52 X hE hC h hw (lv_sub hl [0] rfl)
  · have h := hB c3
    refine lv_aload_n hx hb dX6_moveCharge_22 rfl (lv_at hl 0 rfl) ?_
    refine lv_dconst0 hx hb dX6_moveCharge_23 ?_
    refine ck_putd hx hb hts inX6 tyX6 tyX6_ok nmX6 hown hw (hC.1 0 (by decide)) rfl rfl 9 (by decide) (hts _ (List.mem_of_getElem? (i := 1) rfl)) rfl rfl rfl (Nat.le_of_ble_eq_true rfl) rfl dX6_moveCharge_24 (fun H locs hw => ?_)
    obtain ⟨σ6, eσ6⟩ : ∃ z : ck_S, z = ck_ud σ2 0 0 9 FP.dconst0 := ⟨_, rfl⟩
    rw [← eσ6] at hw
    have h := h σ6 eσ6
    refine lv_goto (tgt := 52) hx hb dX6_moveCharge_27 (by decide) ?_
    exact wk_X6_moveCharge_52 X hE hC h hw (lv_sub hl [0] rfl)
set_option maxHeartbeats 4000000 in
set_option maxRecDepth 100000 in
theorem ct_X6_moveCharge (l : Launch) (G : ck_G) (hC : ck_inC G) {σ : ck_S} {post : ck_S → Prop} (h : sp_X6_moveCharge (ck_nc G) (ck_nb G) σ post) : ck_MEv l yX6_moveCharge wsX6_moveCharge ({ frames := 1, cells := 0, slots := 0, locals := 24 } : Room) G σ [.ref (ck_ad G 0 0)] post 0 0 := by
  intro sz
  refine Met.ofW (cc := cX6_moveCharge) (maxL := 2) (ret := none) (by decide) rfl ?_
  intro p e s m args below meth c s₁ B hml hv
  obtain ⟨rfl, rfl, hw, hE⟩ := ck_enterE hv
  have hl := lv_entry ([.ref (ck_ad G 0 0)]) (n := 2) (Nat.le_of_ble_eq_true rfl)
  rw [lg_entry_eq]
  generalize (lg_sl ([.ref (ck_ad G 0 0)]) ++ List.replicate (2 - (lg_sl ([.ref (ck_ad G 0 0)])).length) Slot.unset).toArray = ls at hl ⊢
  have hl : lv_has ls 2 [(0, .ref (ck_ad G 0 0))] := hl
  exact wk_X6_moveCharge_0 ⟨B.exec, B.bytes, B.returns, hml, findClass_of_methodNamed B.named, atoms_spec (ws := wsX6_moveCharge) B.pre, B.notSynchronized⟩ hE hC h hw hl
def sp_X6_heatShare (nc nb : Nat) (σ : ck_S) (a0 : UInt64) (post : Int32 → ck_S → Prop) : Prop := ((0 < (Op.cmpValue (FP.dcmp a0 4631530004285489152) .g) → ((((Op.cmpValue (FP.dcmp a0 4633781804099174400) .l) < 0 → ((vf_n64 (FP.dsub a0 4631530004285489152)) ∧ (vf_n64 (FP.dmul 4616189618054758400 (FP.dsub a0 4631530004285489152))) ∧ (vf_n64 (FP.dsub 4634204016564240384 (FP.dmul 4616189618054758400 (FP.dsub a0 4631530004285489152)))) ∧ post (FP.d2i (FP.dsub 4634204016564240384 (FP.dmul 4616189618054758400 (FP.dsub a0 4631530004285489152)))) σ)) ∧ (¬ (Op.cmpValue (FP.dcmp a0 4633781804099174400) .l) < 0 → (post 0 σ))))) ∧ (¬ 0 < (Op.cmpValue (FP.dcmp a0 4631530004285489152) .g) → (post 64 σ)))
set_option maxHeartbeats 4000000 in
set_option maxRecDepth 100000 in
theorem wk_X6_heatShare_0 {p : Program} {l : Launch} {e : Env} {s : State} {m : MethodId} {args : Array Value} {below : List Frame} {meth : Method} {c : Code} {G : ck_G} (X : ck_X p s m meth c args cX6_heatShare 2 (some .int) RX6 wsX6_heatShare) {post : Int32 → ck_S → Prop} {σ : ck_S} {a0 : UInt64} {H : Heap} {locs : List Loc} {ls : Array Slot} (h : sp_X6_heatShare (ck_nc G) (ck_nb G) σ a0 post) (hw : ck_H G s H locs σ) (hl : lv_has ls 2 [(0, .double a0)]) : W p l e ({ frames := 0, cells := 0, slots := 0, locals := 0 } : Room) s m args below meth c H locs 0 0 (MQ below (va_Qi post (ck_Q G) (ck_A G s.heap.size)) args s 0 0 (ck_A G s.heap.size)) (F0 m 0 ls []) := by
  obtain ⟨hx, hb, hr, hml, hown, hts, hlocks⟩ := id X
  unfold sp_X6_heatShare at h
  refine lv_dload_n hx hb dX6_heatShare_0 rfl (lv_at hl 0 rfl) ?_
  refine lv_ldc2d hx hb hown (hts _ (List.mem_of_getElem? (i := 1) rfl)) dX6_heatShare_1 ?_
  refine lv_dcmp hx hb dX6_heatShare_4 ?_
  obtain ⟨hA, hB⟩ := h
  refine lv_if_gt (tgt := 11) hx hb dX6_heatShare_5 (by decide) (fun c1 => ?_) (fun c1 => ?_)
  · have h := hA c1
    refine lv_dload_n hx hb dX6_heatShare_11 rfl (lv_at hl 0 rfl) ?_
    refine lv_ldc2d hx hb hown (hts _ (List.mem_of_getElem? (i := 2) rfl)) dX6_heatShare_12 ?_
    refine lv_dcmp hx hb dX6_heatShare_15 ?_
    obtain ⟨hA, hB⟩ := h
    refine lv_if_lt (tgt := 23) hx hb dX6_heatShare_16 (by decide) (fun c2 => ?_) (fun c2 => ?_)
    · have h := hA c2
      refine lv_ldc2d hx hb hown (hts _ (List.mem_of_getElem? (i := 3) rfl)) dX6_heatShare_23 ?_
      refine lv_ldc2d hx hb hown (hts _ (List.mem_of_getElem? (i := 4) rfl)) dX6_heatShare_26 ?_
      refine lv_dload_n hx hb dX6_heatShare_29 rfl (lv_at hl 0 rfl) ?_
      refine lv_ldc2d hx hb hown (hts _ (List.mem_of_getElem? (i := 1) rfl)) dX6_heatShare_30 ?_
      obtain ⟨n3, h⟩ := h
      refine lv_dsub hx hb dX6_heatShare_33 n3 ?_
      obtain ⟨n4, h⟩ := h
      refine lv_dmul hx hb dX6_heatShare_34 n4 ?_
      obtain ⟨n5, h⟩ := h
      refine lv_dsub hx hb dX6_heatShare_35 n5 ?_
      refine lv_d2i hx hb dX6_heatShare_36 ?_
      exact ck_iret X hw h dX6_heatShare_37
    · have h := hB c2
      refine lv_iconst (v := 0) hx hb dX6_heatShare_19 (by decide) ?_
      refine lv_goto (tgt := 37) hx hb dX6_heatShare_20 (by decide) ?_
      exact ck_iret X hw h dX6_heatShare_37
  · have h := hB c1
    refine lv_bipush (v := 64) hx hb dX6_heatShare_8 (by decide) ?_
    exact ck_iret X hw h dX6_heatShare_10
set_option maxHeartbeats 4000000 in
set_option maxRecDepth 100000 in
theorem ct_X6_heatShare (l : Launch) (G : ck_G) {a0 : UInt64} {σ : ck_S} {post : Int32 → ck_S → Prop} (h : sp_X6_heatShare (ck_nc G) (ck_nb G) σ a0 post) : ck_Mi l yX6_heatShare wsX6_heatShare ({ frames := 0, cells := 0, slots := 0, locals := 0 } : Room) G σ [.double a0] post := by
  intro sz
  refine Met.ofW (cc := cX6_heatShare) (maxL := 2) (ret := (some .int)) (by decide) rfl ?_
  intro p e s m args below meth c s₁ B hml hv
  obtain ⟨rfl, rfl, hw⟩ := ck_enter hv
  have hl := lv_entry ([.double a0]) (n := 2) (Nat.le_of_ble_eq_true rfl)
  rw [lg_entry_eq]
  generalize (lg_sl ([.double a0]) ++ List.replicate (2 - (lg_sl ([.double a0])).length) Slot.unset).toArray = ls at hl ⊢
  have hl : lv_has ls 2 [(0, .double a0)] := hl
  exact wk_X6_heatShare_0 ⟨B.exec, B.bytes, B.returns, hml, findClass_of_methodNamed B.named, atoms_spec (ws := wsX6_heatShare) B.pre, B.notSynchronized⟩ h hw hl
def sp_X6_coldShare (nc nb : Nat) (σ : ck_S) (a0 : UInt64) (post : Int32 → ck_S → Prop) : Prop := (((Op.cmpValue (FP.dcmp a0 4621819117588971520) .l) < 0 → (((0 < (Op.cmpValue (FP.dcmp a0 13850257704024539136) .g) → ((vf_n64 (FP.dadd a0 4626885667169763328)) ∧ (vf_n64 (FP.dmul 4611686018427387904 (FP.dadd a0 4626885667169763328))) ∧ post (FP.d2i (FP.dmul 4611686018427387904 (FP.dadd a0 4626885667169763328))) σ)) ∧ (¬ 0 < (Op.cmpValue (FP.dcmp a0 13850257704024539136) .g) → (post 0 σ))))) ∧ (¬ (Op.cmpValue (FP.dcmp a0 4621819117588971520) .l) < 0 → (post 64 σ)))
set_option maxHeartbeats 4000000 in
set_option maxRecDepth 100000 in
theorem wk_X6_coldShare_0 {p : Program} {l : Launch} {e : Env} {s : State} {m : MethodId} {args : Array Value} {below : List Frame} {meth : Method} {c : Code} {G : ck_G} (X : ck_X p s m meth c args cX6_coldShare 2 (some .int) RX6 wsX6_coldShare) {post : Int32 → ck_S → Prop} {σ : ck_S} {a0 : UInt64} {H : Heap} {locs : List Loc} {ls : Array Slot} (h : sp_X6_coldShare (ck_nc G) (ck_nb G) σ a0 post) (hw : ck_H G s H locs σ) (hl : lv_has ls 2 [(0, .double a0)]) : W p l e ({ frames := 0, cells := 0, slots := 0, locals := 0 } : Room) s m args below meth c H locs 0 0 (MQ below (va_Qi post (ck_Q G) (ck_A G s.heap.size)) args s 0 0 (ck_A G s.heap.size)) (F0 m 0 ls []) := by
  obtain ⟨hx, hb, hr, hml, hown, hts, hlocks⟩ := id X
  unfold sp_X6_coldShare at h
  refine lv_dload_n hx hb dX6_coldShare_0 rfl (lv_at hl 0 rfl) ?_
  refine lv_ldc2d hx hb hown (hts _ (List.mem_of_getElem? (i := 1) rfl)) dX6_coldShare_1 ?_
  refine lv_dcmp hx hb dX6_coldShare_4 ?_
  obtain ⟨hA, hB⟩ := h
  refine lv_if_lt (tgt := 11) hx hb dX6_coldShare_5 (by decide) (fun c1 => ?_) (fun c1 => ?_)
  · have h := hA c1
    refine lv_dload_n hx hb dX6_coldShare_11 rfl (lv_at hl 0 rfl) ?_
    refine lv_ldc2d hx hb hown (hts _ (List.mem_of_getElem? (i := 2) rfl)) dX6_coldShare_12 ?_
    refine lv_dcmp hx hb dX6_coldShare_15 ?_
    obtain ⟨hA, hB⟩ := h
    refine lv_if_gt (tgt := 23) hx hb dX6_coldShare_16 (by decide) (fun c2 => ?_) (fun c2 => ?_)
    · have h := hA c2
      refine lv_ldc2d hx hb hown (hts _ (List.mem_of_getElem? (i := 3) rfl)) dX6_coldShare_23 ?_
      refine lv_dload_n hx hb dX6_coldShare_26 rfl (lv_at hl 0 rfl) ?_
      refine lv_ldc2d hx hb hown (hts _ (List.mem_of_getElem? (i := 4) rfl)) dX6_coldShare_27 ?_
      obtain ⟨n3, h⟩ := h
      refine lv_dadd hx hb dX6_coldShare_30 n3 ?_
      obtain ⟨n4, h⟩ := h
      refine lv_dmul hx hb dX6_coldShare_31 n4 ?_
      refine lv_d2i hx hb dX6_coldShare_32 ?_
      exact ck_iret X hw h dX6_coldShare_33
    · have h := hB c2
      refine lv_iconst (v := 0) hx hb dX6_coldShare_19 (by decide) ?_
      refine lv_goto (tgt := 33) hx hb dX6_coldShare_20 (by decide) ?_
      exact ck_iret X hw h dX6_coldShare_33
  · have h := hB c1
    refine lv_bipush (v := 64) hx hb dX6_coldShare_8 (by decide) ?_
    exact ck_iret X hw h dX6_coldShare_10
set_option maxHeartbeats 4000000 in
set_option maxRecDepth 100000 in
theorem ct_X6_coldShare (l : Launch) (G : ck_G) {a0 : UInt64} {σ : ck_S} {post : Int32 → ck_S → Prop} (h : sp_X6_coldShare (ck_nc G) (ck_nb G) σ a0 post) : ck_Mi l yX6_coldShare wsX6_coldShare ({ frames := 0, cells := 0, slots := 0, locals := 0 } : Room) G σ [.double a0] post := by
  intro sz
  refine Met.ofW (cc := cX6_coldShare) (maxL := 2) (ret := (some .int)) (by decide) rfl ?_
  intro p e s m args below meth c s₁ B hml hv
  obtain ⟨rfl, rfl, hw⟩ := ck_enter hv
  have hl := lv_entry ([.double a0]) (n := 2) (Nat.le_of_ble_eq_true rfl)
  rw [lg_entry_eq]
  generalize (lg_sl ([.double a0]) ++ List.replicate (2 - (lg_sl ([.double a0])).length) Slot.unset).toArray = ls at hl ⊢
  have hl : lv_has ls 2 [(0, .double a0)] := hl
  exact wk_X6_coldShare_0 ⟨B.exec, B.bytes, B.returns, hml, findClass_of_methodNamed B.named, atoms_spec (ws := wsX6_coldShare) B.pre, B.notSynchronized⟩ h hw hl
def sp_X6_wholeCapacities (nc nb : Nat) (σ : ck_S) (a0 : UInt64) (post : Int32 → ck_S → Prop) : Prop := (vf_n64 (FP.ddiv a0 (FP.i2d (ck_gi σ 0 0 1)))) ∧ ∀ x_2, x_2 = (FP.d2i (FP.ddiv a0 (FP.i2d (ck_gi σ 0 0 1)))) → (vf_n64 (FP.dmul (FP.i2d x_2) (FP.i2d (ck_gi σ 0 0 1)))) ∧ (((Op.cmpValue (FP.dcmp (FP.dmul (FP.i2d x_2) (FP.i2d (ck_gi σ 0 0 1))) a0) .l) ≤ 0 → (post x_2 σ)) ∧ (¬ (Op.cmpValue (FP.dcmp (FP.dmul (FP.i2d x_2) (FP.i2d (ck_gi σ 0 0 1))) a0) .l) ≤ 0 → (post (x_2 - 1) σ)))
set_option maxHeartbeats 4000000 in
set_option maxRecDepth 100000 in
theorem wk_X6_wholeCapacities_0 {p : Program} {l : Launch} {e : Env} {s : State} {m : MethodId} {args : Array Value} {below : List Frame} {meth : Method} {c : Code} {G : ck_G} (X : ck_X p s m meth c args cX6_wholeCapacities 4 (some .int) RX6 wsX6_wholeCapacities) (hC : ck_inC G) {post : Int32 → ck_S → Prop} {σ : ck_S} {a0 : UInt64} {H : Heap} {locs : List Loc} {ls : Array Slot} (h : sp_X6_wholeCapacities (ck_nc G) (ck_nb G) σ a0 post) (hw : ck_H G s H locs σ) (hl : lv_has ls 4 [(0, .ref (ck_ad G 0 0)), (1, .double a0)]) : W p l e ({ frames := 0, cells := 0, slots := 0, locals := 0 } : Room) s m args below meth c H locs 0 0 (MQ below (va_Qi post (ck_Q G) (ck_A G s.heap.size)) args s 0 0 (ck_A G s.heap.size)) (F0 m 0 ls []) := by
  obtain ⟨hx, hb, hr, hml, hown, hts, hlocks⟩ := id X
  have inX6 : ∀ w ∈ wsX60, w ∈ wsX6_wholeCapacities := fun _ h => List.mem_cons_of_mem _ (List.mem_append_right _ (h))
  unfold sp_X6_wholeCapacities at h
  refine lv_dload_n hx hb dX6_wholeCapacities_0 rfl (lv_at hl 1 rfl) ?_
  refine lv_aload_n hx hb dX6_wholeCapacities_1 rfl (lv_at hl 0 rfl) ?_
  refine ck_get hx hb hts inX6 hown hw (hC.1 0 (by decide)) rfl rfl 1 (by decide) (hts _ (List.mem_of_getElem? (i := 1) rfl)) rfl dX6_wholeCapacities_2 ?_
  refine lv_i2d hx hb dX6_wholeCapacities_5 ?_
  obtain ⟨n1, h⟩ := h
  refine lv_ddiv hx hb dX6_wholeCapacities_6 n1 ?_
  refine lv_d2i hx hb dX6_wholeCapacities_7 ?_
  refine lv_topi (fun x_2 ex_2 => ?_)
  have h := h x_2 ex_2
  refine lv_istore_n (lv' := [(3, .int x_2), (0, .ref (ck_ad G 0 0)), (1, .double a0)]) hx hb dX6_wholeCapacities_8 rfl hl (by decide) rfl (fun ls hl => ?_)
  refine lv_iload_n hx hb dX6_wholeCapacities_9 rfl (lv_at hl 0 rfl) ?_
  refine lv_i2d hx hb dX6_wholeCapacities_10 ?_
  refine lv_aload_n hx hb dX6_wholeCapacities_11 rfl (lv_at hl 1 rfl) ?_
  refine ck_get hx hb hts inX6 hown hw (hC.1 0 (by decide)) rfl rfl 1 (by decide) (hts _ (List.mem_of_getElem? (i := 1) rfl)) rfl dX6_wholeCapacities_12 ?_
  refine lv_i2d hx hb dX6_wholeCapacities_15 ?_
  obtain ⟨n3, h⟩ := h
  refine lv_dmul hx hb dX6_wholeCapacities_16 n3 ?_
  refine lv_dload_n hx hb dX6_wholeCapacities_17 rfl (lv_at hl 2 rfl) ?_
  refine lv_dcmp hx hb dX6_wholeCapacities_18 ?_
  obtain ⟨hA, hB⟩ := h
  refine lv_if_le (tgt := 28) hx hb dX6_wholeCapacities_19 (by decide) (fun c4 => ?_) (fun c4 => ?_)
  · have h := hA c4
    refine lv_iload_n hx hb dX6_wholeCapacities_28 rfl (lv_at hl 0 rfl) ?_
    exact ck_iret X hw h dX6_wholeCapacities_29
  · have h := hB c4
    refine lv_iload_n hx hb dX6_wholeCapacities_22 rfl (lv_at hl 0 rfl) ?_
    refine lv_iconst (v := 1) hx hb dX6_wholeCapacities_23 (by decide) ?_
    refine lv_isub hx hb dX6_wholeCapacities_24 ?_
    refine lv_goto (tgt := 29) hx hb dX6_wholeCapacities_25 (by decide) ?_
    exact ck_iret X hw h dX6_wholeCapacities_29
set_option maxHeartbeats 4000000 in
set_option maxRecDepth 100000 in
theorem ct_X6_wholeCapacities (l : Launch) (G : ck_G) (hC : ck_inC G) {a0 : UInt64} {σ : ck_S} {post : Int32 → ck_S → Prop} (h : sp_X6_wholeCapacities (ck_nc G) (ck_nb G) σ a0 post) : ck_Mi l yX6_wholeCapacities wsX6_wholeCapacities ({ frames := 0, cells := 0, slots := 0, locals := 0 } : Room) G σ [.ref (ck_ad G 0 0), .double a0] post := by
  intro sz
  refine Met.ofW (cc := cX6_wholeCapacities) (maxL := 4) (ret := (some .int)) (by decide) rfl ?_
  intro p e s m args below meth c s₁ B hml hv
  obtain ⟨rfl, rfl, hw⟩ := ck_enter hv
  have hl := lv_entry ([.ref (ck_ad G 0 0), .double a0]) (n := 4) (Nat.le_of_ble_eq_true rfl)
  rw [lg_entry_eq]
  generalize (lg_sl ([.ref (ck_ad G 0 0), .double a0]) ++ List.replicate (4 - (lg_sl ([.ref (ck_ad G 0 0), .double a0])).length) Slot.unset).toArray = ls at hl ⊢
  have hl : lv_has ls 4 [(0, .ref (ck_ad G 0 0)), (1, .double a0)] := hl
  exact wk_X6_wholeCapacities_0 ⟨B.exec, B.bytes, B.returns, hml, findClass_of_methodNamed B.named, atoms_spec (ws := wsX6_wholeCapacities) B.pre, B.notSynchronized⟩ hC h hw hl
def sp_X6_chargeShare (nc nb : Nat) (σ : ck_S) (a0 : UInt64) (post : Int32 → ck_S → Prop) : Prop := (vf_n64 (FP.dmul 4620693217682128896 a0)) ∧ (((Op.cmpValue (FP.dcmp (FP.dmul 4620693217682128896 a0) (FP.i2d (ck_gi σ 0 0 1))) .l) < 0 → ((vf_n64 (FP.dmul 4647714815446351872 a0)) ∧ sp_X6_wholeCapacities nc nb σ (FP.dmul 4647714815446351872 a0) (fun x_5 σ4 => post x_5 σ4))) ∧ (¬ (Op.cmpValue (FP.dcmp (FP.dmul 4620693217682128896 a0) (FP.i2d (ck_gi σ 0 0 1))) .l) < 0 → (post 64 σ)))
set_option maxHeartbeats 4000000 in
set_option maxRecDepth 100000 in
theorem wk_X6_chargeShare_0 {p : Program} {l : Launch} {e : Env} {s : State} {m : MethodId} {args : Array Value} {below : List Frame} {meth : Method} {c : Code} {G : ck_G} (X : ck_X p s m meth c args cX6_chargeShare 3 (some .int) RX6 wsX6_chargeShare) (hC : ck_inC G) {post : Int32 → ck_S → Prop} {σ : ck_S} {a0 : UInt64} {H : Heap} {locs : List Loc} {ls : Array Slot} (h : sp_X6_chargeShare (ck_nc G) (ck_nb G) σ a0 post) (hw : ck_H G s H locs σ) (hl : lv_has ls 3 [(0, .ref (ck_ad G 0 0)), (1, .double a0)]) : W p l e ({ frames := 1, cells := 0, slots := 0, locals := 23 } : Room) s m args below meth c H locs 0 0 (MQ below (va_Qi post (ck_Q G) (ck_A G s.heap.size)) args s 0 0 (ck_A G s.heap.size)) (F0 m 0 ls []) := by
  obtain ⟨hx, hb, hr, hml, hown, hts, hlocks⟩ := id X
  have inX6 : ∀ w ∈ wsX60, w ∈ wsX6_chargeShare := fun _ h => List.mem_cons_of_mem _ (List.mem_append_right _ (h))
  unfold sp_X6_chargeShare at h
  refine lv_ldc2d hx hb hown (hts _ (List.mem_of_getElem? (i := 1) rfl)) dX6_chargeShare_0 ?_
  refine lv_dload_n hx hb dX6_chargeShare_3 rfl (lv_at hl 1 rfl) ?_
  obtain ⟨n1, h⟩ := h
  refine lv_dmul hx hb dX6_chargeShare_4 n1 ?_
  refine lv_aload_n hx hb dX6_chargeShare_5 rfl (lv_at hl 0 rfl) ?_
  refine ck_get hx hb hts inX6 hown hw (hC.1 0 (by decide)) rfl rfl 1 (by decide) (hts _ (List.mem_of_getElem? (i := 2) rfl)) rfl dX6_chargeShare_6 ?_
  refine lv_i2d hx hb dX6_chargeShare_9 ?_
  refine lv_dcmp hx hb dX6_chargeShare_10 ?_
  obtain ⟨hA, hB⟩ := h
  refine lv_if_lt (tgt := 19) hx hb dX6_chargeShare_11 (by decide) (fun c2 => ?_) (fun c2 => ?_)
  · have h := hA c2
    refine lv_aload_n hx hb dX6_chargeShare_19 rfl (lv_at hl 0 rfl) ?_
    refine lv_ldc2d hx hb hown (hts _ (List.mem_of_getElem? (i := 3) rfl)) dX6_chargeShare_20 ?_
    refine lv_dload_n hx hb dX6_chargeShare_23 rfl (lv_at hl 1 rfl) ?_
    obtain ⟨n3, h⟩ := h
    refine lv_dmul hx hb dX6_chargeShare_24 n3 ?_
    refine ck_callVi (rest := []) ⟨hx, hb, hml, hown, hts⟩ hw (hC.1 0 (by decide)) rfl rfl (ct_X6_wholeCapacities l G hC h) (cwV 1 hts gX6_chargeShare_X6_wholeCapacities rfl rfl rfl (by decide +kernel) ⟨(Nat.le_of_ble_eq_true rfl), (Nat.le_of_ble_eq_true rfl)⟩) rfl hl.1 rfl (Nat.le_of_ble_eq_true rfl) dX6_chargeShare_25 ⟨(Nat.le_of_ble_eq_true rfl), (Nat.le_of_ble_eq_true rfl)⟩ (fun x_5 σ4 H locs h hw => ?_)
    exact ck_iret X hw h dX6_chargeShare_28
  · have h := hB c2
    refine lv_bipush (v := 64) hx hb dX6_chargeShare_14 (by decide) ?_
    refine lv_goto (tgt := 28) hx hb dX6_chargeShare_16 (by decide) ?_
    exact ck_iret X hw h dX6_chargeShare_28
set_option maxHeartbeats 4000000 in
set_option maxRecDepth 100000 in
theorem ct_X6_chargeShare (l : Launch) (G : ck_G) (hC : ck_inC G) {a0 : UInt64} {σ : ck_S} {post : Int32 → ck_S → Prop} (h : sp_X6_chargeShare (ck_nc G) (ck_nb G) σ a0 post) : ck_Mi l yX6_chargeShare wsX6_chargeShare ({ frames := 1, cells := 0, slots := 0, locals := 23 } : Room) G σ [.ref (ck_ad G 0 0), .double a0] post := by
  intro sz
  refine Met.ofW (cc := cX6_chargeShare) (maxL := 3) (ret := (some .int)) (by decide) rfl ?_
  intro p e s m args below meth c s₁ B hml hv
  obtain ⟨rfl, rfl, hw⟩ := ck_enter hv
  have hl := lv_entry ([.ref (ck_ad G 0 0), .double a0]) (n := 3) (Nat.le_of_ble_eq_true rfl)
  rw [lg_entry_eq]
  generalize (lg_sl ([.ref (ck_ad G 0 0), .double a0]) ++ List.replicate (3 - (lg_sl ([.ref (ck_ad G 0 0), .double a0])).length) Slot.unset).toArray = ls at hl ⊢
  have hl : lv_has ls 3 [(0, .ref (ck_ad G 0 0)), (1, .double a0)] := hl
  exact wk_X6_chargeShare_0 ⟨B.exec, B.bytes, B.returns, hml, findClass_of_methodNamed B.named, atoms_spec (ws := wsX6_chargeShare) B.pre, B.notSynchronized⟩ hC h hw hl
def sp_X6_tellAllowed (nc nb : Nat) (σ : ck_S) (post : ck_S → Prop) : Prop := sp_X6_heatShare nc nb σ (ck_gd σ 2 0 5) (fun x_2 σ1 => sp_X6_coldShare nc nb σ1 (ck_gd σ1 2 0 6) (fun x_4 σ3 => ∀ x_5, x_5 = (if x_4 < x_2 then x_4 else x_2) → sp_X6_chargeShare nc nb σ3 (ck_gd σ3 0 0 9) (fun x_7 σ6 => (vf_n64 (FP.dmul 4643985272004935680 (FP.i2d (if x_7 < x_5 then x_7 else x_5)))) ∧ (vf_n64 (FP.ddiv (FP.dmul 4643985272004935680 (FP.i2d (if x_7 < x_5 then x_7 else x_5))) 4634204016564240384)) ∧ ∀ σ10, σ10 = ck_ud σ6 0 0 15 (FP.ddiv (FP.dmul 4643985272004935680 (FP.i2d (if x_7 < x_5 then x_7 else x_5))) 4634204016564240384) → (vf_n64 (FP.dsub (FP.i2d (ck_gi σ10 0 0 1)) (ck_gd σ10 0 0 9))) ∧ sp_X6_chargeShare nc nb σ10 (FP.dsub (FP.i2d (ck_gi σ10 0 0 1)) (ck_gd σ10 0 0 9)) (fun x_13 σ12 => (vf_n64 (FP.dmul 4639481672377565184 (FP.i2d (if x_13 < x_5 then x_13 else x_5)))) ∧ (vf_n64 (FP.ddiv (FP.dmul 4639481672377565184 (FP.i2d (if x_13 < x_5 then x_13 else x_5))) 4634204016564240384)) ∧ ∀ σ16, σ16 = ck_ud σ12 0 0 16 (FP.ddiv (FP.dmul 4639481672377565184 (FP.i2d (if x_13 < x_5 then x_13 else x_5))) 4634204016564240384) → post σ16))))
set_option maxHeartbeats 4000000 in
set_option maxRecDepth 100000 in
theorem wk_X6_tellAllowed_0 {p : Program} {l : Launch} {e : Env} {s : State} {m : MethodId} {args : Array Value} {below : List Frame} {meth : Method} {c : Code} {G : ck_G} (X : ck_X p s m meth c args cX6_tellAllowed 2 none RX6 wsX6_tellAllowed) (hC : ck_inC G) {post : ck_S → Prop} {σ : ck_S} {H : Heap} {locs : List Loc} {ls : Array Slot} (h : sp_X6_tellAllowed (ck_nc G) (ck_nb G) σ post) (hw : ck_H G s H locs σ) (hl : lv_has ls 2 [(0, .ref (ck_ad G 0 0))]) : W p l e ({ frames := 2, cells := 0, slots := 0, locals := 45 } : Room) s m args below meth c H locs 0 0 (MQ below (va_Qv post (ck_Q G) (ck_A G s.heap.size)) args s 0 0 (ck_A G s.heap.size)) (F0 m 0 ls []) := by
  obtain ⟨hx, hb, hr, hml, hown, hts, hlocks⟩ := id X
  have inX5 : ∀ w ∈ wsX50, w ∈ wsX6_tellAllowed := fun _ h => List.mem_cons_of_mem _ (List.mem_append_right _ (h))
  have inX6 : ∀ w ∈ wsX60, w ∈ wsX6_tellAllowed := fun _ h => List.mem_cons_of_mem _ (List.mem_append_left _ (List.mem_append_right _ (h)))
  unfold sp_X6_tellAllowed at h
  refine lv_aload_n hx hb dX6_tellAllowed_0 rfl (lv_at hl 0 rfl) ?_
  refine ck_get hx hb hts inX6 hown hw (hC.1 0 (by decide)) rfl rfl 3 (by decide) (hts _ (List.mem_of_getElem? (i := 1) rfl)) rfl dX6_tellAllowed_1 ?_
  refine ck_get hx hb hts inX5 hown hw (hC.1 2 (by decide)) rfl rfl 5 (by decide) (hts _ (List.mem_of_getElem? (i := 2) rfl)) rfl dX6_tellAllowed_4 ?_
  refine ck_callSi (rest := []) ⟨hx, hb, hml, hown, hts⟩ hw (ct_X6_heatShare l G h) (va_cwS 1 hts gX6_tellAllowed_X6_heatShare rfl rfl rfl (by decide +kernel) ⟨(Nat.le_of_ble_eq_true rfl), (Nat.le_of_ble_eq_true rfl)⟩) rfl hl.1 rfl (Nat.le_of_ble_eq_true rfl) dX6_tellAllowed_7 ⟨(Nat.le_of_ble_eq_true rfl), (Nat.le_of_ble_eq_true rfl)⟩ (fun x_2 σ1 H locs h hw => ?_)
  refine lv_aload_n hx hb dX6_tellAllowed_10 rfl (lv_at hl 0 rfl) ?_
  refine ck_get hx hb hts inX6 hown hw (hC.1 0 (by decide)) rfl rfl 3 (by decide) (hts _ (List.mem_of_getElem? (i := 1) rfl)) rfl dX6_tellAllowed_11 ?_
  refine ck_get hx hb hts inX5 hown hw (hC.1 2 (by decide)) rfl rfl 6 (by decide) (hts _ (List.mem_of_getElem? (i := 3) rfl)) rfl dX6_tellAllowed_14 ?_
  refine ck_callSi (rest := [.int x_2]) ⟨hx, hb, hml, hown, hts⟩ hw (ct_X6_coldShare l G h) (va_cwS 1 hts gX6_tellAllowed_X6_coldShare rfl rfl rfl (by decide +kernel) ⟨(Nat.le_of_ble_eq_true rfl), (Nat.le_of_ble_eq_true rfl)⟩) rfl hl.1 rfl (Nat.le_of_ble_eq_true rfl) dX6_tellAllowed_17 ⟨(Nat.le_of_ble_eq_true rfl), (Nat.le_of_ble_eq_true rfl)⟩ (fun x_4 σ3 H locs h hw => ?_)
  refine va_mmin hx hb (hml.trans hl.1.symm) hown (hts _ (List.mem_of_getElem? (i := 4) rfl)) (hts _ (List.mem_of_getElem? (i := 5) rfl)) (hts _ (List.mem_of_getElem? (i := 6) rfl)) (hts _ (List.mem_of_getElem? (i := 7) rfl)) (Nat.le_of_ble_eq_true rfl) (Nat.le_of_ble_eq_true rfl) (Nat.le_of_ble_eq_true rfl) (Nat.le_of_ble_eq_true rfl) dX6_tellAllowed_20 ?_
  refine lv_topi (fun x_5 ex_5 => ?_)
  have h := h x_5 ex_5
  refine lv_istore_n (lv' := [(1, .int x_5), (0, .ref (ck_ad G 0 0))]) hx hb dX6_tellAllowed_23 rfl hl (by decide) rfl (fun ls hl => ?_)
  refine lv_aload_n hx hb dX6_tellAllowed_24 rfl (lv_at hl 1 rfl) ?_
  refine lv_ldc2d hx hb hown (hts _ (List.mem_of_getElem? (i := 8) rfl)) dX6_tellAllowed_25 ?_
  refine lv_iload_n hx hb dX6_tellAllowed_28 rfl (lv_at hl 0 rfl) ?_
  refine lv_aload_n hx hb dX6_tellAllowed_29 rfl (lv_at hl 1 rfl) ?_
  refine lv_aload_n hx hb dX6_tellAllowed_30 rfl (lv_at hl 1 rfl) ?_
  refine ck_get hx hb hts inX6 hown hw (hC.1 0 (by decide)) rfl rfl 9 (by decide) (hts _ (List.mem_of_getElem? (i := 9) rfl)) rfl dX6_tellAllowed_31 ?_
  refine ck_callVi (rest := [.int x_5, .double 4643985272004935680, .ref (ck_ad G 0 0)]) ⟨hx, hb, hml, hown, hts⟩ hw (hC.1 0 (by decide)) rfl rfl (ct_X6_chargeShare l G hC h) (cwV 1 hts gX6_tellAllowed_X6_chargeShare rfl rfl rfl (by decide +kernel) ⟨(Nat.le_of_ble_eq_true rfl), (Nat.le_of_ble_eq_true rfl)⟩) rfl hl.1 rfl (Nat.le_of_ble_eq_true rfl) dX6_tellAllowed_34 ⟨(Nat.le_of_ble_eq_true rfl), (Nat.le_of_ble_eq_true rfl)⟩ (fun x_7 σ6 H locs h hw => ?_)
  refine va_mmin hx hb (hml.trans hl.1.symm) hown (hts _ (List.mem_of_getElem? (i := 4) rfl)) (hts _ (List.mem_of_getElem? (i := 5) rfl)) (hts _ (List.mem_of_getElem? (i := 6) rfl)) (hts _ (List.mem_of_getElem? (i := 7) rfl)) (Nat.le_of_ble_eq_true rfl) (Nat.le_of_ble_eq_true rfl) (Nat.le_of_ble_eq_true rfl) (Nat.le_of_ble_eq_true rfl) dX6_tellAllowed_37 ?_
  refine lv_i2d hx hb dX6_tellAllowed_40 ?_
  obtain ⟨n8, h⟩ := h
  refine lv_dmul hx hb dX6_tellAllowed_41 n8 ?_
  refine lv_ldc2d hx hb hown (hts _ (List.mem_of_getElem? (i := 10) rfl)) dX6_tellAllowed_42 ?_
  obtain ⟨n9, h⟩ := h
  refine lv_ddiv hx hb dX6_tellAllowed_45 n9 ?_
  refine ck_putd hx hb hts inX6 tyX6 tyX6_ok nmX6 hown hw (hC.1 0 (by decide)) rfl rfl 15 (by decide) (hts _ (List.mem_of_getElem? (i := 11) rfl)) rfl rfl rfl (Nat.le_of_ble_eq_true rfl) rfl dX6_tellAllowed_46 (fun H locs hw => ?_)
  obtain ⟨σ10, eσ10⟩ : ∃ z : ck_S, z = ck_ud σ6 0 0 15 (FP.ddiv (FP.dmul 4643985272004935680 (FP.i2d (if x_7 < x_5 then x_7 else x_5))) 4634204016564240384) := ⟨_, rfl⟩
  rw [← eσ10] at hw
  have h := h σ10 eσ10
  refine lv_aload_n hx hb dX6_tellAllowed_49 rfl (lv_at hl 1 rfl) ?_
  refine lv_ldc2d hx hb hown (hts _ (List.mem_of_getElem? (i := 12) rfl)) dX6_tellAllowed_50 ?_
  refine lv_iload_n hx hb dX6_tellAllowed_53 rfl (lv_at hl 0 rfl) ?_
  refine lv_aload_n hx hb dX6_tellAllowed_54 rfl (lv_at hl 1 rfl) ?_
  refine lv_aload_n hx hb dX6_tellAllowed_55 rfl (lv_at hl 1 rfl) ?_
  refine ck_get hx hb hts inX6 hown hw (hC.1 0 (by decide)) rfl rfl 1 (by decide) (hts _ (List.mem_of_getElem? (i := 13) rfl)) rfl dX6_tellAllowed_56 ?_
  refine lv_i2d hx hb dX6_tellAllowed_59 ?_
  refine lv_aload_n hx hb dX6_tellAllowed_60 rfl (lv_at hl 1 rfl) ?_
  refine ck_get hx hb hts inX6 hown hw (hC.1 0 (by decide)) rfl rfl 9 (by decide) (hts _ (List.mem_of_getElem? (i := 9) rfl)) rfl dX6_tellAllowed_61 ?_
  obtain ⟨n11, h⟩ := h
  refine lv_dsub hx hb dX6_tellAllowed_64 n11 ?_
  refine ck_callVi (rest := [.int x_5, .double 4639481672377565184, .ref (ck_ad G 0 0)]) ⟨hx, hb, hml, hown, hts⟩ hw (hC.1 0 (by decide)) rfl rfl (ct_X6_chargeShare l G hC h) (cwV 1 hts gX6_tellAllowed_X6_chargeShare rfl rfl rfl (by decide +kernel) ⟨(Nat.le_of_ble_eq_true rfl), (Nat.le_of_ble_eq_true rfl)⟩) rfl hl.1 rfl (Nat.le_of_ble_eq_true rfl) dX6_tellAllowed_65 ⟨(Nat.le_of_ble_eq_true rfl), (Nat.le_of_ble_eq_true rfl)⟩ (fun x_13 σ12 H locs h hw => ?_)
  refine va_mmin hx hb (hml.trans hl.1.symm) hown (hts _ (List.mem_of_getElem? (i := 4) rfl)) (hts _ (List.mem_of_getElem? (i := 5) rfl)) (hts _ (List.mem_of_getElem? (i := 6) rfl)) (hts _ (List.mem_of_getElem? (i := 7) rfl)) (Nat.le_of_ble_eq_true rfl) (Nat.le_of_ble_eq_true rfl) (Nat.le_of_ble_eq_true rfl) (Nat.le_of_ble_eq_true rfl) dX6_tellAllowed_68 ?_
  refine lv_i2d hx hb dX6_tellAllowed_71 ?_
  obtain ⟨n14, h⟩ := h
  refine lv_dmul hx hb dX6_tellAllowed_72 n14 ?_
  refine lv_ldc2d hx hb hown (hts _ (List.mem_of_getElem? (i := 10) rfl)) dX6_tellAllowed_73 ?_
  obtain ⟨n15, h⟩ := h
  refine lv_ddiv hx hb dX6_tellAllowed_76 n15 ?_
  refine ck_putd hx hb hts inX6 tyX6 tyX6_ok nmX6 hown hw (hC.1 0 (by decide)) rfl rfl 16 (by decide) (hts _ (List.mem_of_getElem? (i := 14) rfl)) rfl rfl rfl (Nat.le_of_ble_eq_true rfl) rfl dX6_tellAllowed_77 (fun H locs hw => ?_)
  obtain ⟨σ16, eσ16⟩ : ∃ z : ck_S, z = ck_ud σ12 0 0 16 (FP.ddiv (FP.dmul 4639481672377565184 (FP.i2d (if x_13 < x_5 then x_13 else x_5))) 4634204016564240384) := ⟨_, rfl⟩
  rw [← eσ16] at hw
  have h := h σ16 eσ16
  exact ck_vret X hw h dX6_tellAllowed_80
set_option maxHeartbeats 4000000 in
set_option maxRecDepth 100000 in
theorem ct_X6_tellAllowed (l : Launch) (G : ck_G) (hC : ck_inC G) {σ : ck_S} {post : ck_S → Prop} (h : sp_X6_tellAllowed (ck_nc G) (ck_nb G) σ post) : ck_Mv l yX6_tellAllowed wsX6_tellAllowed ({ frames := 2, cells := 0, slots := 0, locals := 45 } : Room) G σ [.ref (ck_ad G 0 0)] post := by
  intro sz
  refine Met.ofW (cc := cX6_tellAllowed) (maxL := 2) (ret := none) (by decide) rfl ?_
  intro p e s m args below meth c s₁ B hml hv
  obtain ⟨rfl, rfl, hw⟩ := ck_enter hv
  have hl := lv_entry ([.ref (ck_ad G 0 0)]) (n := 2) (Nat.le_of_ble_eq_true rfl)
  rw [lg_entry_eq]
  generalize (lg_sl ([.ref (ck_ad G 0 0)]) ++ List.replicate (2 - (lg_sl ([.ref (ck_ad G 0 0)])).length) Slot.unset).toArray = ls at hl ⊢
  have hl : lv_has ls 2 [(0, .ref (ck_ad G 0 0))] := hl
  exact wk_X6_tellAllowed_0 ⟨B.exec, B.bytes, B.returns, hml, findClass_of_methodNamed B.named, atoms_spec (ws := wsX6_tellAllowed) B.pre, B.notSynchronized⟩ hC h hw hl
def sp_X6_watchCauses_183 (nc nb : Nat) (post : ck_S → Prop) (σ : ck_S) (s0 : Int32) : Prop := sp_X0_watch nc nb σ s0 1 (fun σ1 => post σ1)
def sp_X6_watchCauses_141 (nc nb : Nat) (post : ck_S → Prop) (σ : ck_S) (s0 : Int32) (s1 : Int32) : Prop := sp_X0_watch nc nb σ s1 s0 (fun σ1 => (vf_n64 (FP.dadd (ck_gd σ1 0 0 15) 4621819117588971520)) ∧ ((0 < (Op.cmpValue (FP.dcmp (ck_gd σ1 0 0 12) (FP.dadd (ck_gd σ1 0 0 15) 4621819117588971520)) .l) → (sp_X6_watchCauses_183 nc nb post σ1 6)) ∧ (¬ 0 < (Op.cmpValue (FP.dcmp (ck_gd σ1 0 0 12) (FP.dadd (ck_gd σ1 0 0 15) 4621819117588971520)) .l) → ((vf_n64 (FP.dadd (ck_gd σ1 0 0 16) 4621819117588971520)) ∧ (((Op.cmpValue (FP.dcmp (FP.dneg (ck_gd σ1 0 0 12)) (FP.dadd (ck_gd σ1 0 0 16) 4621819117588971520)) .l) ≤ 0 → (sp_X0_watch nc nb σ1 6 0 (fun σ7 => post σ7))) ∧ (¬ (Op.cmpValue (FP.dcmp (FP.dneg (ck_gd σ1 0 0 12)) (FP.dadd (ck_gd σ1 0 0 16) 4621819117588971520)) .l) ≤ 0 → (sp_X6_watchCauses_183 nc nb post σ1 6)))))))
def sp_X6_watchCauses_114 (nc nb : Nat) (post : ck_S → Prop) (σ : ck_S) (s0 : Int32) (s1 : Int32) : Prop := sp_X0_watch nc nb σ s1 s0 (fun σ1 => ((0 ≤ (Op.cmpValue (FP.dcmp (ck_gd σ1 2 0 6) 13852509503838224384) .g) → (sp_X6_watchCauses_141 nc nb post σ1 0 5)) ∧ (¬ 0 ≤ (Op.cmpValue (FP.dcmp (ck_gd σ1 2 0 6) 13852509503838224384) .g) → (sp_X6_watchCauses_141 nc nb post σ1 1 5))))
def sp_X6_watchCauses_87 (nc nb : Nat) (post : ck_S → Prop) (σ : ck_S) (s0 : Int32) (s1 : Int32) : Prop := sp_X0_watch nc nb σ s1 s0 (fun σ1 => (((Op.cmpValue (FP.dcmp (ck_gd σ1 2 0 5) 4633641066610819072) .l) ≤ 0 → (sp_X6_watchCauses_114 nc nb post σ1 0 4)) ∧ (¬ (Op.cmpValue (FP.dcmp (ck_gd σ1 2 0 5) 4633641066610819072) .l) ≤ 0 → (sp_X6_watchCauses_114 nc nb post σ1 1 4))))
def sp_X6_watchCauses_61 (nc nb : Nat) (post : ck_S → Prop) (σ : ck_S) (s0 : Int32) (s1 : Int32) : Prop := sp_X0_watch nc nb σ s1 s0 (fun σ1 => ((2500 ≤ (ck_gi σ1 2 0 3) → (sp_X6_watchCauses_87 nc nb post σ1 0 3)) ∧ (¬ 2500 ≤ (ck_gi σ1 2 0 3) → (sp_X6_watchCauses_87 nc nb post σ1 1 3))))
def sp_X6_watchCauses (nc nb : Nat) (σ : ck_S) (post : ck_S → Prop) : Prop := ∀ σ1, σ1 = ck_ui σ 3 0 3 0 → sp_X0_watch nc nb σ1 0 (ck_gi σ1 2 0 0) (fun σ2 => sp_X0_watch nc nb σ2 1 (ck_gi σ2 2 0 1) (fun σ4 => (((ck_gi σ4 2 0 4) ≤ 4200 → (sp_X6_watchCauses_61 nc nb post σ4 0 2)) ∧ (¬ (ck_gi σ4 2 0 4) ≤ 4200 → (sp_X6_watchCauses_61 nc nb post σ4 1 2)))))
set_option maxHeartbeats 4000000 in
set_option maxRecDepth 100000 in
theorem wk_X6_watchCauses_183 {p : Program} {l : Launch} {e : Env} {s : State} {m : MethodId} {args : Array Value} {below : List Frame} {meth : Method} {c : Code} {G : ck_G} (X : ck_X p s m meth c args cX6_watchCauses 1 none RX6 wsX6_watchCauses) (hC : ck_inC G) {post : ck_S → Prop} {σ : ck_S} {s0 : Int32} {H : Heap} {locs : List Loc} {ls : Array Slot} (h : sp_X6_watchCauses_183 (ck_nc G) (ck_nb G) post σ s0) (hw : ck_H G s H locs σ) (hl : lv_has ls 1 []) : W p l e ({ frames := 3, cells := 0, slots := 0, locals := 64 } : Room) s m args below meth c H locs 0 0 (MQ below (va_Qv post (ck_Q G) (ck_A G s.heap.size)) args s 0 0 (ck_A G s.heap.size)) (F0 m 183 ls [.int s0, .ref (ck_ad G 3 0)]) := by
  obtain ⟨hx, hb, hr, hml, hown, hts, hlocks⟩ := id X
  have inX0 : ∀ w ∈ wsX00, w ∈ wsX6_watchCauses := fun _ h => List.mem_cons_of_mem _ (List.mem_append_left _ (List.mem_append_right _ (h)))
  have inX5 : ∀ w ∈ wsX50, w ∈ wsX6_watchCauses := fun _ h => List.mem_cons_of_mem _ (List.mem_append_right _ (h))
  have inX6 : ∀ w ∈ wsX60, w ∈ wsX6_watchCauses := fun _ h => List.mem_cons_of_mem _ (List.mem_append_left _ (List.mem_append_left _ (List.mem_append_right _ (h))))
  unfold sp_X6_watchCauses_183 at h
  refine lv_iconst (v := 1) hx hb dX6_watchCauses_183 (by decide) ?_
  refine lv_goto (tgt := 188) hx hb dX6_watchCauses_184 (by decide) ?_
  refine ck_callVv (rest := []) ⟨hx, hb, hml, hown, hts⟩ hw (hC.1 3 (by decide)) rfl rfl (ct_X0_watch l G hC h) (cwV 2 hts gX6_watchCauses_X0_watch rfl rfl rfl (by decide +kernel) ⟨(Nat.le_of_ble_eq_true rfl), (Nat.le_of_ble_eq_true rfl)⟩) rfl hl.1 rfl (Nat.le_of_ble_eq_true rfl) dX6_watchCauses_188 ⟨(Nat.le_of_ble_eq_true rfl), (Nat.le_of_ble_eq_true rfl)⟩ (fun σ1 H locs h hw => ?_)
  exact ck_vret X hw h dX6_watchCauses_191
set_option maxHeartbeats 4000000 in
set_option maxRecDepth 100000 in
theorem wk_X6_watchCauses_141 {p : Program} {l : Launch} {e : Env} {s : State} {m : MethodId} {args : Array Value} {below : List Frame} {meth : Method} {c : Code} {G : ck_G} (X : ck_X p s m meth c args cX6_watchCauses 1 none RX6 wsX6_watchCauses) (hC : ck_inC G) {post : ck_S → Prop} {σ : ck_S} {s0 : Int32} {s1 : Int32} {H : Heap} {locs : List Loc} {ls : Array Slot} (h : sp_X6_watchCauses_141 (ck_nc G) (ck_nb G) post σ s0 s1) (hw : ck_H G s H locs σ) (hl : lv_has ls 1 [(0, .ref (ck_ad G 0 0))]) : W p l e ({ frames := 3, cells := 0, slots := 0, locals := 64 } : Room) s m args below meth c H locs 0 0 (MQ below (va_Qv post (ck_Q G) (ck_A G s.heap.size)) args s 0 0 (ck_A G s.heap.size)) (F0 m 141 ls [.int s0, .int s1, .ref (ck_ad G 3 0)]) := by
  obtain ⟨hx, hb, hr, hml, hown, hts, hlocks⟩ := id X
  have inX0 : ∀ w ∈ wsX00, w ∈ wsX6_watchCauses := fun _ h => List.mem_cons_of_mem _ (List.mem_append_left _ (List.mem_append_right _ (h)))
  have inX5 : ∀ w ∈ wsX50, w ∈ wsX6_watchCauses := fun _ h => List.mem_cons_of_mem _ (List.mem_append_right _ (h))
  have inX6 : ∀ w ∈ wsX60, w ∈ wsX6_watchCauses := fun _ h => List.mem_cons_of_mem _ (List.mem_append_left _ (List.mem_append_left _ (List.mem_append_right _ (h))))
  unfold sp_X6_watchCauses_141 at h
  refine ck_callVv (rest := []) ⟨hx, hb, hml, hown, hts⟩ hw (hC.1 3 (by decide)) rfl rfl (ct_X0_watch l G hC h) (cwV 2 hts gX6_watchCauses_X0_watch rfl rfl rfl (by decide +kernel) ⟨(Nat.le_of_ble_eq_true rfl), (Nat.le_of_ble_eq_true rfl)⟩) rfl hl.1 rfl (Nat.le_of_ble_eq_true rfl) dX6_watchCauses_141 ⟨(Nat.le_of_ble_eq_true rfl), (Nat.le_of_ble_eq_true rfl)⟩ (fun σ1 H locs h hw => ?_)
  refine lv_aload_n hx hb dX6_watchCauses_144 rfl (lv_at hl 0 rfl) ?_
  refine ck_get hx hb hts inX6 hown hw (hC.1 0 (by decide)) rfl rfl 4 (by decide) (hts _ (List.mem_of_getElem? (i := 1) rfl)) rfl dX6_watchCauses_145 ?_
  refine lv_bipush (v := 6) hx hb dX6_watchCauses_148 (by decide) ?_
  refine lv_aload_n hx hb dX6_watchCauses_150 rfl (lv_at hl 0 rfl) ?_
  refine ck_get hx hb hts inX6 hown hw (hC.1 0 (by decide)) rfl rfl 12 (by decide) (hts _ (List.mem_of_getElem? (i := 12) rfl)) rfl dX6_watchCauses_151 ?_
  refine lv_aload_n hx hb dX6_watchCauses_154 rfl (lv_at hl 0 rfl) ?_
  refine ck_get hx hb hts inX6 hown hw (hC.1 0 (by decide)) rfl rfl 15 (by decide) (hts _ (List.mem_of_getElem? (i := 13) rfl)) rfl dX6_watchCauses_155 ?_
  refine lv_ldc2d hx hb hown (hts _ (List.mem_of_getElem? (i := 14) rfl)) dX6_watchCauses_158 ?_
  obtain ⟨n3, h⟩ := h
  refine lv_dadd hx hb dX6_watchCauses_161 n3 ?_
  refine lv_dcmp hx hb dX6_watchCauses_162 ?_
  obtain ⟨hA, hB⟩ := h
  refine lv_if_gt (tgt := 183) hx hb dX6_watchCauses_163 (by decide) (fun c4 => ?_) (fun c4 => ?_)
  · have h := hA c4
    exact wk_X6_watchCauses_183 X hC h hw (lv_sub hl [] rfl)
  · have h := hB c4
    refine lv_aload_n hx hb dX6_watchCauses_166 rfl (lv_at hl 0 rfl) ?_
    refine ck_get hx hb hts inX6 hown hw (hC.1 0 (by decide)) rfl rfl 12 (by decide) (hts _ (List.mem_of_getElem? (i := 12) rfl)) rfl dX6_watchCauses_167 ?_
    refine lv_dneg hx hb dX6_watchCauses_170 ?_
    refine lv_aload_n hx hb dX6_watchCauses_171 rfl (lv_at hl 0 rfl) ?_
    refine ck_get hx hb hts inX6 hown hw (hC.1 0 (by decide)) rfl rfl 16 (by decide) (hts _ (List.mem_of_getElem? (i := 15) rfl)) rfl dX6_watchCauses_172 ?_
    refine lv_ldc2d hx hb hown (hts _ (List.mem_of_getElem? (i := 14) rfl)) dX6_watchCauses_175 ?_
    obtain ⟨n5, h⟩ := h
    refine lv_dadd hx hb dX6_watchCauses_178 n5 ?_
    refine lv_dcmp hx hb dX6_watchCauses_179 ?_
    obtain ⟨hA, hB⟩ := h
    refine lv_if_le (tgt := 187) hx hb dX6_watchCauses_180 (by decide) (fun c6 => ?_) (fun c6 => ?_)
    · have h := hA c6
      refine lv_iconst (v := 0) hx hb dX6_watchCauses_187 (by decide) ?_
      refine ck_callVv (rest := []) ⟨hx, hb, hml, hown, hts⟩ hw (hC.1 3 (by decide)) rfl rfl (ct_X0_watch l G hC h) (cwV 2 hts gX6_watchCauses_X0_watch rfl rfl rfl (by decide +kernel) ⟨(Nat.le_of_ble_eq_true rfl), (Nat.le_of_ble_eq_true rfl)⟩) rfl hl.1 rfl (Nat.le_of_ble_eq_true rfl) dX6_watchCauses_188 ⟨(Nat.le_of_ble_eq_true rfl), (Nat.le_of_ble_eq_true rfl)⟩ (fun σ7 H locs h hw => ?_)
      exact ck_vret X hw h dX6_watchCauses_191
    · have h := hB c6
      exact wk_X6_watchCauses_183 X hC h hw (lv_sub hl [] rfl)
set_option maxHeartbeats 4000000 in
set_option maxRecDepth 100000 in
theorem wk_X6_watchCauses_114 {p : Program} {l : Launch} {e : Env} {s : State} {m : MethodId} {args : Array Value} {below : List Frame} {meth : Method} {c : Code} {G : ck_G} (X : ck_X p s m meth c args cX6_watchCauses 1 none RX6 wsX6_watchCauses) (hC : ck_inC G) {post : ck_S → Prop} {σ : ck_S} {s0 : Int32} {s1 : Int32} {H : Heap} {locs : List Loc} {ls : Array Slot} (h : sp_X6_watchCauses_114 (ck_nc G) (ck_nb G) post σ s0 s1) (hw : ck_H G s H locs σ) (hl : lv_has ls 1 [(0, .ref (ck_ad G 0 0))]) : W p l e ({ frames := 3, cells := 0, slots := 0, locals := 64 } : Room) s m args below meth c H locs 0 0 (MQ below (va_Qv post (ck_Q G) (ck_A G s.heap.size)) args s 0 0 (ck_A G s.heap.size)) (F0 m 114 ls [.int s0, .int s1, .ref (ck_ad G 3 0)]) := by
  obtain ⟨hx, hb, hr, hml, hown, hts, hlocks⟩ := id X
  have inX0 : ∀ w ∈ wsX00, w ∈ wsX6_watchCauses := fun _ h => List.mem_cons_of_mem _ (List.mem_append_left _ (List.mem_append_right _ (h)))
  have inX5 : ∀ w ∈ wsX50, w ∈ wsX6_watchCauses := fun _ h => List.mem_cons_of_mem _ (List.mem_append_right _ (h))
  have inX6 : ∀ w ∈ wsX60, w ∈ wsX6_watchCauses := fun _ h => List.mem_cons_of_mem _ (List.mem_append_left _ (List.mem_append_left _ (List.mem_append_right _ (h))))
  unfold sp_X6_watchCauses_114 at h
  refine ck_callVv (rest := []) ⟨hx, hb, hml, hown, hts⟩ hw (hC.1 3 (by decide)) rfl rfl (ct_X0_watch l G hC h) (cwV 2 hts gX6_watchCauses_X0_watch rfl rfl rfl (by decide +kernel) ⟨(Nat.le_of_ble_eq_true rfl), (Nat.le_of_ble_eq_true rfl)⟩) rfl hl.1 rfl (Nat.le_of_ble_eq_true rfl) dX6_watchCauses_114 ⟨(Nat.le_of_ble_eq_true rfl), (Nat.le_of_ble_eq_true rfl)⟩ (fun σ1 H locs h hw => ?_)
  refine lv_aload_n hx hb dX6_watchCauses_117 rfl (lv_at hl 0 rfl) ?_
  refine ck_get hx hb hts inX6 hown hw (hC.1 0 (by decide)) rfl rfl 4 (by decide) (hts _ (List.mem_of_getElem? (i := 1) rfl)) rfl dX6_watchCauses_118 ?_
  refine lv_iconst (v := 5) hx hb dX6_watchCauses_121 (by decide) ?_
  refine lv_aload_n hx hb dX6_watchCauses_122 rfl (lv_at hl 0 rfl) ?_
  refine ck_get hx hb hts inX6 hown hw (hC.1 0 (by decide)) rfl rfl 3 (by decide) (hts _ (List.mem_of_getElem? (i := 3) rfl)) rfl dX6_watchCauses_123 ?_
  refine ck_get hx hb hts inX5 hown hw (hC.1 2 (by decide)) rfl rfl 6 (by decide) (hts _ (List.mem_of_getElem? (i := 10) rfl)) rfl dX6_watchCauses_126 ?_
  refine lv_ldc2d hx hb hown (hts _ (List.mem_of_getElem? (i := 11) rfl)) dX6_watchCauses_129 ?_
  refine lv_dcmp hx hb dX6_watchCauses_132 ?_
  obtain ⟨hA, hB⟩ := h
  refine lv_if_ge (tgt := 140) hx hb dX6_watchCauses_133 (by decide) (fun c3 => ?_) (fun c3 => ?_)
  · have h := hA c3
    refine lv_iconst (v := 0) hx hb dX6_watchCauses_140 (by decide) ?_
    exact wk_X6_watchCauses_141 X hC h hw (lv_sub hl [0] rfl)
  · have h := hB c3
    refine lv_iconst (v := 1) hx hb dX6_watchCauses_136 (by decide) ?_
    refine lv_goto (tgt := 141) hx hb dX6_watchCauses_137 (by decide) ?_
    exact wk_X6_watchCauses_141 X hC h hw (lv_sub hl [0] rfl)
set_option maxHeartbeats 4000000 in
set_option maxRecDepth 100000 in
theorem wk_X6_watchCauses_87 {p : Program} {l : Launch} {e : Env} {s : State} {m : MethodId} {args : Array Value} {below : List Frame} {meth : Method} {c : Code} {G : ck_G} (X : ck_X p s m meth c args cX6_watchCauses 1 none RX6 wsX6_watchCauses) (hC : ck_inC G) {post : ck_S → Prop} {σ : ck_S} {s0 : Int32} {s1 : Int32} {H : Heap} {locs : List Loc} {ls : Array Slot} (h : sp_X6_watchCauses_87 (ck_nc G) (ck_nb G) post σ s0 s1) (hw : ck_H G s H locs σ) (hl : lv_has ls 1 [(0, .ref (ck_ad G 0 0))]) : W p l e ({ frames := 3, cells := 0, slots := 0, locals := 64 } : Room) s m args below meth c H locs 0 0 (MQ below (va_Qv post (ck_Q G) (ck_A G s.heap.size)) args s 0 0 (ck_A G s.heap.size)) (F0 m 87 ls [.int s0, .int s1, .ref (ck_ad G 3 0)]) := by
  obtain ⟨hx, hb, hr, hml, hown, hts, hlocks⟩ := id X
  have inX0 : ∀ w ∈ wsX00, w ∈ wsX6_watchCauses := fun _ h => List.mem_cons_of_mem _ (List.mem_append_left _ (List.mem_append_right _ (h)))
  have inX5 : ∀ w ∈ wsX50, w ∈ wsX6_watchCauses := fun _ h => List.mem_cons_of_mem _ (List.mem_append_right _ (h))
  have inX6 : ∀ w ∈ wsX60, w ∈ wsX6_watchCauses := fun _ h => List.mem_cons_of_mem _ (List.mem_append_left _ (List.mem_append_left _ (List.mem_append_right _ (h))))
  unfold sp_X6_watchCauses_87 at h
  refine ck_callVv (rest := []) ⟨hx, hb, hml, hown, hts⟩ hw (hC.1 3 (by decide)) rfl rfl (ct_X0_watch l G hC h) (cwV 2 hts gX6_watchCauses_X0_watch rfl rfl rfl (by decide +kernel) ⟨(Nat.le_of_ble_eq_true rfl), (Nat.le_of_ble_eq_true rfl)⟩) rfl hl.1 rfl (Nat.le_of_ble_eq_true rfl) dX6_watchCauses_87 ⟨(Nat.le_of_ble_eq_true rfl), (Nat.le_of_ble_eq_true rfl)⟩ (fun σ1 H locs h hw => ?_)
  refine lv_aload_n hx hb dX6_watchCauses_90 rfl (lv_at hl 0 rfl) ?_
  refine ck_get hx hb hts inX6 hown hw (hC.1 0 (by decide)) rfl rfl 4 (by decide) (hts _ (List.mem_of_getElem? (i := 1) rfl)) rfl dX6_watchCauses_91 ?_
  refine lv_iconst (v := 4) hx hb dX6_watchCauses_94 (by decide) ?_
  refine lv_aload_n hx hb dX6_watchCauses_95 rfl (lv_at hl 0 rfl) ?_
  refine ck_get hx hb hts inX6 hown hw (hC.1 0 (by decide)) rfl rfl 3 (by decide) (hts _ (List.mem_of_getElem? (i := 3) rfl)) rfl dX6_watchCauses_96 ?_
  refine ck_get hx hb hts inX5 hown hw (hC.1 2 (by decide)) rfl rfl 5 (by decide) (hts _ (List.mem_of_getElem? (i := 8) rfl)) rfl dX6_watchCauses_99 ?_
  refine lv_ldc2d hx hb hown (hts _ (List.mem_of_getElem? (i := 9) rfl)) dX6_watchCauses_102 ?_
  refine lv_dcmp hx hb dX6_watchCauses_105 ?_
  obtain ⟨hA, hB⟩ := h
  refine lv_if_le (tgt := 113) hx hb dX6_watchCauses_106 (by decide) (fun c3 => ?_) (fun c3 => ?_)
  · have h := hA c3
    refine lv_iconst (v := 0) hx hb dX6_watchCauses_113 (by decide) ?_
    exact wk_X6_watchCauses_114 X hC h hw (lv_sub hl [0] rfl)
  · have h := hB c3
    refine lv_iconst (v := 1) hx hb dX6_watchCauses_109 (by decide) ?_
    refine lv_goto (tgt := 114) hx hb dX6_watchCauses_110 (by decide) ?_
    exact wk_X6_watchCauses_114 X hC h hw (lv_sub hl [0] rfl)
set_option maxHeartbeats 4000000 in
set_option maxRecDepth 100000 in
theorem wk_X6_watchCauses_61 {p : Program} {l : Launch} {e : Env} {s : State} {m : MethodId} {args : Array Value} {below : List Frame} {meth : Method} {c : Code} {G : ck_G} (X : ck_X p s m meth c args cX6_watchCauses 1 none RX6 wsX6_watchCauses) (hC : ck_inC G) {post : ck_S → Prop} {σ : ck_S} {s0 : Int32} {s1 : Int32} {H : Heap} {locs : List Loc} {ls : Array Slot} (h : sp_X6_watchCauses_61 (ck_nc G) (ck_nb G) post σ s0 s1) (hw : ck_H G s H locs σ) (hl : lv_has ls 1 [(0, .ref (ck_ad G 0 0))]) : W p l e ({ frames := 3, cells := 0, slots := 0, locals := 64 } : Room) s m args below meth c H locs 0 0 (MQ below (va_Qv post (ck_Q G) (ck_A G s.heap.size)) args s 0 0 (ck_A G s.heap.size)) (F0 m 61 ls [.int s0, .int s1, .ref (ck_ad G 3 0)]) := by
  obtain ⟨hx, hb, hr, hml, hown, hts, hlocks⟩ := id X
  have inX0 : ∀ w ∈ wsX00, w ∈ wsX6_watchCauses := fun _ h => List.mem_cons_of_mem _ (List.mem_append_left _ (List.mem_append_right _ (h)))
  have inX5 : ∀ w ∈ wsX50, w ∈ wsX6_watchCauses := fun _ h => List.mem_cons_of_mem _ (List.mem_append_right _ (h))
  have inX6 : ∀ w ∈ wsX60, w ∈ wsX6_watchCauses := fun _ h => List.mem_cons_of_mem _ (List.mem_append_left _ (List.mem_append_left _ (List.mem_append_right _ (h))))
  unfold sp_X6_watchCauses_61 at h
  refine ck_callVv (rest := []) ⟨hx, hb, hml, hown, hts⟩ hw (hC.1 3 (by decide)) rfl rfl (ct_X0_watch l G hC h) (cwV 2 hts gX6_watchCauses_X0_watch rfl rfl rfl (by decide +kernel) ⟨(Nat.le_of_ble_eq_true rfl), (Nat.le_of_ble_eq_true rfl)⟩) rfl hl.1 rfl (Nat.le_of_ble_eq_true rfl) dX6_watchCauses_61 ⟨(Nat.le_of_ble_eq_true rfl), (Nat.le_of_ble_eq_true rfl)⟩ (fun σ1 H locs h hw => ?_)
  refine lv_aload_n hx hb dX6_watchCauses_64 rfl (lv_at hl 0 rfl) ?_
  refine ck_get hx hb hts inX6 hown hw (hC.1 0 (by decide)) rfl rfl 4 (by decide) (hts _ (List.mem_of_getElem? (i := 1) rfl)) rfl dX6_watchCauses_65 ?_
  refine lv_iconst (v := 3) hx hb dX6_watchCauses_68 (by decide) ?_
  refine lv_aload_n hx hb dX6_watchCauses_69 rfl (lv_at hl 0 rfl) ?_
  refine ck_get hx hb hts inX6 hown hw (hC.1 0 (by decide)) rfl rfl 3 (by decide) (hts _ (List.mem_of_getElem? (i := 3) rfl)) rfl dX6_watchCauses_70 ?_
  refine ck_get hx hb hts inX5 hown hw (hC.1 2 (by decide)) rfl rfl 3 (by decide) (hts _ (List.mem_of_getElem? (i := 7) rfl)) rfl dX6_watchCauses_73 ?_
  refine lv_sipush (v := 2500) hx hb dX6_watchCauses_76 (by decide) ?_
  obtain ⟨hA, hB⟩ := h
  refine lv_icmp_ge (tgt := 86) hx hb dX6_watchCauses_79 (by decide) (fun c3 => ?_) (fun c3 => ?_)
  · have h := hA c3
    refine lv_iconst (v := 0) hx hb dX6_watchCauses_86 (by decide) ?_
    exact wk_X6_watchCauses_87 X hC h hw (lv_sub hl [0] rfl)
  · have h := hB c3
    refine lv_iconst (v := 1) hx hb dX6_watchCauses_82 (by decide) ?_
    refine lv_goto (tgt := 87) hx hb dX6_watchCauses_83 (by decide) ?_
    exact wk_X6_watchCauses_87 X hC h hw (lv_sub hl [0] rfl)
set_option maxHeartbeats 4000000 in
set_option maxRecDepth 100000 in
theorem wk_X6_watchCauses_0 {p : Program} {l : Launch} {e : Env} {s : State} {m : MethodId} {args : Array Value} {below : List Frame} {meth : Method} {c : Code} {G : ck_G} (X : ck_X p s m meth c args cX6_watchCauses 1 none RX6 wsX6_watchCauses) (hC : ck_inC G) {post : ck_S → Prop} {σ : ck_S} {H : Heap} {locs : List Loc} {ls : Array Slot} (h : sp_X6_watchCauses (ck_nc G) (ck_nb G) σ post) (hw : ck_H G s H locs σ) (hl : lv_has ls 1 [(0, .ref (ck_ad G 0 0))]) : W p l e ({ frames := 3, cells := 0, slots := 0, locals := 64 } : Room) s m args below meth c H locs 0 0 (MQ below (va_Qv post (ck_Q G) (ck_A G s.heap.size)) args s 0 0 (ck_A G s.heap.size)) (F0 m 0 ls []) := by
  obtain ⟨hx, hb, hr, hml, hown, hts, hlocks⟩ := id X
  have inX0 : ∀ w ∈ wsX00, w ∈ wsX6_watchCauses := fun _ h => List.mem_cons_of_mem _ (List.mem_append_left _ (List.mem_append_right _ (h)))
  have inX5 : ∀ w ∈ wsX50, w ∈ wsX6_watchCauses := fun _ h => List.mem_cons_of_mem _ (List.mem_append_right _ (h))
  have inX6 : ∀ w ∈ wsX60, w ∈ wsX6_watchCauses := fun _ h => List.mem_cons_of_mem _ (List.mem_append_left _ (List.mem_append_left _ (List.mem_append_right _ (h))))
  unfold sp_X6_watchCauses at h
  refine lv_aload_n hx hb dX6_watchCauses_0 rfl (lv_at hl 0 rfl) ?_
  refine ck_get hx hb hts inX6 hown hw (hC.1 0 (by decide)) rfl rfl 4 (by decide) (hts _ (List.mem_of_getElem? (i := 1) rfl)) rfl dX6_watchCauses_1 ?_
  refine lv_iconst (v := 0) hx hb dX6_watchCauses_4 (by decide) ?_
  refine ck_puti hx hb hts inX0 tyX0 tyX0_ok nmX0 hown hw (hC.1 3 (by decide)) rfl rfl 3 (by decide) (hts _ (List.mem_of_getElem? (i := 2) rfl)) rfl rfl rfl (Nat.le_of_ble_eq_true rfl) rfl dX6_watchCauses_5 (fun H locs hw => ?_)
  obtain ⟨σ1, eσ1⟩ : ∃ z : ck_S, z = ck_ui σ 3 0 3 0 := ⟨_, rfl⟩
  rw [← eσ1] at hw
  have h := h σ1 eσ1
  refine lv_aload_n hx hb dX6_watchCauses_8 rfl (lv_at hl 0 rfl) ?_
  refine ck_get hx hb hts inX6 hown hw (hC.1 0 (by decide)) rfl rfl 4 (by decide) (hts _ (List.mem_of_getElem? (i := 1) rfl)) rfl dX6_watchCauses_9 ?_
  refine lv_iconst (v := 0) hx hb dX6_watchCauses_12 (by decide) ?_
  refine lv_aload_n hx hb dX6_watchCauses_13 rfl (lv_at hl 0 rfl) ?_
  refine ck_get hx hb hts inX6 hown hw (hC.1 0 (by decide)) rfl rfl 3 (by decide) (hts _ (List.mem_of_getElem? (i := 3) rfl)) rfl dX6_watchCauses_14 ?_
  refine ck_get hx hb hts inX5 hown hw (hC.1 2 (by decide)) rfl rfl 0 (by decide) (hts _ (List.mem_of_getElem? (i := 4) rfl)) rfl dX6_watchCauses_17 ?_
  refine ck_callVv (rest := []) ⟨hx, hb, hml, hown, hts⟩ hw (hC.1 3 (by decide)) rfl rfl (ct_X0_watch l G hC h) (cwV 2 hts gX6_watchCauses_X0_watch rfl rfl rfl (by decide +kernel) ⟨(Nat.le_of_ble_eq_true rfl), (Nat.le_of_ble_eq_true rfl)⟩) rfl hl.1 rfl (Nat.le_of_ble_eq_true rfl) dX6_watchCauses_20 ⟨(Nat.le_of_ble_eq_true rfl), (Nat.le_of_ble_eq_true rfl)⟩ (fun σ2 H locs h hw => ?_)
  refine lv_aload_n hx hb dX6_watchCauses_23 rfl (lv_at hl 0 rfl) ?_
  refine ck_get hx hb hts inX6 hown hw (hC.1 0 (by decide)) rfl rfl 4 (by decide) (hts _ (List.mem_of_getElem? (i := 1) rfl)) rfl dX6_watchCauses_24 ?_
  refine lv_iconst (v := 1) hx hb dX6_watchCauses_27 (by decide) ?_
  refine lv_aload_n hx hb dX6_watchCauses_28 rfl (lv_at hl 0 rfl) ?_
  refine ck_get hx hb hts inX6 hown hw (hC.1 0 (by decide)) rfl rfl 3 (by decide) (hts _ (List.mem_of_getElem? (i := 3) rfl)) rfl dX6_watchCauses_29 ?_
  refine ck_get hx hb hts inX5 hown hw (hC.1 2 (by decide)) rfl rfl 1 (by decide) (hts _ (List.mem_of_getElem? (i := 5) rfl)) rfl dX6_watchCauses_32 ?_
  refine ck_callVv (rest := []) ⟨hx, hb, hml, hown, hts⟩ hw (hC.1 3 (by decide)) rfl rfl (ct_X0_watch l G hC h) (cwV 2 hts gX6_watchCauses_X0_watch rfl rfl rfl (by decide +kernel) ⟨(Nat.le_of_ble_eq_true rfl), (Nat.le_of_ble_eq_true rfl)⟩) rfl hl.1 rfl (Nat.le_of_ble_eq_true rfl) dX6_watchCauses_35 ⟨(Nat.le_of_ble_eq_true rfl), (Nat.le_of_ble_eq_true rfl)⟩ (fun σ4 H locs h hw => ?_)
  refine lv_aload_n hx hb dX6_watchCauses_38 rfl (lv_at hl 0 rfl) ?_
  refine ck_get hx hb hts inX6 hown hw (hC.1 0 (by decide)) rfl rfl 4 (by decide) (hts _ (List.mem_of_getElem? (i := 1) rfl)) rfl dX6_watchCauses_39 ?_
  refine lv_iconst (v := 2) hx hb dX6_watchCauses_42 (by decide) ?_
  refine lv_aload_n hx hb dX6_watchCauses_43 rfl (lv_at hl 0 rfl) ?_
  refine ck_get hx hb hts inX6 hown hw (hC.1 0 (by decide)) rfl rfl 3 (by decide) (hts _ (List.mem_of_getElem? (i := 3) rfl)) rfl dX6_watchCauses_44 ?_
  refine ck_get hx hb hts inX5 hown hw (hC.1 2 (by decide)) rfl rfl 4 (by decide) (hts _ (List.mem_of_getElem? (i := 6) rfl)) rfl dX6_watchCauses_47 ?_
  refine lv_sipush (v := 4200) hx hb dX6_watchCauses_50 (by decide) ?_
  obtain ⟨hA, hB⟩ := h
  refine lv_icmp_le (tgt := 60) hx hb dX6_watchCauses_53 (by decide) (fun c6 => ?_) (fun c6 => ?_)
  · have h := hA c6
    refine lv_iconst (v := 0) hx hb dX6_watchCauses_60 (by decide) ?_
    exact wk_X6_watchCauses_61 X hC h hw (lv_sub hl [0] rfl)
  · have h := hB c6
    refine lv_iconst (v := 1) hx hb dX6_watchCauses_56 (by decide) ?_
    refine lv_goto (tgt := 61) hx hb dX6_watchCauses_57 (by decide) ?_
    exact wk_X6_watchCauses_61 X hC h hw (lv_sub hl [0] rfl)
set_option maxHeartbeats 4000000 in
set_option maxRecDepth 100000 in
theorem ct_X6_watchCauses (l : Launch) (G : ck_G) (hC : ck_inC G) {σ : ck_S} {post : ck_S → Prop} (h : sp_X6_watchCauses (ck_nc G) (ck_nb G) σ post) : ck_Mv l yX6_watchCauses wsX6_watchCauses ({ frames := 3, cells := 0, slots := 0, locals := 64 } : Room) G σ [.ref (ck_ad G 0 0)] post := by
  intro sz
  refine Met.ofW (cc := cX6_watchCauses) (maxL := 1) (ret := none) (by decide) rfl ?_
  intro p e s m args below meth c s₁ B hml hv
  obtain ⟨rfl, rfl, hw⟩ := ck_enter hv
  have hl := lv_entry ([.ref (ck_ad G 0 0)]) (n := 1) (Nat.le_of_ble_eq_true rfl)
  rw [lg_entry_eq]
  generalize (lg_sl ([.ref (ck_ad G 0 0)]) ++ List.replicate (1 - (lg_sl ([.ref (ck_ad G 0 0)])).length) Slot.unset).toArray = ls at hl ⊢
  have hl : lv_has ls 1 [(0, .ref (ck_ad G 0 0))] := hl
  exact wk_X6_watchCauses_0 ⟨B.exec, B.bytes, B.returns, hml, findClass_of_methodNamed B.named, atoms_spec (ws := wsX6_watchCauses) B.pre, B.notSynchronized⟩ hC h hw hl
def sp_X6_letBleed_109 (nc nb : Nat) (post : ck_S → Prop) (K70 : ck_S → Int32 → Int32 → Int32 → Prop) (σ : ck_S) (x2 : Int32) (x4 : Int32) (x5 : Int32) (s0 : Int32) (js1 : Nat) : Prop := ∀ σ1, σ1 = ck_ui σ 30 js1 7 s0 → ∀ x_2, x_2 = x5 + 1 → K70 σ1 x2 x4 x_2
def bd_X6_letBleed_70 (nc nb : Nat) (post : ck_S → Prop) (K70 : ck_S → Int32 → Int32 → Int32 → Prop) (σ : ck_S) (x2 : Int32) (x4 : Int32) (x5 : Int32) : Prop := ((x4 ≤ x5 → (post σ)) ∧ (¬ x4 ≤ x5 → ((vp_in x5 nc) ∧ ∀ j3, j3 = Int32.toNatClampNeg x5 → ((x2 = 0 → (sp_X6_letBleed_109 nc nb post K70 σ x2 x4 x5 0 j3)) ∧ (¬ x2 = 0 → (sp_X3_cellsToBleed nc nb σ j3 (ck_gi σ 2 0 3) (ck_gi σ 0 0 8) (fun x_6 σ5 => sp_X6_letBleed_109 nc nb post K70 σ5 x2 x4 x5 x_6 j3)))))))
def sp_X6_letBleed_57 (nc nb : Nat) (post : ck_S → Prop) (σ : ck_S) (s0 : Int32) : Prop := ∀ x_1, x_1 = (nI nc) → lx_4 (bd_X6_letBleed_70 nc nb post) σ s0 x_1 0
def sp_X6_letBleed_56 (nc nb : Nat) (post : ck_S → Prop) (σ : ck_S) : Prop := sp_X6_letBleed_57 nc nb post σ 0
def sp_X6_letBleed_26 (nc nb : Nat) (post : ck_S → Prop) (σ : ck_S) (s0 : Int32) : Prop := ((s0 = 0 → (sp_X6_letBleed_56 nc nb post σ)) ∧ (¬ s0 = 0 → (sp_X0_anySerious nc nb σ (fun x_3 σ2 => ((¬ x_3 = 0 → (sp_X6_letBleed_56 nc nb post σ2)) ∧ (x_3 = 0 → (sp_X6_currentSize nc nb σ2 (fun z_6 σ5 => ((0 ≤ (Op.cmpValue (FP.dcmp z_6 4611686018427387904) .g) → (sp_X6_letBleed_56 nc nb post σ5)) ∧ (¬ 0 ≤ (Op.cmpValue (FP.dcmp z_6 4611686018427387904) .g) → (sp_X6_letBleed_57 nc nb post σ5 1)))))))))))
def sp_X6_letBleed_21 (nc nb : Nat) (post : ck_S → Prop) (σ : ck_S) : Prop := sp_X6_letBleed_26 nc nb post σ 1
def sp_X6_letBleed (nc nb : Nat) (σ : ck_S) (post : ck_S → Prop) : Prop := (((ck_gi σ 5 0 0) = 0 → (sp_X6_letBleed_21 nc nb post σ)) ∧ (¬ (ck_gi σ 5 0 0) = 0 → (((¬ (ck_gi σ 5 0 0) = 3 → (sp_X6_letBleed_26 nc nb post σ 0)) ∧ ((ck_gi σ 5 0 0) = 3 → (sp_X6_letBleed_21 nc nb post σ))))))
set_option maxHeartbeats 4000000 in
set_option maxRecDepth 100000 in
theorem wk_X6_letBleed_109 {p : Program} {l : Launch} {e : Env} {s : State} {m : MethodId} {args : Array Value} {below : List Frame} {meth : Method} {c : Code} {G : ck_G} (X : ck_X p s m meth c args cX6_letBleed 7 none RX6 wsX6_letBleed) (hC : ck_inC G) {post : ck_S → Prop} {K70 : ck_S → Int32 → Int32 → Int32 → Prop} (hK70 : ∀ (σ : ck_S) (x2 : Int32) (x4 : Int32) (x5 : Int32) (H : Heap) (locs : List Loc) (ls : Array Slot), K70 σ x2 x4 x5 → ck_H G s H locs σ → lv_has ls 7 [(0, .ref (ck_ad G 0 0)), (2, .int x2), (3, .ref (ck_ad G 1 0)), (4, .int x4), (5, .int x5)] → W p l e ({ frames := 4, cells := 0, slots := 0, locals := 97 } : Room) s m args below meth c H locs 0 0 (MQ below (va_Qv post (ck_Q G) (ck_A G s.heap.size)) args s 0 0 (ck_A G s.heap.size)) (F0 m 70 ls [])) {σ : ck_S} {x2 : Int32} {x4 : Int32} {x5 : Int32} {s0 : Int32} {js1 : Nat} (hjs1 : js1 < ck_nc G) {H : Heap} {locs : List Loc} {ls : Array Slot} (h : sp_X6_letBleed_109 (ck_nc G) (ck_nb G) post K70 σ x2 x4 x5 s0 js1) (hw : ck_H G s H locs σ) (hl : lv_has ls 7 [(0, .ref (ck_ad G 0 0)), (2, .int x2), (3, .ref (ck_ad G 1 0)), (4, .int x4), (5, .int x5)]) : W p l e ({ frames := 4, cells := 0, slots := 0, locals := 97 } : Room) s m args below meth c H locs 0 0 (MQ below (va_Qv post (ck_Q G) (ck_A G s.heap.size)) args s 0 0 (ck_A G s.heap.size)) (F0 m 109 ls [.int s0, .ref (ck_ad G 30 js1)]) := by
  obtain ⟨hx, hb, hr, hml, hown, hts, hlocks⟩ := id X
  have inX3 : ∀ w ∈ wsX30, w ∈ wsX6_letBleed := fun _ h => List.mem_cons_of_mem _ (List.mem_append_left _ (List.mem_append_right _ (h)))
  have inX4 : ∀ w ∈ wsX40, w ∈ wsX6_letBleed := fun _ h => List.mem_cons_of_mem _ (List.mem_append_left _ (List.mem_append_left _ (List.mem_append_left _ (List.mem_append_right _ (h)))))
  have inX5 : ∀ w ∈ wsX50, w ∈ wsX6_letBleed := fun _ h => List.mem_cons_of_mem _ (List.mem_append_left _ (List.mem_append_left _ (List.mem_append_right _ (h))))
  have inX6 : ∀ w ∈ wsX60, w ∈ wsX6_letBleed := fun _ h => List.mem_cons_of_mem _ (List.mem_append_left _ (List.mem_append_left _ (List.mem_append_left _ (List.mem_append_left _ (List.mem_append_right _ (h))))))
  unfold sp_X6_letBleed_109 at h
  refine ck_puti hx hb hts inX3 tyX3 tyX3_ok nmX3 hown hw (hC.2 30 _ (by decide) (by decide) hjs1) rfl rfl 7 (by decide) (hts _ (List.mem_of_getElem? (i := 9) rfl)) rfl rfl rfl (Nat.le_of_ble_eq_true rfl) rfl dX6_letBleed_109 (fun H locs hw => ?_)
  obtain ⟨σ1, eσ1⟩ : ∃ z : ck_S, z = ck_ui σ 30 js1 7 s0 := ⟨_, rfl⟩
  rw [← eσ1] at hw
  have h := h σ1 eσ1
  obtain ⟨x_2, ex_2⟩ : ∃ z : Int32, z = x5 + 1 := ⟨_, rfl⟩
  have h := h x_2 ex_2
  refine lv_iinc (v := x_2) (lv' := [(5, .int x_2), (0, .ref (ck_ad G 0 0)), (2, .int x2), (3, .ref (ck_ad G 1 0)), (4, .int x4)]) hx hb dX6_letBleed_112 hl (k := 4) rfl (by rw [ex_2]; rfl) (by decide) rfl (fun ls hl => ?_)
  refine lv_goto (tgt := 70) hx hb dX6_letBleed_115 (by decide) ?_
  exact hK70 _ _ _ _ _ _ _ h hw (lv_sub hl [1, 2, 3, 4, 0] rfl)
set_option maxHeartbeats 4000000 in
set_option maxRecDepth 100000 in
theorem wk_X6_letBleed_70 {p : Program} {l : Launch} {e : Env} {s : State} {m : MethodId} {args : Array Value} {below : List Frame} {meth : Method} {c : Code} {G : ck_G} (X : ck_X p s m meth c args cX6_letBleed 7 none RX6 wsX6_letBleed) (hC : ck_inC G) {post : ck_S → Prop} : ∀ (fu : Nat) (σ : ck_S) (x2 : Int32) (x4 : Int32) (x5 : Int32) (H : Heap) (locs : List Loc) (ls : Array Slot), lk_4 (bd_X6_letBleed_70 (ck_nc G) (ck_nb G) post) fu σ x2 x4 x5 → ck_H G s H locs σ → lv_has ls 7 [(0, .ref (ck_ad G 0 0)), (2, .int x2), (3, .ref (ck_ad G 1 0)), (4, .int x4), (5, .int x5)] → W p l e ({ frames := 4, cells := 0, slots := 0, locals := 97 } : Room) s m args below meth c H locs 0 0 (MQ below (va_Qv post (ck_Q G) (ck_A G s.heap.size)) args s 0 0 (ck_A G s.heap.size)) (F0 m 70 ls []) := by
  obtain ⟨hx, hb, hr, hml, hown, hts, hlocks⟩ := id X
  have inX3 : ∀ w ∈ wsX30, w ∈ wsX6_letBleed := fun _ h => List.mem_cons_of_mem _ (List.mem_append_left _ (List.mem_append_right _ (h)))
  have inX4 : ∀ w ∈ wsX40, w ∈ wsX6_letBleed := fun _ h => List.mem_cons_of_mem _ (List.mem_append_left _ (List.mem_append_left _ (List.mem_append_left _ (List.mem_append_right _ (h)))))
  have inX5 : ∀ w ∈ wsX50, w ∈ wsX6_letBleed := fun _ h => List.mem_cons_of_mem _ (List.mem_append_left _ (List.mem_append_left _ (List.mem_append_right _ (h))))
  have inX6 : ∀ w ∈ wsX60, w ∈ wsX6_letBleed := fun _ h => List.mem_cons_of_mem _ (List.mem_append_left _ (List.mem_append_left _ (List.mem_append_left _ (List.mem_append_left _ (List.mem_append_right _ (h))))))
  intro fu
  induction fu with
  | zero => intro σ x2 x4 x5 H locs ls h hw hl; exact h.elim
  | succ fu hK70 =>
    intro σ x2 x4 x5 H locs ls h hw hl
    have h : bd_X6_letBleed_70 (ck_nc G) (ck_nb G) post (lk_4 (bd_X6_letBleed_70 (ck_nc G) (ck_nb G) post) fu) σ x2 x4 x5 := h
    unfold bd_X6_letBleed_70 at h
    refine lv_iload hx hb dX6_letBleed_70 (lv_at hl 4 rfl) ?_
    refine lv_iload hx hb dX6_letBleed_72 (lv_at hl 3 rfl) ?_
    obtain ⟨hA, hB⟩ := h
    refine lv_icmp_ge (tgt := 118) hx hb dX6_letBleed_74 (by decide) (fun c1 => ?_) (fun c1 => ?_)
    · have h := hA c1
      exact ck_vret X hw h dX6_letBleed_118
    · have h := hB c1
      refine lv_aload_n hx hb dX6_letBleed_77 rfl (lv_at hl 2 rfl) ?_
      refine lv_iload hx hb dX6_letBleed_78 (lv_at hl 4 rfl) ?_
      obtain ⟨n2, h⟩ := h
      refine ck_aald hx hb hw (hC.1 1 (by decide)) n2 dX6_letBleed_80 ?_
      obtain ⟨j3, ej3⟩ : ∃ z : Nat, z = Int32.toNatClampNeg x5 := ⟨_, rfl⟩
      have hj3 : j3 < ck_nc G := by rw [ej3]; exact ck_in n2
      rw [← ej3]
      have h := h j3 ej3
      refine lv_astore (lv' := [(6, .ref (ck_ad G 30 j3)), (0, .ref (ck_ad G 0 0)), (2, .int x2), (3, .ref (ck_ad G 1 0)), (4, .int x4), (5, .int x5)]) hx hb dX6_letBleed_81 hl (by decide) rfl (fun ls hl => ?_)
      refine lv_aload hx hb dX6_letBleed_83 (lv_at hl 0 rfl) ?_
      refine lv_iload_n hx hb dX6_letBleed_85 rfl (lv_at hl 2 rfl) ?_
      obtain ⟨hA, hB⟩ := h
      refine lv_if_eq (tgt := 108) hx hb dX6_letBleed_86 (by decide) (fun c4 => ?_) (fun c4 => ?_)
      · have h := hA c4
        refine lv_iconst (v := 0) hx hb dX6_letBleed_108 (by decide) ?_
        exact wk_X6_letBleed_109 X hC hK70 hj3 h hw (lv_sub hl [1, 2, 3, 4, 5] rfl)
      · have h := hB c4
        refine lv_aload hx hb dX6_letBleed_89 (lv_at hl 0 rfl) ?_
        refine lv_aload_n hx hb dX6_letBleed_91 rfl (lv_at hl 1 rfl) ?_
        refine ck_get hx hb hts inX6 hown hw (hC.1 0 (by decide)) rfl rfl 3 (by decide) (hts _ (List.mem_of_getElem? (i := 6) rfl)) rfl dX6_letBleed_92 ?_
        refine ck_get hx hb hts inX5 hown hw (hC.1 2 (by decide)) rfl rfl 3 (by decide) (hts _ (List.mem_of_getElem? (i := 7) rfl)) rfl dX6_letBleed_95 ?_
        refine lv_aload_n hx hb dX6_letBleed_98 rfl (lv_at hl 1 rfl) ?_
        refine ck_get hx hb hts inX6 hown hw (hC.1 0 (by decide)) rfl rfl 8 (by decide) (hts _ (List.mem_of_getElem? (i := 8) rfl)) rfl dX6_letBleed_99 ?_
        refine ck_callVi (rest := [.ref (ck_ad G 30 j3)]) ⟨hx, hb, hml, hown, hts⟩ hw (hC.2 30 _ (by decide) (by decide) hj3) rfl rfl (ct_X3_cellsToBleed l G hC hj3 h) (cwV 2 hts gX6_letBleed_X3_cellsToBleed rfl rfl rfl (by decide +kernel) ⟨(Nat.le_of_ble_eq_true rfl), (Nat.le_of_ble_eq_true rfl)⟩) rfl hl.1 rfl (Nat.le_of_ble_eq_true rfl) dX6_letBleed_102 ⟨(Nat.le_of_ble_eq_true rfl), (Nat.le_of_ble_eq_true rfl)⟩ (fun x_6 σ5 H locs h hw => ?_)
        refine lv_goto (tgt := 109) hx hb dX6_letBleed_105 (by decide) ?_
        exact wk_X6_letBleed_109 X hC hK70 hj3 h hw (lv_sub hl [1, 2, 3, 4, 5] rfl)
set_option maxHeartbeats 4000000 in
set_option maxRecDepth 100000 in
theorem wk_X6_letBleed_57 {p : Program} {l : Launch} {e : Env} {s : State} {m : MethodId} {args : Array Value} {below : List Frame} {meth : Method} {c : Code} {G : ck_G} (X : ck_X p s m meth c args cX6_letBleed 7 none RX6 wsX6_letBleed) (hC : ck_inC G) {post : ck_S → Prop} {σ : ck_S} {s0 : Int32} {H : Heap} {locs : List Loc} {ls : Array Slot} (h : sp_X6_letBleed_57 (ck_nc G) (ck_nb G) post σ s0) (hw : ck_H G s H locs σ) (hl : lv_has ls 7 [(0, .ref (ck_ad G 0 0))]) : W p l e ({ frames := 4, cells := 0, slots := 0, locals := 97 } : Room) s m args below meth c H locs 0 0 (MQ below (va_Qv post (ck_Q G) (ck_A G s.heap.size)) args s 0 0 (ck_A G s.heap.size)) (F0 m 57 ls [.int s0]) := by
  obtain ⟨hx, hb, hr, hml, hown, hts, hlocks⟩ := id X
  have inX3 : ∀ w ∈ wsX30, w ∈ wsX6_letBleed := fun _ h => List.mem_cons_of_mem _ (List.mem_append_left _ (List.mem_append_right _ (h)))
  have inX4 : ∀ w ∈ wsX40, w ∈ wsX6_letBleed := fun _ h => List.mem_cons_of_mem _ (List.mem_append_left _ (List.mem_append_left _ (List.mem_append_left _ (List.mem_append_right _ (h)))))
  have inX5 : ∀ w ∈ wsX50, w ∈ wsX6_letBleed := fun _ h => List.mem_cons_of_mem _ (List.mem_append_left _ (List.mem_append_left _ (List.mem_append_right _ (h))))
  have inX6 : ∀ w ∈ wsX60, w ∈ wsX6_letBleed := fun _ h => List.mem_cons_of_mem _ (List.mem_append_left _ (List.mem_append_left _ (List.mem_append_left _ (List.mem_append_left _ (List.mem_append_right _ (h))))))
  unfold sp_X6_letBleed_57 at h
  refine lv_istore_n (lv' := [(2, .int s0), (0, .ref (ck_ad G 0 0))]) hx hb dX6_letBleed_57 rfl hl (by decide) rfl (fun ls hl => ?_)
  refine lv_aload_n hx hb dX6_letBleed_58 rfl (lv_at hl 1 rfl) ?_
  refine ck_get hx hb hts inX6 hown hw (hC.1 0 (by decide)) rfl rfl 0 (by decide) (hts _ (List.mem_of_getElem? (i := 5) rfl)) rfl dX6_letBleed_59 ?_
  refine lv_astore_n (lv' := [(3, .ref (ck_ad G 1 0)), (2, .int s0), (0, .ref (ck_ad G 0 0))]) hx hb dX6_letBleed_62 rfl hl (by decide) rfl (fun ls hl => ?_)
  refine lv_aload_n hx hb dX6_letBleed_63 rfl (lv_at hl 0 rfl) ?_
  refine ck_alen hx hb hw (hC.1 1 (by decide)) rfl 4 rfl rfl dX6_letBleed_64 ?_
  refine lv_topi (fun x_1 ex_1 => ?_)
  have h := h x_1 ex_1
  refine lv_istore (lv' := [(4, .int x_1), (3, .ref (ck_ad G 1 0)), (2, .int s0), (0, .ref (ck_ad G 0 0))]) hx hb dX6_letBleed_65 hl (by decide) rfl (fun ls hl => ?_)
  refine lv_iconst (v := 0) hx hb dX6_letBleed_67 (by decide) ?_
  refine lv_istore (lv' := [(5, .int 0), (4, .int x_1), (3, .ref (ck_ad G 1 0)), (2, .int s0), (0, .ref (ck_ad G 0 0))]) hx hb dX6_letBleed_68 hl (by decide) rfl (fun ls hl => ?_)
  obtain ⟨fu, h⟩ := h
  exact wk_X6_letBleed_70 X hC fu _ _ _ _ _ _ _ h hw (lv_sub hl [4, 3, 2, 1, 0] rfl)
set_option maxHeartbeats 4000000 in
set_option maxRecDepth 100000 in
theorem wk_X6_letBleed_56 {p : Program} {l : Launch} {e : Env} {s : State} {m : MethodId} {args : Array Value} {below : List Frame} {meth : Method} {c : Code} {G : ck_G} (X : ck_X p s m meth c args cX6_letBleed 7 none RX6 wsX6_letBleed) (hC : ck_inC G) {post : ck_S → Prop} {σ : ck_S} {H : Heap} {locs : List Loc} {ls : Array Slot} (h : sp_X6_letBleed_56 (ck_nc G) (ck_nb G) post σ) (hw : ck_H G s H locs σ) (hl : lv_has ls 7 [(0, .ref (ck_ad G 0 0))]) : W p l e ({ frames := 4, cells := 0, slots := 0, locals := 97 } : Room) s m args below meth c H locs 0 0 (MQ below (va_Qv post (ck_Q G) (ck_A G s.heap.size)) args s 0 0 (ck_A G s.heap.size)) (F0 m 56 ls []) := by
  obtain ⟨hx, hb, hr, hml, hown, hts, hlocks⟩ := id X
  have inX3 : ∀ w ∈ wsX30, w ∈ wsX6_letBleed := fun _ h => List.mem_cons_of_mem _ (List.mem_append_left _ (List.mem_append_right _ (h)))
  have inX4 : ∀ w ∈ wsX40, w ∈ wsX6_letBleed := fun _ h => List.mem_cons_of_mem _ (List.mem_append_left _ (List.mem_append_left _ (List.mem_append_left _ (List.mem_append_right _ (h)))))
  have inX5 : ∀ w ∈ wsX50, w ∈ wsX6_letBleed := fun _ h => List.mem_cons_of_mem _ (List.mem_append_left _ (List.mem_append_left _ (List.mem_append_right _ (h))))
  have inX6 : ∀ w ∈ wsX60, w ∈ wsX6_letBleed := fun _ h => List.mem_cons_of_mem _ (List.mem_append_left _ (List.mem_append_left _ (List.mem_append_left _ (List.mem_append_left _ (List.mem_append_right _ (h))))))
  unfold sp_X6_letBleed_56 at h
  refine lv_iconst (v := 0) hx hb dX6_letBleed_56 (by decide) ?_
  exact wk_X6_letBleed_57 X hC h hw (lv_sub hl [0] rfl)
set_option maxHeartbeats 4000000 in
set_option maxRecDepth 100000 in
theorem wk_X6_letBleed_26 {p : Program} {l : Launch} {e : Env} {s : State} {m : MethodId} {args : Array Value} {below : List Frame} {meth : Method} {c : Code} {G : ck_G} (X : ck_X p s m meth c args cX6_letBleed 7 none RX6 wsX6_letBleed) (hC : ck_inC G) {post : ck_S → Prop} {σ : ck_S} {s0 : Int32} {H : Heap} {locs : List Loc} {ls : Array Slot} (h : sp_X6_letBleed_26 (ck_nc G) (ck_nb G) post σ s0) (hw : ck_H G s H locs σ) (hl : lv_has ls 7 [(0, .ref (ck_ad G 0 0))]) : W p l e ({ frames := 4, cells := 0, slots := 0, locals := 97 } : Room) s m args below meth c H locs 0 0 (MQ below (va_Qv post (ck_Q G) (ck_A G s.heap.size)) args s 0 0 (ck_A G s.heap.size)) (F0 m 26 ls [.int s0]) := by
  obtain ⟨hx, hb, hr, hml, hown, hts, hlocks⟩ := id X
  have inX3 : ∀ w ∈ wsX30, w ∈ wsX6_letBleed := fun _ h => List.mem_cons_of_mem _ (List.mem_append_left _ (List.mem_append_right _ (h)))
  have inX4 : ∀ w ∈ wsX40, w ∈ wsX6_letBleed := fun _ h => List.mem_cons_of_mem _ (List.mem_append_left _ (List.mem_append_left _ (List.mem_append_left _ (List.mem_append_right _ (h)))))
  have inX5 : ∀ w ∈ wsX50, w ∈ wsX6_letBleed := fun _ h => List.mem_cons_of_mem _ (List.mem_append_left _ (List.mem_append_left _ (List.mem_append_right _ (h))))
  have inX6 : ∀ w ∈ wsX60, w ∈ wsX6_letBleed := fun _ h => List.mem_cons_of_mem _ (List.mem_append_left _ (List.mem_append_left _ (List.mem_append_left _ (List.mem_append_left _ (List.mem_append_right _ (h))))))
  unfold sp_X6_letBleed_26 at h
  refine lv_istore_n (lv' := [(1, .int s0), (0, .ref (ck_ad G 0 0))]) hx hb dX6_letBleed_26 rfl hl (by decide) rfl (fun ls hl => ?_)
  refine lv_iload_n hx hb dX6_letBleed_27 rfl (lv_at hl 0 rfl) ?_
  obtain ⟨hA, hB⟩ := h
  refine lv_if_eq (tgt := 56) hx hb dX6_letBleed_28 (by decide) (fun c1 => ?_) (fun c1 => ?_)
  · have h := hA c1
    exact wk_X6_letBleed_56 X hC h hw (lv_sub hl [1] rfl)
  · have h := hB c1
    refine lv_aload_n hx hb dX6_letBleed_31 rfl (lv_at hl 1 rfl) ?_
    refine ck_get hx hb hts inX6 hown hw (hC.1 0 (by decide)) rfl rfl 4 (by decide) (hts _ (List.mem_of_getElem? (i := 3) rfl)) rfl dX6_letBleed_32 ?_
    refine ck_callVi (rest := []) ⟨hx, hb, hml, hown, hts⟩ hw (hC.1 3 (by decide)) rfl rfl (ct_X0_anySerious l G hC h) (cwV 0 hts gX6_letBleed_X0_anySerious rfl rfl rfl (by decide +kernel) ⟨(Nat.le_of_ble_eq_true rfl), (Nat.le_of_ble_eq_true rfl)⟩) rfl hl.1 rfl (Nat.le_of_ble_eq_true rfl) dX6_letBleed_35 ⟨(Nat.le_of_ble_eq_true rfl), (Nat.le_of_ble_eq_true rfl)⟩ (fun x_3 σ2 H locs h hw => ?_)
    obtain ⟨hA, hB⟩ := h
    refine lv_if_ne (tgt := 56) hx hb dX6_letBleed_38 (by decide) (fun c4 => ?_) (fun c4 => ?_)
    · have h := hA c4
      exact wk_X6_letBleed_56 X hC h hw (lv_sub hl [1] rfl)
    · have h := hB c4
      refine lv_aload_n hx hb dX6_letBleed_41 rfl (lv_at hl 1 rfl) ?_
      refine ck_callVd (rest := []) ⟨hx, hb, hml, hown, hts⟩ hw (hC.1 0 (by decide)) rfl rfl (ct_X6_currentSize l G hC h) (cwV 0 hts gX6_letBleed_X6_currentSize rfl rfl rfl (by decide +kernel) ⟨(Nat.le_of_ble_eq_true rfl), (Nat.le_of_ble_eq_true rfl)⟩) rfl hl.1 rfl (Nat.le_of_ble_eq_true rfl) dX6_letBleed_42 ⟨(Nat.le_of_ble_eq_true rfl), (Nat.le_of_ble_eq_true rfl)⟩ (fun z_6 σ5 H locs h hw => ?_)
      refine lv_ldc2d hx hb hown (hts _ (List.mem_of_getElem? (i := 4) rfl)) dX6_letBleed_45 ?_
      refine lv_dcmp hx hb dX6_letBleed_48 ?_
      obtain ⟨hA, hB⟩ := h
      refine lv_if_ge (tgt := 56) hx hb dX6_letBleed_49 (by decide) (fun c7 => ?_) (fun c7 => ?_)
      · have h := hA c7
        exact wk_X6_letBleed_56 X hC h hw (lv_sub hl [1] rfl)
      · have h := hB c7
        refine lv_iconst (v := 1) hx hb dX6_letBleed_52 (by decide) ?_
        refine lv_goto (tgt := 57) hx hb dX6_letBleed_53 (by decide) ?_
        exact wk_X6_letBleed_57 X hC h hw (lv_sub hl [1] rfl)
set_option maxHeartbeats 4000000 in
set_option maxRecDepth 100000 in
theorem wk_X6_letBleed_21 {p : Program} {l : Launch} {e : Env} {s : State} {m : MethodId} {args : Array Value} {below : List Frame} {meth : Method} {c : Code} {G : ck_G} (X : ck_X p s m meth c args cX6_letBleed 7 none RX6 wsX6_letBleed) (hC : ck_inC G) {post : ck_S → Prop} {σ : ck_S} {H : Heap} {locs : List Loc} {ls : Array Slot} (h : sp_X6_letBleed_21 (ck_nc G) (ck_nb G) post σ) (hw : ck_H G s H locs σ) (hl : lv_has ls 7 [(0, .ref (ck_ad G 0 0))]) : W p l e ({ frames := 4, cells := 0, slots := 0, locals := 97 } : Room) s m args below meth c H locs 0 0 (MQ below (va_Qv post (ck_Q G) (ck_A G s.heap.size)) args s 0 0 (ck_A G s.heap.size)) (F0 m 21 ls []) := by
  obtain ⟨hx, hb, hr, hml, hown, hts, hlocks⟩ := id X
  have inX3 : ∀ w ∈ wsX30, w ∈ wsX6_letBleed := fun _ h => List.mem_cons_of_mem _ (List.mem_append_left _ (List.mem_append_right _ (h)))
  have inX4 : ∀ w ∈ wsX40, w ∈ wsX6_letBleed := fun _ h => List.mem_cons_of_mem _ (List.mem_append_left _ (List.mem_append_left _ (List.mem_append_left _ (List.mem_append_right _ (h)))))
  have inX5 : ∀ w ∈ wsX50, w ∈ wsX6_letBleed := fun _ h => List.mem_cons_of_mem _ (List.mem_append_left _ (List.mem_append_left _ (List.mem_append_right _ (h))))
  have inX6 : ∀ w ∈ wsX60, w ∈ wsX6_letBleed := fun _ h => List.mem_cons_of_mem _ (List.mem_append_left _ (List.mem_append_left _ (List.mem_append_left _ (List.mem_append_left _ (List.mem_append_right _ (h))))))
  unfold sp_X6_letBleed_21 at h
  refine lv_iconst (v := 1) hx hb dX6_letBleed_21 (by decide) ?_
  refine lv_goto (tgt := 26) hx hb dX6_letBleed_22 (by decide) ?_
  exact wk_X6_letBleed_26 X hC h hw (lv_sub hl [0] rfl)
set_option maxHeartbeats 4000000 in
set_option maxRecDepth 100000 in
theorem wk_X6_letBleed_0 {p : Program} {l : Launch} {e : Env} {s : State} {m : MethodId} {args : Array Value} {below : List Frame} {meth : Method} {c : Code} {G : ck_G} (X : ck_X p s m meth c args cX6_letBleed 7 none RX6 wsX6_letBleed) (hC : ck_inC G) {post : ck_S → Prop} {σ : ck_S} {H : Heap} {locs : List Loc} {ls : Array Slot} (h : sp_X6_letBleed (ck_nc G) (ck_nb G) σ post) (hw : ck_H G s H locs σ) (hl : lv_has ls 7 [(0, .ref (ck_ad G 0 0))]) : W p l e ({ frames := 4, cells := 0, slots := 0, locals := 97 } : Room) s m args below meth c H locs 0 0 (MQ below (va_Qv post (ck_Q G) (ck_A G s.heap.size)) args s 0 0 (ck_A G s.heap.size)) (F0 m 0 ls []) := by
  obtain ⟨hx, hb, hr, hml, hown, hts, hlocks⟩ := id X
  have inX3 : ∀ w ∈ wsX30, w ∈ wsX6_letBleed := fun _ h => List.mem_cons_of_mem _ (List.mem_append_left _ (List.mem_append_right _ (h)))
  have inX4 : ∀ w ∈ wsX40, w ∈ wsX6_letBleed := fun _ h => List.mem_cons_of_mem _ (List.mem_append_left _ (List.mem_append_left _ (List.mem_append_left _ (List.mem_append_right _ (h)))))
  have inX5 : ∀ w ∈ wsX50, w ∈ wsX6_letBleed := fun _ h => List.mem_cons_of_mem _ (List.mem_append_left _ (List.mem_append_left _ (List.mem_append_right _ (h))))
  have inX6 : ∀ w ∈ wsX60, w ∈ wsX6_letBleed := fun _ h => List.mem_cons_of_mem _ (List.mem_append_left _ (List.mem_append_left _ (List.mem_append_left _ (List.mem_append_left _ (List.mem_append_right _ (h))))))
  unfold sp_X6_letBleed at h
  refine lv_aload_n hx hb dX6_letBleed_0 rfl (lv_at hl 0 rfl) ?_
  refine ck_get hx hb hts inX6 hown hw (hC.1 0 (by decide)) rfl rfl 5 (by decide) (hts _ (List.mem_of_getElem? (i := 1) rfl)) rfl dX6_letBleed_1 ?_
  refine ck_get hx hb hts inX4 hown hw (hC.1 5 (by decide)) rfl rfl 0 (by decide) (hts _ (List.mem_of_getElem? (i := 2) rfl)) rfl dX6_letBleed_4 ?_
  obtain ⟨hA, hB⟩ := h
  refine lv_if_eq (tgt := 21) hx hb dX6_letBleed_7 (by decide) (fun c1 => ?_) (fun c1 => ?_)
  · have h := hA c1
    exact wk_X6_letBleed_21 X hC h hw (lv_sub hl [0] rfl)
  · have h := hB c1
    refine lv_aload_n hx hb dX6_letBleed_10 rfl (lv_at hl 0 rfl) ?_
    refine ck_get hx hb hts inX6 hown hw (hC.1 0 (by decide)) rfl rfl 5 (by decide) (hts _ (List.mem_of_getElem? (i := 1) rfl)) rfl dX6_letBleed_11 ?_
    refine ck_get hx hb hts inX4 hown hw (hC.1 5 (by decide)) rfl rfl 0 (by decide) (hts _ (List.mem_of_getElem? (i := 2) rfl)) rfl dX6_letBleed_14 ?_
    refine lv_iconst (v := 3) hx hb dX6_letBleed_17 (by decide) ?_
    obtain ⟨hA, hB⟩ := h
    refine lv_icmp_ne (tgt := 25) hx hb dX6_letBleed_18 (by decide) (fun c2 => ?_) (fun c2 => ?_)
    · have h := hA c2
      refine lv_iconst (v := 0) hx hb dX6_letBleed_25 (by decide) ?_
      exact wk_X6_letBleed_26 X hC h hw (lv_sub hl [0] rfl)
    · have h := hB c2
      exact wk_X6_letBleed_21 X hC h hw (lv_sub hl [0] rfl)
set_option maxHeartbeats 4000000 in
set_option maxRecDepth 100000 in
theorem ct_X6_letBleed (l : Launch) (G : ck_G) (hC : ck_inC G) {σ : ck_S} {post : ck_S → Prop} (h : sp_X6_letBleed (ck_nc G) (ck_nb G) σ post) : ck_Mv l yX6_letBleed wsX6_letBleed ({ frames := 4, cells := 0, slots := 0, locals := 97 } : Room) G σ [.ref (ck_ad G 0 0)] post := by
  intro sz
  refine Met.ofW (cc := cX6_letBleed) (maxL := 7) (ret := none) (by decide) rfl ?_
  intro p e s m args below meth c s₁ B hml hv
  obtain ⟨rfl, rfl, hw⟩ := ck_enter hv
  have hl := lv_entry ([.ref (ck_ad G 0 0)]) (n := 7) (Nat.le_of_ble_eq_true rfl)
  rw [lg_entry_eq]
  generalize (lg_sl ([.ref (ck_ad G 0 0)]) ++ List.replicate (7 - (lg_sl ([.ref (ck_ad G 0 0)])).length) Slot.unset).toArray = ls at hl ⊢
  have hl : lv_has ls 7 [(0, .ref (ck_ad G 0 0))] := hl
  exact wk_X6_letBleed_0 ⟨B.exec, B.bytes, B.returns, hml, findClass_of_methodNamed B.named, atoms_spec (ws := wsX6_letBleed) B.pre, B.notSynchronized⟩ hC h hw hl
def sp_X6_writeBlock (nc nb : Nat) (σ : ck_S) (post : ck_S → Prop) : Prop := (vf_n64 (FP.dmul (ck_gd σ 0 0 9) 4665729213955833856)) ∧ ∀ y_2, y_2 = (FP.d2l (FP.dmul (ck_gd σ 0 0 9) 4665729213955833856)) → sp_X1_write nc nb σ (ck_gi σ 0 0 8) y_2 (ck_gi σ 3 0 2) (ck_gi σ 5 0 0) (fun x_4 σ3 => ((¬ x_4 = 0 → (∀ σ6, σ6 = ck_ui σ3 0 0 7 0 → post σ6)) ∧ (x_4 = 0 → (∀ σ7, σ7 = ck_ui σ3 0 0 7 1 → post σ7))))
set_option maxHeartbeats 4000000 in
set_option maxRecDepth 100000 in
theorem wk_X6_writeBlock_0 {p : Program} {l : Launch} {e : Env} {s : State} {m : MethodId} {args : Array Value} {below : List Frame} {meth : Method} {c : Code} {G : ck_G} (X : ck_X p s m meth c args cX6_writeBlock 4 none RX6 wsX6_writeBlock) (hC : ck_inC G) {post : ck_S → Prop} {σ : ck_S} {H : Heap} {locs : List Loc} {ls : Array Slot} (h : sp_X6_writeBlock (ck_nc G) (ck_nb G) σ post) (hw : ck_H G s H locs σ) (hl : lv_has ls 4 [(0, .ref (ck_ad G 0 0))]) : W p l e ({ frames := 3, cells := 0, slots := 0, locals := 76 } : Room) s m args below meth c H locs 0 0 (MQ below (va_Qv post (ck_Q G) (ck_A G s.heap.size)) args s 0 0 (ck_A G s.heap.size)) (F0 m 0 ls []) := by
  obtain ⟨hx, hb, hr, hml, hown, hts, hlocks⟩ := id X
  have inX0 : ∀ w ∈ wsX00, w ∈ wsX6_writeBlock := fun _ h => List.mem_cons_of_mem _ (List.mem_append_left _ (List.mem_append_left _ (List.mem_append_right _ (h))))
  have inX4 : ∀ w ∈ wsX40, w ∈ wsX6_writeBlock := fun _ h => List.mem_cons_of_mem _ (List.mem_append_left _ (List.mem_append_right _ (h)))
  have inX6 : ∀ w ∈ wsX60, w ∈ wsX6_writeBlock := fun _ h => List.mem_cons_of_mem _ (List.mem_append_left _ (List.mem_append_left _ (List.mem_append_left _ (List.mem_append_right _ (h)))))
  unfold sp_X6_writeBlock at h
  refine lv_aload_n hx hb dX6_writeBlock_0 rfl (lv_at hl 0 rfl) ?_
  refine ck_get hx hb hts inX6 hown hw (hC.1 0 (by decide)) rfl rfl 9 (by decide) (hts _ (List.mem_of_getElem? (i := 1) rfl)) rfl dX6_writeBlock_1 ?_
  refine lv_ldc2d hx hb hown (hts _ (List.mem_of_getElem? (i := 2) rfl)) dX6_writeBlock_4 ?_
  obtain ⟨n1, h⟩ := h
  refine lv_dmul hx hb dX6_writeBlock_7 n1 ?_
  refine lv_d2l hx hb dX6_writeBlock_8 ?_
  refine lv_topl (fun y_2 ey_2 => ?_)
  have h := h y_2 ey_2
  refine lv_lstore_n (lv' := [(1, .long y_2), (0, .ref (ck_ad G 0 0))]) hx hb dX6_writeBlock_9 rfl hl (by decide) rfl (fun ls hl => ?_)
  refine lv_aload_n hx hb dX6_writeBlock_10 rfl (lv_at hl 1 rfl) ?_
  refine ck_get hx hb hts inX6 hown hw (hC.1 0 (by decide)) rfl rfl 6 (by decide) (hts _ (List.mem_of_getElem? (i := 3) rfl)) rfl dX6_writeBlock_11 ?_
  refine lv_aload_n hx hb dX6_writeBlock_14 rfl (lv_at hl 1 rfl) ?_
  refine ck_get hx hb hts inX6 hown hw (hC.1 0 (by decide)) rfl rfl 8 (by decide) (hts _ (List.mem_of_getElem? (i := 4) rfl)) rfl dX6_writeBlock_15 ?_
  refine lv_lload_n hx hb dX6_writeBlock_18 rfl (lv_at hl 0 rfl) ?_
  refine lv_aload_n hx hb dX6_writeBlock_19 rfl (lv_at hl 1 rfl) ?_
  refine ck_get hx hb hts inX6 hown hw (hC.1 0 (by decide)) rfl rfl 4 (by decide) (hts _ (List.mem_of_getElem? (i := 5) rfl)) rfl dX6_writeBlock_20 ?_
  refine ck_get hx hb hts inX0 hown hw (hC.1 3 (by decide)) rfl rfl 2 (by decide) (hts _ (List.mem_of_getElem? (i := 6) rfl)) rfl dX6_writeBlock_23 ?_
  refine lv_aload_n hx hb dX6_writeBlock_26 rfl (lv_at hl 1 rfl) ?_
  refine ck_get hx hb hts inX6 hown hw (hC.1 0 (by decide)) rfl rfl 5 (by decide) (hts _ (List.mem_of_getElem? (i := 7) rfl)) rfl dX6_writeBlock_27 ?_
  refine ck_get hx hb hts inX4 hown hw (hC.1 5 (by decide)) rfl rfl 0 (by decide) (hts _ (List.mem_of_getElem? (i := 8) rfl)) rfl dX6_writeBlock_30 ?_
  refine ck_callVi (rest := []) ⟨hx, hb, hml, hown, hts⟩ hw (hC.1 6 (by decide)) rfl rfl (ct_X1_write l G hC h) (cwV 4 hts gX6_writeBlock_X1_write rfl rfl rfl (by decide +kernel) ⟨(Nat.le_of_ble_eq_true rfl), (Nat.le_of_ble_eq_true rfl)⟩) rfl hl.1 rfl (Nat.le_of_ble_eq_true rfl) dX6_writeBlock_33 ⟨(Nat.le_of_ble_eq_true rfl), (Nat.le_of_ble_eq_true rfl)⟩ (fun x_4 σ3 H locs h hw => ?_)
  refine lv_istore_n (lv' := [(3, .int x_4), (1, .long y_2), (0, .ref (ck_ad G 0 0))]) hx hb dX6_writeBlock_36 rfl hl (by decide) rfl (fun ls hl => ?_)
  refine lv_aload_n hx hb dX6_writeBlock_37 rfl (lv_at hl 2 rfl) ?_
  refine lv_iload_n hx hb dX6_writeBlock_38 rfl (lv_at hl 0 rfl) ?_
  obtain ⟨hA, hB⟩ := h
  refine lv_if_ne (tgt := 46) hx hb dX6_writeBlock_39 (by decide) (fun c5 => ?_) (fun c5 => ?_)
  · have h := hA c5
    refine lv_iconst (v := 0) hx hb dX6_writeBlock_46 (by decide) ?_
    refine ck_puti hx hb hts inX6 tyX6 tyX6_ok nmX6 hown hw (hC.1 0 (by decide)) rfl rfl 7 (by decide) (hts _ (List.mem_of_getElem? (i := 9) rfl)) rfl rfl rfl (Nat.le_of_ble_eq_true rfl) rfl dX6_writeBlock_47 (fun H locs hw => ?_)
    obtain ⟨σ6, eσ6⟩ : ∃ z : ck_S, z = ck_ui σ3 0 0 7 0 := ⟨_, rfl⟩
    rw [← eσ6] at hw
    have h := h σ6 eσ6
    exact ck_vret X hw h dX6_writeBlock_50
  · have h := hB c5
    refine lv_iconst (v := 1) hx hb dX6_writeBlock_42 (by decide) ?_
    refine lv_goto (tgt := 47) hx hb dX6_writeBlock_43 (by decide) ?_
    refine ck_puti hx hb hts inX6 tyX6 tyX6_ok nmX6 hown hw (hC.1 0 (by decide)) rfl rfl 7 (by decide) (hts _ (List.mem_of_getElem? (i := 9) rfl)) rfl rfl rfl (Nat.le_of_ble_eq_true rfl) rfl dX6_writeBlock_47 (fun H locs hw => ?_)
    obtain ⟨σ7, eσ7⟩ : ∃ z : ck_S, z = ck_ui σ3 0 0 7 1 := ⟨_, rfl⟩
    rw [← eσ7] at hw
    have h := h σ7 eσ7
    exact ck_vret X hw h dX6_writeBlock_50
set_option maxHeartbeats 4000000 in
set_option maxRecDepth 100000 in
theorem ct_X6_writeBlock (l : Launch) (G : ck_G) (hC : ck_inC G) {σ : ck_S} {post : ck_S → Prop} (h : sp_X6_writeBlock (ck_nc G) (ck_nb G) σ post) : ck_Mv l yX6_writeBlock wsX6_writeBlock ({ frames := 3, cells := 0, slots := 0, locals := 76 } : Room) G σ [.ref (ck_ad G 0 0)] post := by
  intro sz
  refine Met.ofW (cc := cX6_writeBlock) (maxL := 4) (ret := none) (by decide) rfl ?_
  intro p e s m args below meth c s₁ B hml hv
  obtain ⟨rfl, rfl, hw⟩ := ck_enter hv
  have hl := lv_entry ([.ref (ck_ad G 0 0)]) (n := 4) (Nat.le_of_ble_eq_true rfl)
  rw [lg_entry_eq]
  generalize (lg_sl ([.ref (ck_ad G 0 0)]) ++ List.replicate (4 - (lg_sl ([.ref (ck_ad G 0 0)])).length) Slot.unset).toArray = ls at hl ⊢
  have hl : lv_has ls 4 [(0, .ref (ck_ad G 0 0))] := hl
  exact wk_X6_writeBlock_0 ⟨B.exec, B.bytes, B.returns, hml, findClass_of_methodNamed B.named, atoms_spec (ws := wsX6_writeBlock) B.pre, B.notSynchronized⟩ hC h hw hl
def bd_X6_passOneTick_20 (nc nb : Nat) (post : ck_S → Prop) (K20 : ck_S → Int32 → Int32 → Prop) (σ : ck_S) (x2 : Int32) (x3 : Int32) : Prop := ((x2 ≤ x3 → (sp_X5_look nc nb σ (fun σ2 => sp_X6_moveCharge nc nb σ2 (fun σ4 => sp_X6_tellAllowed nc nb σ4 (fun σ6 => sp_X6_watchCauses nc nb σ6 (fun σ8 => sp_X4_step nc nb σ8 (ck_gi σ8 0 0 14) (ck_gi σ8 0 0 13) (fun σ10 => sp_X6_letBleed nc nb σ10 (fun σ12 => ((¬ (ck_gi σ12 3 0 3) = 0 → (sp_X6_writeBlock nc nb σ12 (fun σ15 => post σ15))) ∧ ((ck_gi σ12 3 0 3) = 0 → (∀ x_17, x_17 = (ck_gi σ12 0 0 8) → ∀ x_18, x_18 = (ck_gi σ12 0 0 2) → (¬ x_18 = 0) ∧ ((¬ (x_17 - x_17 / x_18 * x_18) = 0 → (post σ12)) ∧ ((x_17 - x_17 / x_18 * x_18) = 0 → (sp_X6_writeBlock nc nb σ12 (fun σ21 => post σ21))))))))))))))) ∧ (¬ x2 ≤ x3 → ((vp_in x3 nc) ∧ ∀ j24, j24 = Int32.toNatClampNeg x3 → ∀ σ25, σ25 = ck_ui σ 30 j24 5 ((ck_gi σ 30 j24 5) + 1) → ∀ x_26, x_26 = x3 + 1 → K20 σ25 x2 x_26)))
def sp_X6_passOneTick (nc nb : Nat) (σ : ck_S) (post : ck_S → Prop) : Prop := ∀ σ1, σ1 = ck_ui σ 0 0 8 ((ck_gi σ 0 0 8) + 1) → ∀ x_2, x_2 = (nI nc) → lx_3 (bd_X6_passOneTick_20 nc nb post) σ1 x_2 0
set_option maxHeartbeats 4000000 in
set_option maxRecDepth 100000 in
theorem wk_X6_passOneTick_20 {p : Program} {l : Launch} {e : Env} {s : State} {m : MethodId} {args : Array Value} {below : List Frame} {meth : Method} {c : Code} {G : ck_G} (X : ck_X p s m meth c args cX6_passOneTick 5 none RX6 wsX6_passOneTick) (hE : ck_E (ck_A G s.heap.size) s) (hC : ck_inC G) {post : ck_S → Prop} : ∀ (fu : Nat) (σ : ck_S) (x2 : Int32) (x3 : Int32) (H : Heap) (locs : List Loc) (ls : Array Slot), lk_3 (bd_X6_passOneTick_20 (ck_nc G) (ck_nb G) post) fu σ x2 x3 → ck_H G s H locs σ → lv_has ls 5 [(0, .ref (ck_ad G 0 0)), (1, .ref (ck_ad G 1 0)), (2, .int x2), (3, .int x3)] → W p l e ({ frames := 5, cells := 0, slots := 0, locals := 123 } : Room) s m args below meth c H locs 0 0 (MQ below (va_Qv post (ck_Q G) (ck_A G s.heap.size)) args s 0 0 (ck_A G s.heap.size)) (F0 m 20 ls []) := by
  obtain ⟨hx, hb, hr, hml, hown, hts, hlocks⟩ := id X
  have inX0 : ∀ w ∈ wsX00, w ∈ wsX6_passOneTick := fun _ h => List.mem_cons_of_mem _ (List.mem_append_left _ (List.mem_append_left _ (List.mem_append_left _ (List.mem_append_right _ (h)))))
  have inX3 : ∀ w ∈ wsX30, w ∈ wsX6_passOneTick := fun _ h => List.mem_cons_of_mem _ (List.mem_append_left _ (List.mem_append_left _ (List.mem_append_left _ (List.mem_append_left _ (List.mem_append_right _ (h))))))
  have inX6 : ∀ w ∈ wsX60, w ∈ wsX6_passOneTick := fun _ h => List.mem_cons_of_mem _ (List.mem_append_left _ (List.mem_append_left _ (List.mem_append_left _ (List.mem_append_left _ (List.mem_append_left _ (List.mem_append_right _ (h)))))))
  intro fu
  induction fu with
  | zero => intro σ x2 x3 H locs ls h hw hl; exact h.elim
  | succ fu hK20 =>
    intro σ x2 x3 H locs ls h hw hl
    have h : bd_X6_passOneTick_20 (ck_nc G) (ck_nb G) post (lk_3 (bd_X6_passOneTick_20 (ck_nc G) (ck_nb G) post) fu) σ x2 x3 := h
    unfold bd_X6_passOneTick_20 at h
    refine lv_iload_n hx hb dX6_passOneTick_20 rfl (lv_at hl 3 rfl) ?_
    refine lv_iload_n hx hb dX6_passOneTick_21 rfl (lv_at hl 2 rfl) ?_
    obtain ⟨hA, hB⟩ := h
    refine lv_icmp_ge (tgt := 47) hx hb dX6_passOneTick_22 (by decide) (fun c1 => ?_) (fun c1 => ?_)
    · have h := hA c1
      refine lv_aload_n hx hb dX6_passOneTick_47 rfl (lv_at hl 0 rfl) ?_
      refine ck_get hx hb hts inX6 hown hw (hC.1 0 (by decide)) rfl rfl 3 (by decide) (hts _ (List.mem_of_getElem? (i := 4) rfl)) rfl dX6_passOneTick_48 ?_
      refine lv_aload_n hx hb dX6_passOneTick_51 rfl (lv_at hl 0 rfl) ?_
      refine ck_get hx hb hts inX6 hown hw (hC.1 0 (by decide)) rfl rfl 0 (by decide) (hts _ (List.mem_of_getElem? (i := 2) rfl)) rfl dX6_passOneTick_52 ?_
      refine ck_callVv (rest := []) ⟨hx, hb, hml, hown, hts⟩ hw (hC.1 2 (by decide)) rfl rfl (ct_X5_look l G hC h) (cwV 1 hts gX6_passOneTick_X5_look rfl rfl rfl (by decide +kernel) ⟨(Nat.le_of_ble_eq_true rfl), (Nat.le_of_ble_eq_true rfl)⟩) rfl hl.1 rfl (Nat.le_of_ble_eq_true rfl) dX6_passOneTick_55 ⟨(Nat.le_of_ble_eq_true rfl), (Nat.le_of_ble_eq_true rfl)⟩ (fun σ2 H locs h hw => ?_)
      refine lv_aload_n hx hb dX6_passOneTick_58 rfl (lv_at hl 0 rfl) ?_
      refine ck_ecallVv (rest := []) ⟨hx, hb, hml, hown, hts⟩ hw hE (hC.1 0 (by decide)) rfl rfl (ct_X6_moveCharge l G hC h) (cwV 0 hts gX6_passOneTick_X6_moveCharge rfl rfl rfl (by decide +kernel) ⟨(Nat.le_of_ble_eq_true rfl), (Nat.le_of_ble_eq_true rfl)⟩) rfl hl.1 rfl (Nat.le_of_ble_eq_true rfl) dX6_passOneTick_59 ⟨(Nat.le_of_ble_eq_true rfl), (Nat.le_of_ble_eq_true rfl)⟩ (fun σ4 H locs h hw => ?_)
      refine lv_aload_n hx hb dX6_passOneTick_62 rfl (lv_at hl 0 rfl) ?_
      refine ck_callVv (rest := []) ⟨hx, hb, hml, hown, hts⟩ hw (hC.1 0 (by decide)) rfl rfl (ct_X6_tellAllowed l G hC h) (cwV 0 hts gX6_passOneTick_X6_tellAllowed rfl rfl rfl (by decide +kernel) ⟨(Nat.le_of_ble_eq_true rfl), (Nat.le_of_ble_eq_true rfl)⟩) rfl hl.1 rfl (Nat.le_of_ble_eq_true rfl) dX6_passOneTick_63 ⟨(Nat.le_of_ble_eq_true rfl), (Nat.le_of_ble_eq_true rfl)⟩ (fun σ6 H locs h hw => ?_)
      refine lv_aload_n hx hb dX6_passOneTick_66 rfl (lv_at hl 0 rfl) ?_
      refine ck_callVv (rest := []) ⟨hx, hb, hml, hown, hts⟩ hw (hC.1 0 (by decide)) rfl rfl (ct_X6_watchCauses l G hC h) (cwV 0 hts gX6_passOneTick_X6_watchCauses rfl rfl rfl (by decide +kernel) ⟨(Nat.le_of_ble_eq_true rfl), (Nat.le_of_ble_eq_true rfl)⟩) rfl hl.1 rfl (Nat.le_of_ble_eq_true rfl) dX6_passOneTick_67 ⟨(Nat.le_of_ble_eq_true rfl), (Nat.le_of_ble_eq_true rfl)⟩ (fun σ8 H locs h hw => ?_)
      refine lv_aload_n hx hb dX6_passOneTick_70 rfl (lv_at hl 0 rfl) ?_
      refine ck_get hx hb hts inX6 hown hw (hC.1 0 (by decide)) rfl rfl 5 (by decide) (hts _ (List.mem_of_getElem? (i := 5) rfl)) rfl dX6_passOneTick_71 ?_
      refine lv_aload_n hx hb dX6_passOneTick_74 rfl (lv_at hl 0 rfl) ?_
      refine ck_get hx hb hts inX6 hown hw (hC.1 0 (by decide)) rfl rfl 14 (by decide) (hts _ (List.mem_of_getElem? (i := 6) rfl)) rfl dX6_passOneTick_75 ?_
      refine lv_aload_n hx hb dX6_passOneTick_78 rfl (lv_at hl 0 rfl) ?_
      refine ck_get hx hb hts inX6 hown hw (hC.1 0 (by decide)) rfl rfl 13 (by decide) (hts _ (List.mem_of_getElem? (i := 7) rfl)) rfl dX6_passOneTick_79 ?_
      refine lv_aload_n hx hb dX6_passOneTick_82 rfl (lv_at hl 0 rfl) ?_
      refine ck_get hx hb hts inX6 hown hw (hC.1 0 (by decide)) rfl rfl 3 (by decide) (hts _ (List.mem_of_getElem? (i := 4) rfl)) rfl dX6_passOneTick_83 ?_
      refine lv_aload_n hx hb dX6_passOneTick_86 rfl (lv_at hl 0 rfl) ?_
      refine ck_get hx hb hts inX6 hown hw (hC.1 0 (by decide)) rfl rfl 4 (by decide) (hts _ (List.mem_of_getElem? (i := 8) rfl)) rfl dX6_passOneTick_87 ?_
      refine ck_callVv (rest := []) ⟨hx, hb, hml, hown, hts⟩ hw (hC.1 5 (by decide)) rfl rfl (ct_X4_step l G hC h) (cwV 4 hts gX6_passOneTick_X4_step rfl rfl rfl (by decide +kernel) ⟨(Nat.le_of_ble_eq_true rfl), (Nat.le_of_ble_eq_true rfl)⟩) rfl hl.1 rfl (Nat.le_of_ble_eq_true rfl) dX6_passOneTick_90 ⟨(Nat.le_of_ble_eq_true rfl), (Nat.le_of_ble_eq_true rfl)⟩ (fun σ10 H locs h hw => ?_)
      refine lv_aload_n hx hb dX6_passOneTick_93 rfl (lv_at hl 0 rfl) ?_
      refine ck_callVv (rest := []) ⟨hx, hb, hml, hown, hts⟩ hw (hC.1 0 (by decide)) rfl rfl (ct_X6_letBleed l G hC h) (cwV 0 hts gX6_passOneTick_X6_letBleed rfl rfl rfl (by decide +kernel) ⟨(Nat.le_of_ble_eq_true rfl), (Nat.le_of_ble_eq_true rfl)⟩) rfl hl.1 rfl (Nat.le_of_ble_eq_true rfl) dX6_passOneTick_94 ⟨(Nat.le_of_ble_eq_true rfl), (Nat.le_of_ble_eq_true rfl)⟩ (fun σ12 H locs h hw => ?_)
      refine lv_aload_n hx hb dX6_passOneTick_97 rfl (lv_at hl 0 rfl) ?_
      refine ck_get hx hb hts inX6 hown hw (hC.1 0 (by decide)) rfl rfl 4 (by decide) (hts _ (List.mem_of_getElem? (i := 8) rfl)) rfl dX6_passOneTick_98 ?_
      refine ck_get hx hb hts inX0 hown hw (hC.1 3 (by decide)) rfl rfl 3 (by decide) (hts _ (List.mem_of_getElem? (i := 9) rfl)) rfl dX6_passOneTick_101 ?_
      obtain ⟨hA, hB⟩ := h
      refine lv_if_ne (tgt := 119) hx hb dX6_passOneTick_104 (by decide) (fun c14 => ?_) (fun c14 => ?_)
      · have h := hA c14
        refine lv_aload_n hx hb dX6_passOneTick_119 rfl (lv_at hl 0 rfl) ?_
        refine ck_callVv (rest := []) ⟨hx, hb, hml, hown, hts⟩ hw (hC.1 0 (by decide)) rfl rfl (ct_X6_writeBlock l G hC h) (cwV 0 hts gX6_passOneTick_X6_writeBlock rfl rfl rfl (by decide +kernel) ⟨(Nat.le_of_ble_eq_true rfl), (Nat.le_of_ble_eq_true rfl)⟩) rfl hl.1 rfl (Nat.le_of_ble_eq_true rfl) dX6_passOneTick_120 ⟨(Nat.le_of_ble_eq_true rfl), (Nat.le_of_ble_eq_true rfl)⟩ (fun σ15 H locs h hw => ?_)
        exact ck_vret X hw h dX6_passOneTick_123
      · have h := hB c14
        refine lv_aload_n hx hb dX6_passOneTick_107 rfl (lv_at hl 0 rfl) ?_
        refine ck_get hx hb hts inX6 hown hw (hC.1 0 (by decide)) rfl rfl 8 (by decide) (hts _ (List.mem_of_getElem? (i := 1) rfl)) rfl dX6_passOneTick_108 ?_
        refine lv_topi (fun x_17 ex_17 => ?_)
        have h := h x_17 ex_17
        refine lv_aload_n hx hb dX6_passOneTick_111 rfl (lv_at hl 0 rfl) ?_
        refine ck_get hx hb hts inX6 hown hw (hC.1 0 (by decide)) rfl rfl 2 (by decide) (hts _ (List.mem_of_getElem? (i := 10) rfl)) rfl dX6_passOneTick_112 ?_
        refine lv_topi (fun x_18 ex_18 => ?_)
        have h := h x_18 ex_18
        obtain ⟨n19, h⟩ := h
        refine lv_irem hx hb dX6_passOneTick_115 n19 ?_
        obtain ⟨hA, hB⟩ := h
        refine lv_if_ne (tgt := 123) hx hb dX6_passOneTick_116 (by decide) (fun c20 => ?_) (fun c20 => ?_)
        · have h := hA c20
          exact ck_vret X hw h dX6_passOneTick_123
        · have h := hB c20
          refine lv_aload_n hx hb dX6_passOneTick_119 rfl (lv_at hl 0 rfl) ?_
          refine ck_callVv (rest := []) ⟨hx, hb, hml, hown, hts⟩ hw (hC.1 0 (by decide)) rfl rfl (ct_X6_writeBlock l G hC h) (cwV 0 hts gX6_passOneTick_X6_writeBlock rfl rfl rfl (by decide +kernel) ⟨(Nat.le_of_ble_eq_true rfl), (Nat.le_of_ble_eq_true rfl)⟩) rfl hl.1 rfl (Nat.le_of_ble_eq_true rfl) dX6_passOneTick_120 ⟨(Nat.le_of_ble_eq_true rfl), (Nat.le_of_ble_eq_true rfl)⟩ (fun σ21 H locs h hw => ?_)
          exact ck_vret X hw h dX6_passOneTick_123
    · have h := hB c1
      refine lv_aload_n hx hb dX6_passOneTick_25 rfl (lv_at hl 1 rfl) ?_
      refine lv_iload_n hx hb dX6_passOneTick_26 rfl (lv_at hl 3 rfl) ?_
      obtain ⟨n23, h⟩ := h
      refine ck_aald hx hb hw (hC.1 1 (by decide)) n23 dX6_passOneTick_27 ?_
      obtain ⟨j24, ej24⟩ : ∃ z : Nat, z = Int32.toNatClampNeg x3 := ⟨_, rfl⟩
      have hj24 : j24 < ck_nc G := by rw [ej24]; exact ck_in n23
      rw [← ej24]
      have h := h j24 ej24
      refine lv_astore (lv' := [(4, .ref (ck_ad G 30 j24)), (0, .ref (ck_ad G 0 0)), (1, .ref (ck_ad G 1 0)), (2, .int x2), (3, .int x3)]) hx hb dX6_passOneTick_28 hl (by decide) rfl (fun ls hl => ?_)
      refine lv_aload hx hb dX6_passOneTick_30 (lv_at hl 0 rfl) ?_
      refine lv_dup hx hb dX6_passOneTick_32 rfl ?_
      refine ck_get hx hb hts inX3 hown hw (hC.2 30 _ (by decide) (by decide) hj24) rfl rfl 5 (by decide) (hts _ (List.mem_of_getElem? (i := 3) rfl)) rfl dX6_passOneTick_33 ?_
      refine lv_iconst (v := 1) hx hb dX6_passOneTick_36 (by decide) ?_
      refine lv_iadd hx hb dX6_passOneTick_37 ?_
      refine ck_puti hx hb hts inX3 tyX3 tyX3_ok nmX3 hown hw (hC.2 30 _ (by decide) (by decide) hj24) rfl rfl 5 (by decide) (hts _ (List.mem_of_getElem? (i := 3) rfl)) rfl rfl rfl (Nat.le_of_ble_eq_true rfl) rfl dX6_passOneTick_38 (fun H locs hw => ?_)
      obtain ⟨σ25, eσ25⟩ : ∃ z : ck_S, z = ck_ui σ 30 j24 5 ((ck_gi σ 30 j24 5) + 1) := ⟨_, rfl⟩
      rw [← eσ25] at hw
      have h := h σ25 eσ25
      obtain ⟨x_26, ex_26⟩ : ∃ z : Int32, z = x3 + 1 := ⟨_, rfl⟩
      have h := h x_26 ex_26
      refine lv_iinc (v := x_26) (lv' := [(3, .int x_26), (4, .ref (ck_ad G 30 j24)), (0, .ref (ck_ad G 0 0)), (1, .ref (ck_ad G 1 0)), (2, .int x2)]) hx hb dX6_passOneTick_41 hl (k := 4) rfl (by rw [ex_26]; rfl) (by decide) rfl (fun ls hl => ?_)
      refine lv_goto (tgt := 20) hx hb dX6_passOneTick_44 (by decide) ?_
      exact hK20 _ _ _ _ _ _ h hw (lv_sub hl [2, 3, 4, 0] rfl)
set_option maxHeartbeats 4000000 in
set_option maxRecDepth 100000 in
theorem wk_X6_passOneTick_0 {p : Program} {l : Launch} {e : Env} {s : State} {m : MethodId} {args : Array Value} {below : List Frame} {meth : Method} {c : Code} {G : ck_G} (X : ck_X p s m meth c args cX6_passOneTick 5 none RX6 wsX6_passOneTick) (hE : ck_E (ck_A G s.heap.size) s) (hC : ck_inC G) {post : ck_S → Prop} {σ : ck_S} {H : Heap} {locs : List Loc} {ls : Array Slot} (h : sp_X6_passOneTick (ck_nc G) (ck_nb G) σ post) (hw : ck_H G s H locs σ) (hl : lv_has ls 5 [(0, .ref (ck_ad G 0 0))]) : W p l e ({ frames := 5, cells := 0, slots := 0, locals := 123 } : Room) s m args below meth c H locs 0 0 (MQ below (va_Qv post (ck_Q G) (ck_A G s.heap.size)) args s 0 0 (ck_A G s.heap.size)) (F0 m 0 ls []) := by
  obtain ⟨hx, hb, hr, hml, hown, hts, hlocks⟩ := id X
  have inX0 : ∀ w ∈ wsX00, w ∈ wsX6_passOneTick := fun _ h => List.mem_cons_of_mem _ (List.mem_append_left _ (List.mem_append_left _ (List.mem_append_left _ (List.mem_append_right _ (h)))))
  have inX3 : ∀ w ∈ wsX30, w ∈ wsX6_passOneTick := fun _ h => List.mem_cons_of_mem _ (List.mem_append_left _ (List.mem_append_left _ (List.mem_append_left _ (List.mem_append_left _ (List.mem_append_right _ (h))))))
  have inX6 : ∀ w ∈ wsX60, w ∈ wsX6_passOneTick := fun _ h => List.mem_cons_of_mem _ (List.mem_append_left _ (List.mem_append_left _ (List.mem_append_left _ (List.mem_append_left _ (List.mem_append_left _ (List.mem_append_right _ (h)))))))
  unfold sp_X6_passOneTick at h
  refine lv_aload_n hx hb dX6_passOneTick_0 rfl (lv_at hl 0 rfl) ?_
  refine lv_dup hx hb dX6_passOneTick_1 rfl ?_
  refine ck_get hx hb hts inX6 hown hw (hC.1 0 (by decide)) rfl rfl 8 (by decide) (hts _ (List.mem_of_getElem? (i := 1) rfl)) rfl dX6_passOneTick_2 ?_
  refine lv_iconst (v := 1) hx hb dX6_passOneTick_5 (by decide) ?_
  refine lv_iadd hx hb dX6_passOneTick_6 ?_
  refine ck_puti hx hb hts inX6 tyX6 tyX6_ok nmX6 hown hw (hC.1 0 (by decide)) rfl rfl 8 (by decide) (hts _ (List.mem_of_getElem? (i := 1) rfl)) rfl rfl rfl (Nat.le_of_ble_eq_true rfl) rfl dX6_passOneTick_7 (fun H locs hw => ?_)
  obtain ⟨σ1, eσ1⟩ : ∃ z : ck_S, z = ck_ui σ 0 0 8 ((ck_gi σ 0 0 8) + 1) := ⟨_, rfl⟩
  rw [← eσ1] at hw
  have h := h σ1 eσ1
  refine lv_aload_n hx hb dX6_passOneTick_10 rfl (lv_at hl 0 rfl) ?_
  refine ck_get hx hb hts inX6 hown hw (hC.1 0 (by decide)) rfl rfl 0 (by decide) (hts _ (List.mem_of_getElem? (i := 2) rfl)) rfl dX6_passOneTick_11 ?_
  refine lv_astore_n (lv' := [(1, .ref (ck_ad G 1 0)), (0, .ref (ck_ad G 0 0))]) hx hb dX6_passOneTick_14 rfl hl (by decide) rfl (fun ls hl => ?_)
  refine lv_aload_n hx hb dX6_passOneTick_15 rfl (lv_at hl 0 rfl) ?_
  refine ck_alen hx hb hw (hC.1 1 (by decide)) rfl 4 rfl rfl dX6_passOneTick_16 ?_
  refine lv_topi (fun x_2 ex_2 => ?_)
  have h := h x_2 ex_2
  refine lv_istore_n (lv' := [(2, .int x_2), (1, .ref (ck_ad G 1 0)), (0, .ref (ck_ad G 0 0))]) hx hb dX6_passOneTick_17 rfl hl (by decide) rfl (fun ls hl => ?_)
  refine lv_iconst (v := 0) hx hb dX6_passOneTick_18 (by decide) ?_
  refine lv_istore_n (lv' := [(3, .int 0), (2, .int x_2), (1, .ref (ck_ad G 1 0)), (0, .ref (ck_ad G 0 0))]) hx hb dX6_passOneTick_19 rfl hl (by decide) rfl (fun ls hl => ?_)
  obtain ⟨fu, h⟩ := h
  exact wk_X6_passOneTick_20 X hE hC fu _ _ _ _ _ _ h hw (lv_sub hl [3, 2, 1, 0] rfl)
set_option maxHeartbeats 4000000 in
set_option maxRecDepth 100000 in
theorem ct_X6_passOneTick (l : Launch) (G : ck_G) (hC : ck_inC G) {σ : ck_S} {post : ck_S → Prop} (h : sp_X6_passOneTick (ck_nc G) (ck_nb G) σ post) : ck_MEv l yX6_passOneTick wsX6_passOneTick ({ frames := 5, cells := 0, slots := 0, locals := 123 } : Room) G σ [.ref (ck_ad G 0 0)] post 0 0 := by
  intro sz
  refine Met.ofW (cc := cX6_passOneTick) (maxL := 5) (ret := none) (by decide) rfl ?_
  intro p e s m args below meth c s₁ B hml hv
  obtain ⟨rfl, rfl, hw, hE⟩ := ck_enterE hv
  have hl := lv_entry ([.ref (ck_ad G 0 0)]) (n := 5) (Nat.le_of_ble_eq_true rfl)
  rw [lg_entry_eq]
  generalize (lg_sl ([.ref (ck_ad G 0 0)]) ++ List.replicate (5 - (lg_sl ([.ref (ck_ad G 0 0)])).length) Slot.unset).toArray = ls at hl ⊢
  have hl : lv_has ls 5 [(0, .ref (ck_ad G 0 0))] := hl
  exact wk_X6_passOneTick_0 ⟨B.exec, B.bytes, B.returns, hml, findClass_of_methodNamed B.named, atoms_spec (ws := wsX6_passOneTick) B.pre, B.notSynchronized⟩ hE hC h hw hl
def sp_X6_power (nc nb : Nat) (σ : ck_S) (post : Int32 → ck_S → Prop) : Prop := sp_X6_beginAnew nc nb σ (fun σ1 => sp_X1_newestPlace nc nb σ1 (fun x_4 σ3 => ((x_4 < 0 → (post (ck_gi σ3 0 0 8) σ3)) ∧ (¬ x_4 < 0 → (sp_X1_numberAt nc nb σ3 x_4 (fun x_7 σ6 => ∀ σ8, σ8 = ck_ui σ6 6 0 3 (x_7 + 1) → sp_X1_timeAt nc nb σ8 x_4 (fun x_10 σ9 => ∀ σ11, σ11 = ck_ui σ9 0 0 8 x_10 → sp_X1_partsAt nc nb σ11 x_4 (fun y_13 σ12 => sp_X6_chargeOfParts nc nb σ12 y_13 (fun z_15 σ14 => ∀ σ16, σ16 = ck_ud σ14 0 0 9 z_15 → sp_X1_faultsAt nc nb σ16 x_4 (fun x_18 σ17 => ∀ σ19, σ19 = ck_ui σ17 3 0 2 x_18 → post (ck_gi σ19 0 0 8) σ19))))))))))
set_option maxHeartbeats 4000000 in
set_option maxRecDepth 100000 in
theorem wk_X6_power_0 {p : Program} {l : Launch} {e : Env} {s : State} {m : MethodId} {args : Array Value} {below : List Frame} {meth : Method} {c : Code} {G : ck_G} (X : ck_X p s m meth c args cX6_power 2 (some .int) RX6 wsX6_power) (hC : ck_inC G) {post : Int32 → ck_S → Prop} {σ : ck_S} {H : Heap} {locs : List Loc} {ls : Array Slot} (h : sp_X6_power (ck_nc G) (ck_nb G) σ post) (hw : ck_H G s H locs σ) (hl : lv_has ls 2 [(0, .ref (ck_ad G 0 0))]) : W p l e ({ frames := 4, cells := 0, slots := 0, locals := 94 } : Room) s m args below meth c H locs 0 0 (MQ below (va_Qi post (ck_Q G) (ck_A G s.heap.size)) args s 0 0 (ck_A G s.heap.size)) (F0 m 0 ls []) := by
  obtain ⟨hx, hb, hr, hml, hown, hts, hlocks⟩ := id X
  have inX0 : ∀ w ∈ wsX00, w ∈ wsX6_power := fun _ h => List.mem_cons_of_mem _ (List.mem_append_left _ (List.mem_append_left _ (List.mem_append_right _ (h))))
  have inX1 : ∀ w ∈ wsX10, w ∈ wsX6_power := fun _ h => List.mem_cons_of_mem _ (List.mem_append_left _ (List.mem_append_left _ (List.mem_append_left _ (List.mem_append_right _ (h)))))
  have inX6 : ∀ w ∈ wsX60, w ∈ wsX6_power := fun _ h => List.mem_cons_of_mem _ (List.mem_append_left _ (List.mem_append_left _ (List.mem_append_left _ (List.mem_append_left _ (List.mem_append_right _ (h))))))
  unfold sp_X6_power at h
  refine lv_aload_n hx hb dX6_power_0 rfl (lv_at hl 0 rfl) ?_
  refine ck_callVv (rest := []) ⟨hx, hb, hml, hown, hts⟩ hw (hC.1 0 (by decide)) rfl rfl (ct_X6_beginAnew l G hC h) (cwV 0 hts gX6_power_X6_beginAnew rfl rfl rfl (by decide +kernel) ⟨(Nat.le_of_ble_eq_true rfl), (Nat.le_of_ble_eq_true rfl)⟩) rfl hl.1 rfl (Nat.le_of_ble_eq_true rfl) dX6_power_1 ⟨(Nat.le_of_ble_eq_true rfl), (Nat.le_of_ble_eq_true rfl)⟩ (fun σ1 H locs h hw => ?_)
  refine lv_aload_n hx hb dX6_power_4 rfl (lv_at hl 0 rfl) ?_
  refine ck_get hx hb hts inX6 hown hw (hC.1 0 (by decide)) rfl rfl 6 (by decide) (hts _ (List.mem_of_getElem? (i := 1) rfl)) rfl dX6_power_5 ?_
  refine ck_callVi (rest := []) ⟨hx, hb, hml, hown, hts⟩ hw (hC.1 6 (by decide)) rfl rfl (ct_X1_newestPlace l G hC h) (cwV 0 hts gX6_power_X1_newestPlace rfl rfl rfl (by decide +kernel) ⟨(Nat.le_of_ble_eq_true rfl), (Nat.le_of_ble_eq_true rfl)⟩) rfl hl.1 rfl (Nat.le_of_ble_eq_true rfl) dX6_power_8 ⟨(Nat.le_of_ble_eq_true rfl), (Nat.le_of_ble_eq_true rfl)⟩ (fun x_4 σ3 H locs h hw => ?_)
  refine lv_istore_n (lv' := [(1, .int x_4), (0, .ref (ck_ad G 0 0))]) hx hb dX6_power_11 rfl hl (by decide) rfl (fun ls hl => ?_)
  refine lv_iload_n hx hb dX6_power_12 rfl (lv_at hl 0 rfl) ?_
  obtain ⟨hA, hB⟩ := h
  refine lv_if_lt (tgt := 76) hx hb dX6_power_13 (by decide) (fun c5 => ?_) (fun c5 => ?_)
  · have h := hA c5
    refine lv_aload_n hx hb dX6_power_76 rfl (lv_at hl 1 rfl) ?_
    refine ck_get hx hb hts inX6 hown hw (hC.1 0 (by decide)) rfl rfl 8 (by decide) (hts _ (List.mem_of_getElem? (i := 3) rfl)) rfl dX6_power_77 ?_
    exact ck_iret X hw h dX6_power_80
  · have h := hB c5
    refine lv_aload_n hx hb dX6_power_16 rfl (lv_at hl 1 rfl) ?_
    refine ck_get hx hb hts inX6 hown hw (hC.1 0 (by decide)) rfl rfl 6 (by decide) (hts _ (List.mem_of_getElem? (i := 1) rfl)) rfl dX6_power_17 ?_
    refine lv_aload_n hx hb dX6_power_20 rfl (lv_at hl 1 rfl) ?_
    refine ck_get hx hb hts inX6 hown hw (hC.1 0 (by decide)) rfl rfl 6 (by decide) (hts _ (List.mem_of_getElem? (i := 1) rfl)) rfl dX6_power_21 ?_
    refine lv_iload_n hx hb dX6_power_24 rfl (lv_at hl 0 rfl) ?_
    refine ck_callVi (rest := [.ref (ck_ad G 6 0)]) ⟨hx, hb, hml, hown, hts⟩ hw (hC.1 6 (by decide)) rfl rfl (ct_X1_numberAt l G hC h) (cwV 1 hts gX6_power_X1_numberAt rfl rfl rfl (by decide +kernel) ⟨(Nat.le_of_ble_eq_true rfl), (Nat.le_of_ble_eq_true rfl)⟩) rfl hl.1 rfl (Nat.le_of_ble_eq_true rfl) dX6_power_25 ⟨(Nat.le_of_ble_eq_true rfl), (Nat.le_of_ble_eq_true rfl)⟩ (fun x_7 σ6 H locs h hw => ?_)
    refine lv_iconst (v := 1) hx hb dX6_power_28 (by decide) ?_
    refine lv_iadd hx hb dX6_power_29 ?_
    refine ck_puti hx hb hts inX1 tyX1 tyX1_ok nmX1 hown hw (hC.1 6 (by decide)) rfl rfl 3 (by decide) (hts _ (List.mem_of_getElem? (i := 2) rfl)) rfl rfl rfl (Nat.le_of_ble_eq_true rfl) rfl dX6_power_30 (fun H locs hw => ?_)
    obtain ⟨σ8, eσ8⟩ : ∃ z : ck_S, z = ck_ui σ6 6 0 3 (x_7 + 1) := ⟨_, rfl⟩
    rw [← eσ8] at hw
    have h := h σ8 eσ8
    refine lv_aload_n hx hb dX6_power_33 rfl (lv_at hl 1 rfl) ?_
    refine lv_aload_n hx hb dX6_power_34 rfl (lv_at hl 1 rfl) ?_
    refine ck_get hx hb hts inX6 hown hw (hC.1 0 (by decide)) rfl rfl 6 (by decide) (hts _ (List.mem_of_getElem? (i := 1) rfl)) rfl dX6_power_35 ?_
    refine lv_iload_n hx hb dX6_power_38 rfl (lv_at hl 0 rfl) ?_
    refine ck_callVi (rest := [.ref (ck_ad G 0 0)]) ⟨hx, hb, hml, hown, hts⟩ hw (hC.1 6 (by decide)) rfl rfl (ct_X1_timeAt l G hC h) (cwV 1 hts gX6_power_X1_timeAt rfl rfl rfl (by decide +kernel) ⟨(Nat.le_of_ble_eq_true rfl), (Nat.le_of_ble_eq_true rfl)⟩) rfl hl.1 rfl (Nat.le_of_ble_eq_true rfl) dX6_power_39 ⟨(Nat.le_of_ble_eq_true rfl), (Nat.le_of_ble_eq_true rfl)⟩ (fun x_10 σ9 H locs h hw => ?_)
    refine ck_puti hx hb hts inX6 tyX6 tyX6_ok nmX6 hown hw (hC.1 0 (by decide)) rfl rfl 8 (by decide) (hts _ (List.mem_of_getElem? (i := 3) rfl)) rfl rfl rfl (Nat.le_of_ble_eq_true rfl) rfl dX6_power_42 (fun H locs hw => ?_)
    obtain ⟨σ11, eσ11⟩ : ∃ z : ck_S, z = ck_ui σ9 0 0 8 x_10 := ⟨_, rfl⟩
    rw [← eσ11] at hw
    have h := h σ11 eσ11
    refine lv_aload_n hx hb dX6_power_45 rfl (lv_at hl 1 rfl) ?_
    refine lv_aload_n hx hb dX6_power_46 rfl (lv_at hl 1 rfl) ?_
    refine lv_aload_n hx hb dX6_power_47 rfl (lv_at hl 1 rfl) ?_
    refine ck_get hx hb hts inX6 hown hw (hC.1 0 (by decide)) rfl rfl 6 (by decide) (hts _ (List.mem_of_getElem? (i := 1) rfl)) rfl dX6_power_48 ?_
    refine lv_iload_n hx hb dX6_power_51 rfl (lv_at hl 0 rfl) ?_
    refine ck_callVl (rest := [.ref (ck_ad G 0 0), .ref (ck_ad G 0 0)]) ⟨hx, hb, hml, hown, hts⟩ hw (hC.1 6 (by decide)) rfl rfl (ct_X1_partsAt l G hC h) (cwV 1 hts gX6_power_X1_partsAt rfl rfl rfl (by decide +kernel) ⟨(Nat.le_of_ble_eq_true rfl), (Nat.le_of_ble_eq_true rfl)⟩) rfl hl.1 rfl (Nat.le_of_ble_eq_true rfl) dX6_power_52 ⟨(Nat.le_of_ble_eq_true rfl), (Nat.le_of_ble_eq_true rfl)⟩ (fun y_13 σ12 H locs h hw => ?_)
    refine ck_callVd (rest := [.ref (ck_ad G 0 0)]) ⟨hx, hb, hml, hown, hts⟩ hw (hC.1 0 (by decide)) rfl rfl (ct_X6_chargeOfParts l G hC h) (cwV 1 hts gX6_power_X6_chargeOfParts rfl rfl rfl (by decide +kernel) ⟨(Nat.le_of_ble_eq_true rfl), (Nat.le_of_ble_eq_true rfl)⟩) rfl hl.1 rfl (Nat.le_of_ble_eq_true rfl) dX6_power_55 ⟨(Nat.le_of_ble_eq_true rfl), (Nat.le_of_ble_eq_true rfl)⟩ (fun z_15 σ14 H locs h hw => ?_)
    refine ck_putd hx hb hts inX6 tyX6 tyX6_ok nmX6 hown hw (hC.1 0 (by decide)) rfl rfl 9 (by decide) (hts _ (List.mem_of_getElem? (i := 4) rfl)) rfl rfl rfl (Nat.le_of_ble_eq_true rfl) rfl dX6_power_58 (fun H locs hw => ?_)
    obtain ⟨σ16, eσ16⟩ : ∃ z : ck_S, z = ck_ud σ14 0 0 9 z_15 := ⟨_, rfl⟩
    rw [← eσ16] at hw
    have h := h σ16 eσ16
    refine lv_aload_n hx hb dX6_power_61 rfl (lv_at hl 1 rfl) ?_
    refine ck_get hx hb hts inX6 hown hw (hC.1 0 (by decide)) rfl rfl 4 (by decide) (hts _ (List.mem_of_getElem? (i := 5) rfl)) rfl dX6_power_62 ?_
    refine lv_aload_n hx hb dX6_power_65 rfl (lv_at hl 1 rfl) ?_
    refine ck_get hx hb hts inX6 hown hw (hC.1 0 (by decide)) rfl rfl 6 (by decide) (hts _ (List.mem_of_getElem? (i := 1) rfl)) rfl dX6_power_66 ?_
    refine lv_iload_n hx hb dX6_power_69 rfl (lv_at hl 0 rfl) ?_
    refine ck_callVi (rest := [.ref (ck_ad G 3 0)]) ⟨hx, hb, hml, hown, hts⟩ hw (hC.1 6 (by decide)) rfl rfl (ct_X1_faultsAt l G hC h) (cwV 1 hts gX6_power_X1_faultsAt rfl rfl rfl (by decide +kernel) ⟨(Nat.le_of_ble_eq_true rfl), (Nat.le_of_ble_eq_true rfl)⟩) rfl hl.1 rfl (Nat.le_of_ble_eq_true rfl) dX6_power_70 ⟨(Nat.le_of_ble_eq_true rfl), (Nat.le_of_ble_eq_true rfl)⟩ (fun x_18 σ17 H locs h hw => ?_)
    refine ck_puti hx hb hts inX0 tyX0 tyX0_ok nmX0 hown hw (hC.1 3 (by decide)) rfl rfl 2 (by decide) (hts _ (List.mem_of_getElem? (i := 6) rfl)) rfl rfl rfl (Nat.le_of_ble_eq_true rfl) rfl dX6_power_73 (fun H locs hw => ?_)
    obtain ⟨σ19, eσ19⟩ : ∃ z : ck_S, z = ck_ui σ17 3 0 2 x_18 := ⟨_, rfl⟩
    rw [← eσ19] at hw
    have h := h σ19 eσ19
    refine lv_aload_n hx hb dX6_power_76 rfl (lv_at hl 1 rfl) ?_
    refine ck_get hx hb hts inX6 hown hw (hC.1 0 (by decide)) rfl rfl 8 (by decide) (hts _ (List.mem_of_getElem? (i := 3) rfl)) rfl dX6_power_77 ?_
    exact ck_iret X hw h dX6_power_80
set_option maxHeartbeats 4000000 in
set_option maxRecDepth 100000 in
theorem ct_X6_power (l : Launch) (G : ck_G) (hC : ck_inC G) {σ : ck_S} {post : Int32 → ck_S → Prop} (h : sp_X6_power (ck_nc G) (ck_nb G) σ post) : ck_Mi l yX6_power wsX6_power ({ frames := 4, cells := 0, slots := 0, locals := 94 } : Room) G σ [.ref (ck_ad G 0 0)] post := by
  intro sz
  refine Met.ofW (cc := cX6_power) (maxL := 2) (ret := (some .int)) (by decide) rfl ?_
  intro p e s m args below meth c s₁ B hml hv
  obtain ⟨rfl, rfl, hw⟩ := ck_enter hv
  have hl := lv_entry ([.ref (ck_ad G 0 0)]) (n := 2) (Nat.le_of_ble_eq_true rfl)
  rw [lg_entry_eq]
  generalize (lg_sl ([.ref (ck_ad G 0 0)]) ++ List.replicate (2 - (lg_sl ([.ref (ck_ad G 0 0)])).length) Slot.unset).toArray = ls at hl ⊢
  have hl : lv_has ls 2 [(0, .ref (ck_ad G 0 0))] := hl
  exact wk_X6_power_0 ⟨B.exec, B.bytes, B.returns, hml, findClass_of_methodNamed B.named, atoms_spec (ws := wsX6_power) B.pre, B.notSynchronized⟩ hC h hw hl
