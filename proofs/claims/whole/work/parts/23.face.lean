def sp_X6_needPower (nc nb : Nat) (σ : ck_S) (post : ck_S → Prop) (px : String → ck_S → Prop) : Prop := (((ck_gi σ 0 0 7) = 0 → (post σ)) ∧ (¬ (ck_gi σ 0 0 7) = 0 → (px "java/lang/IllegalStateException" σ)))
set_option maxHeartbeats 4000000 in
set_option maxRecDepth 100000 in
theorem wk_X6_needPower_0 {p : Program} {l : Launch} {e : Env} {s : State} {m : MethodId} {args : Array Value} {below : List Frame} {meth : Method} {c : Code} {G : ck_G} (X : ck_X p s m meth c args cX6_needPower 1 none RX6 wsX6_needPower) (hlt : l.stackTraces = false) (hE : ck_E (ck_A G s.heap.size) s) (hno : ∀ x ∈ c.exceptionTable.toList, False) (hC : ck_inC G) {post : ck_S → Prop} {px : String → ck_S → Prop} {σ : ck_S} {H : Heap} {locs : List Loc} {ls : Array Slot} (h : sp_X6_needPower (ck_nc G) (ck_nb G) σ post px) (hw : ck_H G s H locs σ) (hl : lv_has ls 1 [(0, .ref (ck_ad G 0 0))]) : W p l e ({ frames := 6, cells := 1, slots := 6, locals := 82 } : Room) s m args below meth c H locs 0 0 (vx_MQ below (va_Qv post (ck_Q G) (ck_A G s.heap.size)) (ck_XC G px (ck_A G s.heap.size)) args s 1 6 (ck_A G s.heap.size)) (F0 m 0 ls []) := by
  obtain ⟨hx, hb, hr, hml, hown, hts, hlocks⟩ := id X
  have inX6 : ∀ w ∈ wsX60, w ∈ wsX6_needPower := fun _ h => List.mem_cons_of_mem _ (List.mem_append_left _ (List.mem_append_right _ (h)))
  unfold sp_X6_needPower at h
  refine lv_aload_n hx hb dX6_needPower_0 rfl (lv_at hl 0 rfl) ?_
  refine ck_get hx hb hts inX6 hown hw (hC.1 0 (by decide)) rfl rfl 7 (by decide) (hts _ (List.mem_of_getElem? (i := 3) rfl)) rfl dX6_needPower_1 ?_
  obtain ⟨hA, hB⟩ := h
  refine lv_if_eq (tgt := 17) hx hb dX6_needPower_4 (by decide) (fun c1 => ?_) (fun c1 => ?_)
  · have h := hA c1
    refine W.widen (k := 1) (n := 6) (Nat.le_of_ble_eq_true rfl) (Nat.le_of_ble_eq_true rfl) ?_
    exact vx_ret (ck_vret X hw h dX6_needPower_17)
  · have h := hB c1
    obtain ⟨sa, hsa⟩ := hE.2.1.1
    exact ck_throw X hlt hw hE hno h (by decide +kernel) (hts _ (List.mem_of_getElem? (i := 1) rfl)) (hts _ (List.mem_of_getElem? (i := 2) rfl)) hsa (fun _ h => List.mem_cons_of_mem _ (List.mem_append_right _ (h))) hE.2.2.1.1 (by decide +kernel) (by decide +kernel) hl.1 dX6_needPower_7 dX6_needPower_10 dX6_needPower_11 dX6_needPower_13 dX6_needPower_16 (Nat.le_of_ble_eq_true rfl) (Nat.le_of_ble_eq_true rfl) (Nat.le_of_ble_eq_true rfl) (Nat.le_of_ble_eq_true rfl) (Nat.le_of_ble_eq_true rfl) (Nat.le_of_ble_eq_true rfl)
set_option maxHeartbeats 4000000 in
set_option maxRecDepth 100000 in
theorem ct_X6_needPower (l : Launch) (hlt : l.stackTraces = false) (G : ck_G) (hC : ck_inC G) {σ : ck_S} {post : ck_S → Prop} {px : String → ck_S → Prop} (h : sp_X6_needPower (ck_nc G) (ck_nb G) σ post px) : ck_Xv l yX6_needPower wsX6_needPower ({ frames := 6, cells := 1, slots := 6, locals := 82 } : Room) G σ [.ref (ck_ad G 0 0)] post px 1 6 := by
  intro sz
  refine vx_ofW (cc := cX6_needPower) (maxL := 1) (ret := none) (by decide) rfl ?_
  intro p e s m args below meth c s₁ B hml hno hv
  obtain ⟨rfl, rfl, hw, hE⟩ := ck_enterE hv
  have hl := lv_entry ([.ref (ck_ad G 0 0)]) (n := 1) (Nat.le_of_ble_eq_true rfl)
  rw [lg_entry_eq]
  generalize (lg_sl ([.ref (ck_ad G 0 0)]) ++ List.replicate (1 - (lg_sl ([.ref (ck_ad G 0 0)])).length) Slot.unset).toArray = ls at hl ⊢
  have hl : lv_has ls 1 [(0, .ref (ck_ad G 0 0))] := hl
  exact wk_X6_needPower_0 ⟨B.exec, B.bytes, B.returns, hml, findClass_of_methodNamed B.named, atoms_spec (ws := wsX6_needPower) B.pre, B.notSynchronized⟩ hlt hE hno hC h hw hl
def sp_X6_needIndex_9 (nc nb : Nat) (post : ck_S → Prop) (px : String → ck_S → Prop) (σ : ck_S) : Prop := px "java/lang/IndexOutOfBoundsException" σ
def sp_X6_needIndex (nc nb : Nat) (σ : ck_S) (a0 : Int32) (a1 : Int32) (post : ck_S → Prop) (px : String → ck_S → Prop) : Prop := ((a0 < 0 → (sp_X6_needIndex_9 nc nb post px σ)) ∧ (¬ a0 < 0 → (((a0 < a1 → (post σ)) ∧ (¬ a0 < a1 → (sp_X6_needIndex_9 nc nb post px σ))))))
set_option maxHeartbeats 4000000 in
set_option maxRecDepth 100000 in
theorem wk_X6_needIndex_9 {p : Program} {l : Launch} {e : Env} {s : State} {m : MethodId} {args : Array Value} {below : List Frame} {meth : Method} {c : Code} {G : ck_G} (X : ck_X p s m meth c args cX6_needIndex 2 none RX6 wsX6_needIndex) (hlt : l.stackTraces = false) (hE : ck_E (ck_A G s.heap.size) s) (hno : ∀ x ∈ c.exceptionTable.toList, False) {post : ck_S → Prop} {px : String → ck_S → Prop} {σ : ck_S} {H : Heap} {locs : List Loc} {ls : Array Slot} (h : sp_X6_needIndex_9 (ck_nc G) (ck_nb G) post px σ) (hw : ck_H G s H locs σ) (hl : lv_has ls 2 []) : W p l e ({ frames := 6, cells := 1, slots := 6, locals := 82 } : Room) s m args below meth c H locs 0 0 (vx_MQ below (va_Qv post (ck_Q G) (ck_A G s.heap.size)) (ck_XC G px (ck_A G s.heap.size)) args s 1 6 (ck_A G s.heap.size)) (F0 m 9 ls []) := by
  obtain ⟨hx, hb, hr, hml, hown, hts, hlocks⟩ := id X
  unfold sp_X6_needIndex_9 at h
  obtain ⟨sa, hsa⟩ := hE.2.1.2.1
  exact ck_throw X hlt hw hE hno h (by decide +kernel) (hts _ (List.mem_of_getElem? (i := 1) rfl)) (hts _ (List.mem_of_getElem? (i := 2) rfl)) hsa (fun _ h => List.mem_cons_of_mem _ (List.mem_append_right _ (h))) hE.2.2.1.2.1 (by decide +kernel) (by decide +kernel) hl.1 dX6_needIndex_9 dX6_needIndex_12 dX6_needIndex_13 dX6_needIndex_15 dX6_needIndex_18 (Nat.le_of_ble_eq_true rfl) (Nat.le_of_ble_eq_true rfl) (Nat.le_of_ble_eq_true rfl) (Nat.le_of_ble_eq_true rfl) (Nat.le_of_ble_eq_true rfl) (Nat.le_of_ble_eq_true rfl)
set_option maxHeartbeats 4000000 in
set_option maxRecDepth 100000 in
theorem wk_X6_needIndex_0 {p : Program} {l : Launch} {e : Env} {s : State} {m : MethodId} {args : Array Value} {below : List Frame} {meth : Method} {c : Code} {G : ck_G} (X : ck_X p s m meth c args cX6_needIndex 2 none RX6 wsX6_needIndex) (hlt : l.stackTraces = false) (hE : ck_E (ck_A G s.heap.size) s) (hno : ∀ x ∈ c.exceptionTable.toList, False) {post : ck_S → Prop} {px : String → ck_S → Prop} {σ : ck_S} {a0 : Int32} {a1 : Int32} {H : Heap} {locs : List Loc} {ls : Array Slot} (h : sp_X6_needIndex (ck_nc G) (ck_nb G) σ a0 a1 post px) (hw : ck_H G s H locs σ) (hl : lv_has ls 2 [(0, .int a0), (1, .int a1)]) : W p l e ({ frames := 6, cells := 1, slots := 6, locals := 82 } : Room) s m args below meth c H locs 0 0 (vx_MQ below (va_Qv post (ck_Q G) (ck_A G s.heap.size)) (ck_XC G px (ck_A G s.heap.size)) args s 1 6 (ck_A G s.heap.size)) (F0 m 0 ls []) := by
  obtain ⟨hx, hb, hr, hml, hown, hts, hlocks⟩ := id X
  unfold sp_X6_needIndex at h
  refine lv_iload_n hx hb dX6_needIndex_0 rfl (lv_at hl 0 rfl) ?_
  obtain ⟨hA, hB⟩ := h
  refine lv_if_lt (tgt := 9) hx hb dX6_needIndex_1 (by decide) (fun c1 => ?_) (fun c1 => ?_)
  · have h := hA c1
    exact wk_X6_needIndex_9 X hlt hE hno h hw (lv_sub hl [] rfl)
  · have h := hB c1
    refine lv_iload_n hx hb dX6_needIndex_4 rfl (lv_at hl 0 rfl) ?_
    refine lv_iload_n hx hb dX6_needIndex_5 rfl (lv_at hl 1 rfl) ?_
    obtain ⟨hA, hB⟩ := h
    refine lv_icmp_lt (tgt := 19) hx hb dX6_needIndex_6 (by decide) (fun c2 => ?_) (fun c2 => ?_)
    · have h := hA c2
      refine W.widen (k := 1) (n := 6) (Nat.le_of_ble_eq_true rfl) (Nat.le_of_ble_eq_true rfl) ?_
      exact vx_ret (ck_vret X hw h dX6_needIndex_19)
    · have h := hB c2
      exact wk_X6_needIndex_9 X hlt hE hno h hw (lv_sub hl [] rfl)
set_option maxHeartbeats 4000000 in
set_option maxRecDepth 100000 in
theorem ct_X6_needIndex (l : Launch) (hlt : l.stackTraces = false) (G : ck_G) {a0 : Int32} {a1 : Int32} {σ : ck_S} {post : ck_S → Prop} {px : String → ck_S → Prop} (h : sp_X6_needIndex (ck_nc G) (ck_nb G) σ a0 a1 post px) : ck_Xv l yX6_needIndex wsX6_needIndex ({ frames := 6, cells := 1, slots := 6, locals := 82 } : Room) G σ [.int a0, .int a1] post px 1 6 := by
  intro sz
  refine vx_ofW (cc := cX6_needIndex) (maxL := 2) (ret := none) (by decide) rfl ?_
  intro p e s m args below meth c s₁ B hml hno hv
  obtain ⟨rfl, rfl, hw, hE⟩ := ck_enterE hv
  have hl := lv_entry ([.int a0, .int a1]) (n := 2) (Nat.le_of_ble_eq_true rfl)
  rw [lg_entry_eq]
  generalize (lg_sl ([.int a0, .int a1]) ++ List.replicate (2 - (lg_sl ([.int a0, .int a1])).length) Slot.unset).toArray = ls at hl ⊢
  have hl : lv_has ls 2 [(0, .int a0), (1, .int a1)] := hl
  exact wk_X6_needIndex_0 ⟨B.exec, B.bytes, B.returns, hml, findClass_of_methodNamed B.named, atoms_spec (ws := wsX6_needIndex) B.pre, B.notSynchronized⟩ hlt hE hno h hw hl
def sp_X6_needChip (nc nb : Nat) (σ : ck_S) (a0 : Int32) (post : ck_S → Prop) (px : String → ck_S → Prop) : Prop := sp_X6_needIndex nc nb σ a0 (nI nc) (fun σ1 => post σ1) px
set_option maxHeartbeats 4000000 in
set_option maxRecDepth 100000 in
theorem wk_X6_needChip_0 {p : Program} {l : Launch} {e : Env} {s : State} {m : MethodId} {args : Array Value} {below : List Frame} {meth : Method} {c : Code} {G : ck_G} (X : ck_X p s m meth c args cX6_needChip 2 none RX6 wsX6_needChip) (hlt : l.stackTraces = false) (hE : ck_E (ck_A G s.heap.size) s) (hno : ∀ x ∈ c.exceptionTable.toList, False) (hC : ck_inC G) {post : ck_S → Prop} {px : String → ck_S → Prop} {σ : ck_S} {a0 : Int32} {H : Heap} {locs : List Loc} {ls : Array Slot} (h : sp_X6_needChip (ck_nc G) (ck_nb G) σ a0 post px) (hw : ck_H G s H locs σ) (hl : lv_has ls 2 [(0, .ref (ck_ad G 0 0)), (1, .int a0)]) : W p l e ({ frames := 7, cells := 1, slots := 6, locals := 103 } : Room) s m args below meth c H locs 0 0 (vx_MQ below (va_Qv post (ck_Q G) (ck_A G s.heap.size)) (ck_XC G px (ck_A G s.heap.size)) args s 1 6 (ck_A G s.heap.size)) (F0 m 0 ls []) := by
  obtain ⟨hx, hb, hr, hml, hown, hts, hlocks⟩ := id X
  have inX6 : ∀ w ∈ wsX60, w ∈ wsX6_needChip := fun _ h => List.mem_cons_of_mem _ (List.mem_append_left _ (List.mem_append_right _ (h)))
  unfold sp_X6_needChip at h
  refine lv_iload_n hx hb dX6_needChip_0 rfl (lv_at hl 1 rfl) ?_
  refine lv_aload_n hx hb dX6_needChip_1 rfl (lv_at hl 0 rfl) ?_
  refine ck_get hx hb hts inX6 hown hw (hC.1 0 (by decide)) rfl rfl 0 (by decide) (hts _ (List.mem_of_getElem? (i := 1) rfl)) rfl dX6_needChip_2 ?_
  refine ck_alen hx hb hw (hC.1 1 (by decide)) rfl 4 rfl rfl dX6_needChip_5 ?_
  refine ck_xcallSv (rest := []) ⟨hx, hb, hml, hown, hts⟩ hw hE (ct_X6_needIndex l hlt G h) (va_cwS 2 hts gX6_needChip_X6_needIndex rfl rfl rfl (by decide +kernel) ⟨(Nat.le_of_ble_eq_true rfl), (Nat.le_of_ble_eq_true rfl)⟩) rfl hl.1 rfl (Nat.le_of_ble_eq_true rfl) dX6_needChip_6 ⟨(Nat.le_of_ble_eq_true rfl), (Nat.le_of_ble_eq_true rfl)⟩ ?_ ?_
  · exact fun E ce q9 τ H locs hp hw h1 h2 h3 => ck_xout hno hlocks hw hp h1 h2 h3 (Nat.le_of_ble_eq_true rfl) (Nat.le_of_ble_eq_true rfl)
  · intro σ1 H locs h hw
    exact vx_ret (ck_vret X hw h dX6_needChip_9)
set_option maxHeartbeats 4000000 in
set_option maxRecDepth 100000 in
theorem ct_X6_needChip (l : Launch) (hlt : l.stackTraces = false) (G : ck_G) (hC : ck_inC G) {a0 : Int32} {σ : ck_S} {post : ck_S → Prop} {px : String → ck_S → Prop} (h : sp_X6_needChip (ck_nc G) (ck_nb G) σ a0 post px) : ck_Xv l yX6_needChip wsX6_needChip ({ frames := 7, cells := 1, slots := 6, locals := 103 } : Room) G σ [.ref (ck_ad G 0 0), .int a0] post px 1 6 := by
  intro sz
  refine vx_ofW (cc := cX6_needChip) (maxL := 2) (ret := none) (by decide) rfl ?_
  intro p e s m args below meth c s₁ B hml hno hv
  obtain ⟨rfl, rfl, hw, hE⟩ := ck_enterE hv
  have hl := lv_entry ([.ref (ck_ad G 0 0), .int a0]) (n := 2) (Nat.le_of_ble_eq_true rfl)
  rw [lg_entry_eq]
  generalize (lg_sl ([.ref (ck_ad G 0 0), .int a0]) ++ List.replicate (2 - (lg_sl ([.ref (ck_ad G 0 0), .int a0])).length) Slot.unset).toArray = ls at hl ⊢
  have hl : lv_has ls 2 [(0, .ref (ck_ad G 0 0)), (1, .int a0)] := hl
  exact wk_X6_needChip_0 ⟨B.exec, B.bytes, B.returns, hml, findClass_of_methodNamed B.named, atoms_spec (ws := wsX6_needChip) B.pre, B.notSynchronized⟩ hlt hE hno hC h hw hl
def sp_X6_needWhole_10 (nc nb : Nat) (post : ck_S → Prop) (px : String → ck_S → Prop) (σ : ck_S) : Prop := px "java/lang/IllegalArgumentException" σ
def sp_X6_needWhole (nc nb : Nat) (σ : ck_S) (a0 : Int32) (a1 : Int32) (a2 : Int32) (post : ck_S → Prop) (px : String → ck_S → Prop) : Prop := ((a0 < a1 → (sp_X6_needWhole_10 nc nb post px σ)) ∧ (¬ a0 < a1 → (((a0 ≤ a2 → (post σ)) ∧ (¬ a0 ≤ a2 → (sp_X6_needWhole_10 nc nb post px σ))))))
set_option maxHeartbeats 4000000 in
set_option maxRecDepth 100000 in
theorem wk_X6_needWhole_10 {p : Program} {l : Launch} {e : Env} {s : State} {m : MethodId} {args : Array Value} {below : List Frame} {meth : Method} {c : Code} {G : ck_G} (X : ck_X p s m meth c args cX6_needWhole 3 none RX6 wsX6_needWhole) (hlt : l.stackTraces = false) (hE : ck_E (ck_A G s.heap.size) s) (hno : ∀ x ∈ c.exceptionTable.toList, False) {post : ck_S → Prop} {px : String → ck_S → Prop} {σ : ck_S} {H : Heap} {locs : List Loc} {ls : Array Slot} (h : sp_X6_needWhole_10 (ck_nc G) (ck_nb G) post px σ) (hw : ck_H G s H locs σ) (hl : lv_has ls 3 []) : W p l e ({ frames := 6, cells := 1, slots := 6, locals := 82 } : Room) s m args below meth c H locs 0 0 (vx_MQ below (va_Qv post (ck_Q G) (ck_A G s.heap.size)) (ck_XC G px (ck_A G s.heap.size)) args s 1 6 (ck_A G s.heap.size)) (F0 m 10 ls []) := by
  obtain ⟨hx, hb, hr, hml, hown, hts, hlocks⟩ := id X
  unfold sp_X6_needWhole_10 at h
  obtain ⟨sa, hsa⟩ := hE.2.1.2.2.1
  exact ck_throw X hlt hw hE hno h (by decide +kernel) (hts _ (List.mem_of_getElem? (i := 1) rfl)) (hts _ (List.mem_of_getElem? (i := 2) rfl)) hsa (fun _ h => List.mem_cons_of_mem _ (List.mem_append_right _ (h))) hE.2.2.1.2.2.1 (by decide +kernel) (by decide +kernel) hl.1 dX6_needWhole_10 dX6_needWhole_13 dX6_needWhole_14 dX6_needWhole_16 dX6_needWhole_19 (Nat.le_of_ble_eq_true rfl) (Nat.le_of_ble_eq_true rfl) (Nat.le_of_ble_eq_true rfl) (Nat.le_of_ble_eq_true rfl) (Nat.le_of_ble_eq_true rfl) (Nat.le_of_ble_eq_true rfl)
set_option maxHeartbeats 4000000 in
set_option maxRecDepth 100000 in
theorem wk_X6_needWhole_0 {p : Program} {l : Launch} {e : Env} {s : State} {m : MethodId} {args : Array Value} {below : List Frame} {meth : Method} {c : Code} {G : ck_G} (X : ck_X p s m meth c args cX6_needWhole 3 none RX6 wsX6_needWhole) (hlt : l.stackTraces = false) (hE : ck_E (ck_A G s.heap.size) s) (hno : ∀ x ∈ c.exceptionTable.toList, False) {post : ck_S → Prop} {px : String → ck_S → Prop} {σ : ck_S} {a0 : Int32} {a1 : Int32} {a2 : Int32} {H : Heap} {locs : List Loc} {ls : Array Slot} (h : sp_X6_needWhole (ck_nc G) (ck_nb G) σ a0 a1 a2 post px) (hw : ck_H G s H locs σ) (hl : lv_has ls 3 [(0, .int a0), (1, .int a1), (2, .int a2)]) : W p l e ({ frames := 6, cells := 1, slots := 6, locals := 82 } : Room) s m args below meth c H locs 0 0 (vx_MQ below (va_Qv post (ck_Q G) (ck_A G s.heap.size)) (ck_XC G px (ck_A G s.heap.size)) args s 1 6 (ck_A G s.heap.size)) (F0 m 0 ls []) := by
  obtain ⟨hx, hb, hr, hml, hown, hts, hlocks⟩ := id X
  unfold sp_X6_needWhole at h
  refine lv_iload_n hx hb dX6_needWhole_0 rfl (lv_at hl 0 rfl) ?_
  refine lv_iload_n hx hb dX6_needWhole_1 rfl (lv_at hl 1 rfl) ?_
  obtain ⟨hA, hB⟩ := h
  refine lv_icmp_lt (tgt := 10) hx hb dX6_needWhole_2 (by decide) (fun c1 => ?_) (fun c1 => ?_)
  · have h := hA c1
    exact wk_X6_needWhole_10 X hlt hE hno h hw (lv_sub hl [] rfl)
  · have h := hB c1
    refine lv_iload_n hx hb dX6_needWhole_5 rfl (lv_at hl 0 rfl) ?_
    refine lv_iload_n hx hb dX6_needWhole_6 rfl (lv_at hl 2 rfl) ?_
    obtain ⟨hA, hB⟩ := h
    refine lv_icmp_le (tgt := 20) hx hb dX6_needWhole_7 (by decide) (fun c2 => ?_) (fun c2 => ?_)
    · have h := hA c2
      refine W.widen (k := 1) (n := 6) (Nat.le_of_ble_eq_true rfl) (Nat.le_of_ble_eq_true rfl) ?_
      exact vx_ret (ck_vret X hw h dX6_needWhole_20)
    · have h := hB c2
      exact wk_X6_needWhole_10 X hlt hE hno h hw (lv_sub hl [] rfl)
set_option maxHeartbeats 4000000 in
set_option maxRecDepth 100000 in
theorem ct_X6_needWhole (l : Launch) (hlt : l.stackTraces = false) (G : ck_G) {a0 : Int32} {a1 : Int32} {a2 : Int32} {σ : ck_S} {post : ck_S → Prop} {px : String → ck_S → Prop} (h : sp_X6_needWhole (ck_nc G) (ck_nb G) σ a0 a1 a2 post px) : ck_Xv l yX6_needWhole wsX6_needWhole ({ frames := 6, cells := 1, slots := 6, locals := 82 } : Room) G σ [.int a0, .int a1, .int a2] post px 1 6 := by
  intro sz
  refine vx_ofW (cc := cX6_needWhole) (maxL := 3) (ret := none) (by decide) rfl ?_
  intro p e s m args below meth c s₁ B hml hno hv
  obtain ⟨rfl, rfl, hw, hE⟩ := ck_enterE hv
  have hl := lv_entry ([.int a0, .int a1, .int a2]) (n := 3) (Nat.le_of_ble_eq_true rfl)
  rw [lg_entry_eq]
  generalize (lg_sl ([.int a0, .int a1, .int a2]) ++ List.replicate (3 - (lg_sl ([.int a0, .int a1, .int a2])).length) Slot.unset).toArray = ls at hl ⊢
  have hl : lv_has ls 3 [(0, .int a0), (1, .int a1), (2, .int a2)] := hl
  exact wk_X6_needWhole_0 ⟨B.exec, B.bytes, B.returns, hml, findClass_of_methodNamed B.named, atoms_spec (ws := wsX6_needWhole) B.pre, B.notSynchronized⟩ hlt hE hno h hw hl
def sp_X6_needAmount_35 (nc nb : Nat) (post : ck_S → Prop) (px : String → ck_S → Prop) (σ : ck_S) (s0 : Int32) : Prop := ((¬ s0 = 0 → (post σ)) ∧ (s0 = 0 → (px "java/lang/IllegalArgumentException" σ)))
def sp_X6_needAmount_34 (nc nb : Nat) (post : ck_S → Prop) (px : String → ck_S → Prop) (σ : ck_S) : Prop := sp_X6_needAmount_35 nc nb post px σ 0
def sp_X6_needAmount (nc nb : Nat) (σ : ck_S) (a0 : UInt64) (a1 : Int32) (a2 : Int32) (post : ck_S → Prop) (px : String → ck_S → Prop) : Prop := (((Op.cmpValue (FP.dcmp a0 (FP.i2d a1)) .l) < 0 → (sp_X6_needAmount_34 nc nb post px σ)) ∧ (¬ (Op.cmpValue (FP.dcmp a0 (FP.i2d a1)) .l) < 0 → (((0 < (Op.cmpValue (FP.dcmp a0 (FP.i2d a2)) .g) → (sp_X6_needAmount_34 nc nb post px σ)) ∧ (¬ 0 < (Op.cmpValue (FP.dcmp a0 (FP.i2d a2)) .g) → ((vf_n64 (FP.dmul a0 4620693217682128896)) ∧ (vf_n64 (FP.dmul a0 4620693217682128896)) ∧ ((¬ (Op.cmpValue (FP.dcmp (FP.dmul a0 4620693217682128896) (FP.i2d (FP.d2i (FP.dmul a0 4620693217682128896)))) .l) = 0 → (sp_X6_needAmount_34 nc nb post px σ)) ∧ ((Op.cmpValue (FP.dcmp (FP.dmul a0 4620693217682128896) (FP.i2d (FP.d2i (FP.dmul a0 4620693217682128896)))) .l) = 0 → (sp_X6_needAmount_35 nc nb post px σ 1)))))))))
set_option maxHeartbeats 4000000 in
set_option maxRecDepth 100000 in
theorem wk_X6_needAmount_35 {p : Program} {l : Launch} {e : Env} {s : State} {m : MethodId} {args : Array Value} {below : List Frame} {meth : Method} {c : Code} {G : ck_G} (X : ck_X p s m meth c args cX6_needAmount 5 none RX6 wsX6_needAmount) (hlt : l.stackTraces = false) (hE : ck_E (ck_A G s.heap.size) s) (hno : ∀ x ∈ c.exceptionTable.toList, False) {post : ck_S → Prop} {px : String → ck_S → Prop} {σ : ck_S} {s0 : Int32} {H : Heap} {locs : List Loc} {ls : Array Slot} (h : sp_X6_needAmount_35 (ck_nc G) (ck_nb G) post px σ s0) (hw : ck_H G s H locs σ) (hl : lv_has ls 5 []) : W p l e ({ frames := 6, cells := 1, slots := 6, locals := 82 } : Room) s m args below meth c H locs 0 0 (vx_MQ below (va_Qv post (ck_Q G) (ck_A G s.heap.size)) (ck_XC G px (ck_A G s.heap.size)) args s 1 6 (ck_A G s.heap.size)) (F0 m 35 ls [.int s0]) := by
  obtain ⟨hx, hb, hr, hml, hown, hts, hlocks⟩ := id X
  unfold sp_X6_needAmount_35 at h
  refine lv_istore (lv' := [(4, .int s0)]) hx hb dX6_needAmount_35 hl (by decide) rfl (fun ls hl => ?_)
  refine lv_iload hx hb dX6_needAmount_37 (lv_at hl 0 rfl) ?_
  obtain ⟨hA, hB⟩ := h
  refine lv_if_ne (tgt := 52) hx hb dX6_needAmount_39 (by decide) (fun c1 => ?_) (fun c1 => ?_)
  · have h := hA c1
    refine W.widen (k := 1) (n := 6) (Nat.le_of_ble_eq_true rfl) (Nat.le_of_ble_eq_true rfl) ?_
    exact vx_ret (ck_vret X hw h dX6_needAmount_52)
  · have h := hB c1
    obtain ⟨sa, hsa⟩ := hE.2.1.2.2.2
    exact ck_throw X hlt hw hE hno h (by decide +kernel) (hts _ (List.mem_of_getElem? (i := 1) rfl)) (hts _ (List.mem_of_getElem? (i := 2) rfl)) hsa (fun _ h => List.mem_cons_of_mem _ (List.mem_append_right _ (h))) hE.2.2.1.2.2.1 (by decide +kernel) (by decide +kernel) hl.1 dX6_needAmount_42 dX6_needAmount_45 dX6_needAmount_46 dX6_needAmount_48 dX6_needAmount_51 (Nat.le_of_ble_eq_true rfl) (Nat.le_of_ble_eq_true rfl) (Nat.le_of_ble_eq_true rfl) (Nat.le_of_ble_eq_true rfl) (Nat.le_of_ble_eq_true rfl) (Nat.le_of_ble_eq_true rfl)
set_option maxHeartbeats 4000000 in
set_option maxRecDepth 100000 in
theorem wk_X6_needAmount_34 {p : Program} {l : Launch} {e : Env} {s : State} {m : MethodId} {args : Array Value} {below : List Frame} {meth : Method} {c : Code} {G : ck_G} (X : ck_X p s m meth c args cX6_needAmount 5 none RX6 wsX6_needAmount) (hlt : l.stackTraces = false) (hE : ck_E (ck_A G s.heap.size) s) (hno : ∀ x ∈ c.exceptionTable.toList, False) {post : ck_S → Prop} {px : String → ck_S → Prop} {σ : ck_S} {H : Heap} {locs : List Loc} {ls : Array Slot} (h : sp_X6_needAmount_34 (ck_nc G) (ck_nb G) post px σ) (hw : ck_H G s H locs σ) (hl : lv_has ls 5 []) : W p l e ({ frames := 6, cells := 1, slots := 6, locals := 82 } : Room) s m args below meth c H locs 0 0 (vx_MQ below (va_Qv post (ck_Q G) (ck_A G s.heap.size)) (ck_XC G px (ck_A G s.heap.size)) args s 1 6 (ck_A G s.heap.size)) (F0 m 34 ls []) := by
  obtain ⟨hx, hb, hr, hml, hown, hts, hlocks⟩ := id X
  unfold sp_X6_needAmount_34 at h
  refine lv_iconst (v := 0) hx hb dX6_needAmount_34 (by decide) ?_
  exact wk_X6_needAmount_35 X hlt hE hno h hw (lv_sub hl [] rfl)
set_option maxHeartbeats 4000000 in
set_option maxRecDepth 100000 in
theorem wk_X6_needAmount_0 {p : Program} {l : Launch} {e : Env} {s : State} {m : MethodId} {args : Array Value} {below : List Frame} {meth : Method} {c : Code} {G : ck_G} (X : ck_X p s m meth c args cX6_needAmount 5 none RX6 wsX6_needAmount) (hlt : l.stackTraces = false) (hE : ck_E (ck_A G s.heap.size) s) (hno : ∀ x ∈ c.exceptionTable.toList, False) {post : ck_S → Prop} {px : String → ck_S → Prop} {σ : ck_S} {a0 : UInt64} {a1 : Int32} {a2 : Int32} {H : Heap} {locs : List Loc} {ls : Array Slot} (h : sp_X6_needAmount (ck_nc G) (ck_nb G) σ a0 a1 a2 post px) (hw : ck_H G s H locs σ) (hl : lv_has ls 5 [(0, .double a0), (2, .int a1), (3, .int a2)]) : W p l e ({ frames := 6, cells := 1, slots := 6, locals := 82 } : Room) s m args below meth c H locs 0 0 (vx_MQ below (va_Qv post (ck_Q G) (ck_A G s.heap.size)) (ck_XC G px (ck_A G s.heap.size)) args s 1 6 (ck_A G s.heap.size)) (F0 m 0 ls []) := by
  obtain ⟨hx, hb, hr, hml, hown, hts, hlocks⟩ := id X
  unfold sp_X6_needAmount at h
  refine lv_dload_n hx hb dX6_needAmount_0 rfl (lv_at hl 0 rfl) ?_
  refine lv_iload_n hx hb dX6_needAmount_1 rfl (lv_at hl 1 rfl) ?_
  refine lv_i2d hx hb dX6_needAmount_2 ?_
  refine lv_dcmp hx hb dX6_needAmount_3 ?_
  obtain ⟨hA, hB⟩ := h
  refine lv_if_lt (tgt := 34) hx hb dX6_needAmount_4 (by decide) (fun c1 => ?_) (fun c1 => ?_)
  · have h := hA c1
    exact wk_X6_needAmount_34 X hlt hE hno h hw (lv_sub hl [] rfl)
  · have h := hB c1
    refine lv_dload_n hx hb dX6_needAmount_7 rfl (lv_at hl 0 rfl) ?_
    refine lv_iload_n hx hb dX6_needAmount_8 rfl (lv_at hl 2 rfl) ?_
    refine lv_i2d hx hb dX6_needAmount_9 ?_
    refine lv_dcmp hx hb dX6_needAmount_10 ?_
    obtain ⟨hA, hB⟩ := h
    refine lv_if_gt (tgt := 34) hx hb dX6_needAmount_11 (by decide) (fun c2 => ?_) (fun c2 => ?_)
    · have h := hA c2
      exact wk_X6_needAmount_34 X hlt hE hno h hw (lv_sub hl [] rfl)
    · have h := hB c2
      refine lv_dload_n hx hb dX6_needAmount_14 rfl (lv_at hl 0 rfl) ?_
      refine lv_ldc2d hx hb hown (hts _ (List.mem_of_getElem? (i := 3) rfl)) dX6_needAmount_15 ?_
      obtain ⟨n3, h⟩ := h
      refine lv_dmul hx hb dX6_needAmount_18 n3 ?_
      refine lv_dload_n hx hb dX6_needAmount_19 rfl (lv_at hl 0 rfl) ?_
      refine lv_ldc2d hx hb hown (hts _ (List.mem_of_getElem? (i := 3) rfl)) dX6_needAmount_20 ?_
      obtain ⟨n4, h⟩ := h
      refine lv_dmul hx hb dX6_needAmount_23 n4 ?_
      refine lv_d2i hx hb dX6_needAmount_24 ?_
      refine lv_i2d hx hb dX6_needAmount_25 ?_
      refine lv_dcmp hx hb dX6_needAmount_26 ?_
      obtain ⟨hA, hB⟩ := h
      refine lv_if_ne (tgt := 34) hx hb dX6_needAmount_27 (by decide) (fun c5 => ?_) (fun c5 => ?_)
      · have h := hA c5
        exact wk_X6_needAmount_34 X hlt hE hno h hw (lv_sub hl [] rfl)
      · have h := hB c5
        refine lv_iconst (v := 1) hx hb dX6_needAmount_30 (by decide) ?_
        refine lv_goto (tgt := 35) hx hb dX6_needAmount_31 (by decide) ?_
        exact wk_X6_needAmount_35 X hlt hE hno h hw (lv_sub hl [] rfl)
set_option maxHeartbeats 4000000 in
set_option maxRecDepth 100000 in
theorem ct_X6_needAmount (l : Launch) (hlt : l.stackTraces = false) (G : ck_G) {a0 : UInt64} {a1 : Int32} {a2 : Int32} {σ : ck_S} {post : ck_S → Prop} {px : String → ck_S → Prop} (h : sp_X6_needAmount (ck_nc G) (ck_nb G) σ a0 a1 a2 post px) : ck_Xv l yX6_needAmount wsX6_needAmount ({ frames := 6, cells := 1, slots := 6, locals := 82 } : Room) G σ [.double a0, .int a1, .int a2] post px 1 6 := by
  intro sz
  refine vx_ofW (cc := cX6_needAmount) (maxL := 5) (ret := none) (by decide) rfl ?_
  intro p e s m args below meth c s₁ B hml hno hv
  obtain ⟨rfl, rfl, hw, hE⟩ := ck_enterE hv
  have hl := lv_entry ([.double a0, .int a1, .int a2]) (n := 5) (Nat.le_of_ble_eq_true rfl)
  rw [lg_entry_eq]
  generalize (lg_sl ([.double a0, .int a1, .int a2]) ++ List.replicate (5 - (lg_sl ([.double a0, .int a1, .int a2])).length) Slot.unset).toArray = ls at hl ⊢
  have hl : lv_has ls 5 [(0, .double a0), (2, .int a1), (3, .int a2)] := hl
  exact wk_X6_needAmount_0 ⟨B.exec, B.bytes, B.returns, hml, findClass_of_methodNamed B.named, atoms_spec (ws := wsX6_needAmount) B.pre, B.notSynchronized⟩ hlt hE hno h hw hl
def sp_X6_reply (nc nb : Nat) (σ : ck_S) (a0 : Int32) (a1 : Int64) (a2 : Int64) (post : Int32 → ck_S → Prop) (px : String → ck_S → Prop) : Prop := sp_X6_needChip nc nb σ a0 (fun σ1 => sp_X6_needPower nc nb σ1 (fun σ3 => sp_X2_ofReply nc nb σ3 a1 a2 (fun x_6 σ5 => (((lg_cmp (a2 &&& 65535) (x_6.toInt64)) = 0 → ((vp_in a0 nc) ∧ ∀ j9, j9 = Int32.toNatClampNeg a0 → sp_X3_take nc nb σ5 j9 a1 a2 (ck_gd σ5 0 0 12) (fun σ10 => (ck_b 1 ∧ post 1 σ10)))) ∧ (¬ (lg_cmp (a2 &&& 65535) (x_6.toInt64)) = 0 → ((ck_b 0 ∧ post 0 σ5)))))) px) px
set_option maxHeartbeats 4000000 in
set_option maxRecDepth 100000 in
theorem wk_X6_reply_0 {p : Program} {l : Launch} {e : Env} {s : State} {m : MethodId} {args : Array Value} {below : List Frame} {meth : Method} {c : Code} {G : ck_G} (X : ck_X p s m meth c args cX6_reply 6 (some .boolean) RX6 wsX6_reply) (hlt : l.stackTraces = false) (hE : ck_E (ck_A G s.heap.size) s) (hno : ∀ x ∈ c.exceptionTable.toList, False) (hC : ck_inC G) {post : Int32 → ck_S → Prop} {px : String → ck_S → Prop} {σ : ck_S} {a0 : Int32} {a1 : Int64} {a2 : Int64} {H : Heap} {locs : List Loc} {ls : Array Slot} (h : sp_X6_reply (ck_nc G) (ck_nb G) σ a0 a1 a2 post px) (hw : ck_H G s H locs σ) (hl : lv_has ls 6 [(0, .ref (ck_ad G 0 0)), (1, .int a0), (2, .long a1), (4, .long a2)]) : W p l e ({ frames := 8, cells := 2, slots := 12, locals := 124 } : Room) s m args below meth c H locs 0 0 (vx_MQ below (va_Qi post (ck_Q G) (ck_A G s.heap.size)) (ck_XC G px (ck_A G s.heap.size)) args s 2 12 (ck_A G s.heap.size)) (F0 m 0 ls []) := by
  obtain ⟨hx, hb, hr, hml, hown, hts, hlocks⟩ := id X
  have inX6 : ∀ w ∈ wsX60, w ∈ wsX6_reply := fun _ h => List.mem_cons_of_mem _ (List.mem_append_left _ (List.mem_append_left _ (List.mem_append_left _ (List.mem_append_right _ (h)))))
  unfold sp_X6_reply at h
  refine lv_aload_n hx hb dX6_reply_0 rfl (lv_at hl 0 rfl) ?_
  refine lv_iload_n hx hb dX6_reply_1 rfl (lv_at hl 1 rfl) ?_
  refine ck_xcallVv (rest := []) ⟨hx, hb, hml, hown, hts⟩ hw hE (hC.1 0 (by decide)) rfl rfl (ct_X6_needChip l hlt G hC h) (cwV 1 hts gX6_reply_X6_needChip rfl rfl rfl (by decide +kernel) ⟨(Nat.le_of_ble_eq_true rfl), (Nat.le_of_ble_eq_true rfl)⟩) rfl hl.1 rfl (Nat.le_of_ble_eq_true rfl) dX6_reply_2 ⟨(Nat.le_of_ble_eq_true rfl), (Nat.le_of_ble_eq_true rfl)⟩ ?_ ?_
  · exact fun E ce q9 τ H locs hp hw h1 h2 h3 => ck_xout hno hlocks hw hp h1 h2 h3 (Nat.le_of_ble_eq_true rfl) (Nat.le_of_ble_eq_true rfl)
  · intro σ1 H locs h hw
    refine lv_aload_n hx hb dX6_reply_5 rfl (lv_at hl 0 rfl) ?_
    refine ck_xcallVv (rest := []) ⟨hx, hb, hml, hown, hts⟩ hw hE (hC.1 0 (by decide)) rfl rfl (ct_X6_needPower l hlt G hC h) (cwV 0 hts gX6_reply_X6_needPower rfl rfl rfl (by decide +kernel) ⟨(Nat.le_of_ble_eq_true rfl), (Nat.le_of_ble_eq_true rfl)⟩) rfl hl.1 rfl (Nat.le_of_ble_eq_true rfl) dX6_reply_6 ⟨(Nat.le_of_ble_eq_true rfl), (Nat.le_of_ble_eq_true rfl)⟩ ?_ ?_
    · exact fun E ce q9 τ H locs hp hw h1 h2 h3 => ck_xout hno hlocks hw hp h1 h2 h3 (Nat.le_of_ble_eq_true rfl) (Nat.le_of_ble_eq_true rfl)
    · intro σ3 H locs h hw
      refine lv_lload hx hb dX6_reply_9 (lv_at hl 3 rfl) ?_
      refine lv_ldc2 hx hb hown (hts _ (List.mem_of_getElem? (i := 1) rfl)) dX6_reply_11 ?_
      refine lv_land hx hb dX6_reply_14 ?_
      refine lv_lload_n hx hb dX6_reply_15 rfl (lv_at hl 2 rfl) ?_
      refine lv_lload hx hb dX6_reply_16 (lv_at hl 3 rfl) ?_
      refine ck_callSi (rest := [.long (a2 &&& 65535)]) ⟨hx, hb, hml, hown, hts⟩ hw (ct_X2_ofReply l G h) (va_cwS 2 hts gX6_reply_X2_ofReply rfl rfl rfl (by decide +kernel) ⟨(Nat.le_of_ble_eq_true rfl), (Nat.le_of_ble_eq_true rfl)⟩) rfl hl.1 rfl (Nat.le_of_ble_eq_true rfl) dX6_reply_18 ⟨(Nat.le_of_ble_eq_true rfl), (Nat.le_of_ble_eq_true rfl)⟩ (fun x_6 σ5 H locs h hw => ?_)
      refine lv_i2l hx hb dX6_reply_21 rfl ?_
      refine W.lcmp hx hb dX6_reply_22 ?_
      obtain ⟨hA, hB⟩ := h
      refine lv_if_eq (tgt := 28) hx hb dX6_reply_23 (by decide) (fun c7 => ?_) (fun c7 => ?_)
      · have h := hA c7
        refine lv_aload_n hx hb dX6_reply_28 rfl (lv_at hl 0 rfl) ?_
        refine ck_get hx hb hts inX6 hown hw (hC.1 0 (by decide)) rfl rfl 0 (by decide) (hts _ (List.mem_of_getElem? (i := 2) rfl)) rfl dX6_reply_29 ?_
        refine lv_iload_n hx hb dX6_reply_32 rfl (lv_at hl 1 rfl) ?_
        obtain ⟨n8, h⟩ := h
        refine ck_aald hx hb hw (hC.1 1 (by decide)) n8 dX6_reply_33 ?_
        obtain ⟨j9, ej9⟩ : ∃ z : Nat, z = Int32.toNatClampNeg a0 := ⟨_, rfl⟩
        have hj9 : j9 < ck_nc G := by rw [ej9]; exact ck_in n8
        rw [← ej9]
        have h := h j9 ej9
        refine lv_lload_n hx hb dX6_reply_34 rfl (lv_at hl 2 rfl) ?_
        refine lv_lload hx hb dX6_reply_35 (lv_at hl 3 rfl) ?_
        refine lv_aload_n hx hb dX6_reply_37 rfl (lv_at hl 0 rfl) ?_
        refine ck_get hx hb hts inX6 hown hw (hC.1 0 (by decide)) rfl rfl 12 (by decide) (hts _ (List.mem_of_getElem? (i := 3) rfl)) rfl dX6_reply_38 ?_
        refine ck_callVv (rest := []) ⟨hx, hb, hml, hown, hts⟩ hw (hC.2 30 _ (by decide) (by decide) hj9) rfl rfl (ct_X3_take l G hC hj9 h) (cwV 3 hts gX6_reply_X3_take rfl rfl rfl (by decide +kernel) ⟨(Nat.le_of_ble_eq_true rfl), (Nat.le_of_ble_eq_true rfl)⟩) rfl hl.1 rfl (Nat.le_of_ble_eq_true rfl) dX6_reply_41 ⟨(Nat.le_of_ble_eq_true rfl), (Nat.le_of_ble_eq_true rfl)⟩ (fun σ10 H locs h hw => ?_)
        refine lv_iconst (v := 1) hx hb dX6_reply_44 (by decide) ?_
        exact vx_ret (ck_zret X hw h dX6_reply_45)
      · have h := hB c7
        refine lv_iconst (v := 0) hx hb dX6_reply_26 (by decide) ?_
        exact vx_ret (ck_zret X hw h dX6_reply_27)
set_option maxHeartbeats 4000000 in
set_option maxRecDepth 100000 in
theorem ct_X6_reply (l : Launch) (hlt : l.stackTraces = false) (G : ck_G) (hC : ck_inC G) {a0 : Int32} {a1 : Int64} {a2 : Int64} {σ : ck_S} {post : Int32 → ck_S → Prop} {px : String → ck_S → Prop} (h : sp_X6_reply (ck_nc G) (ck_nb G) σ a0 a1 a2 post px) : ck_Xi l yX6_reply wsX6_reply ({ frames := 8, cells := 2, slots := 12, locals := 124 } : Room) G σ [.ref (ck_ad G 0 0), .int a0, .long a1, .long a2] post px 2 12 := by
  intro sz
  refine vx_ofW (cc := cX6_reply) (maxL := 6) (ret := (some .boolean)) (by decide) rfl ?_
  intro p e s m args below meth c s₁ B hml hno hv
  obtain ⟨rfl, rfl, hw, hE⟩ := ck_enterE hv
  have hl := lv_entry ([.ref (ck_ad G 0 0), .int a0, .long a1, .long a2]) (n := 6) (Nat.le_of_ble_eq_true rfl)
  rw [lg_entry_eq]
  generalize (lg_sl ([.ref (ck_ad G 0 0), .int a0, .long a1, .long a2]) ++ List.replicate (6 - (lg_sl ([.ref (ck_ad G 0 0), .int a0, .long a1, .long a2])).length) Slot.unset).toArray = ls at hl ⊢
  have hl : lv_has ls 6 [(0, .ref (ck_ad G 0 0)), (1, .int a0), (2, .long a1), (4, .long a2)] := hl
  exact wk_X6_reply_0 ⟨B.exec, B.bytes, B.returns, hml, findClass_of_methodNamed B.named, atoms_spec (ws := wsX6_reply) B.pre, B.notSynchronized⟩ hlt hE hno hC h hw hl
def sp_X6_current (nc nb : Nat) (σ : ck_S) (a0 : UInt64) (post : ck_S → Prop) (px : String → ck_S → Prop) : Prop := sp_X6_needAmount nc nb σ a0 (-2000) 2000 (fun σ1 => sp_X6_needPower nc nb σ1 (fun σ3 => ∀ σ5, σ5 = ck_ud σ3 0 0 12 a0 → post σ5) px) px
set_option maxHeartbeats 4000000 in
set_option maxRecDepth 100000 in
theorem wk_X6_current_0 {p : Program} {l : Launch} {e : Env} {s : State} {m : MethodId} {args : Array Value} {below : List Frame} {meth : Method} {c : Code} {G : ck_G} (X : ck_X p s m meth c args cX6_current 3 none RX6 wsX6_current) (hlt : l.stackTraces = false) (hE : ck_E (ck_A G s.heap.size) s) (hno : ∀ x ∈ c.exceptionTable.toList, False) (hC : ck_inC G) {post : ck_S → Prop} {px : String → ck_S → Prop} {σ : ck_S} {a0 : UInt64} {H : Heap} {locs : List Loc} {ls : Array Slot} (h : sp_X6_current (ck_nc G) (ck_nb G) σ a0 post px) (hw : ck_H G s H locs σ) (hl : lv_has ls 3 [(0, .ref (ck_ad G 0 0)), (1, .double a0)]) : W p l e ({ frames := 7, cells := 2, slots := 12, locals := 106 } : Room) s m args below meth c H locs 0 0 (vx_MQ below (va_Qv post (ck_Q G) (ck_A G s.heap.size)) (ck_XC G px (ck_A G s.heap.size)) args s 2 12 (ck_A G s.heap.size)) (F0 m 0 ls []) := by
  obtain ⟨hx, hb, hr, hml, hown, hts, hlocks⟩ := id X
  have inX6 : ∀ w ∈ wsX60, w ∈ wsX6_current := fun _ h => List.mem_cons_of_mem _ (List.mem_append_left _ (List.mem_append_left _ (List.mem_append_right _ (h))))
  unfold sp_X6_current at h
  refine lv_dload_n hx hb dX6_current_0 rfl (lv_at hl 1 rfl) ?_
  refine lv_sipush (v := (-2000)) hx hb dX6_current_1 (by decide) ?_
  refine lv_sipush (v := 2000) hx hb dX6_current_4 (by decide) ?_
  refine ck_xcallSv (rest := []) ⟨hx, hb, hml, hown, hts⟩ hw hE (ct_X6_needAmount l hlt G h) (va_cwS 3 hts gX6_current_X6_needAmount rfl rfl rfl (by decide +kernel) ⟨(Nat.le_of_ble_eq_true rfl), (Nat.le_of_ble_eq_true rfl)⟩) rfl hl.1 rfl (Nat.le_of_ble_eq_true rfl) dX6_current_7 ⟨(Nat.le_of_ble_eq_true rfl), (Nat.le_of_ble_eq_true rfl)⟩ ?_ ?_
  · exact fun E ce q9 τ H locs hp hw h1 h2 h3 => ck_xout hno hlocks hw hp h1 h2 h3 (Nat.le_of_ble_eq_true rfl) (Nat.le_of_ble_eq_true rfl)
  · intro σ1 H locs h hw
    refine lv_aload_n hx hb dX6_current_10 rfl (lv_at hl 0 rfl) ?_
    refine ck_xcallVv (rest := []) ⟨hx, hb, hml, hown, hts⟩ hw hE (hC.1 0 (by decide)) rfl rfl (ct_X6_needPower l hlt G hC h) (cwV 0 hts gX6_current_X6_needPower rfl rfl rfl (by decide +kernel) ⟨(Nat.le_of_ble_eq_true rfl), (Nat.le_of_ble_eq_true rfl)⟩) rfl hl.1 rfl (Nat.le_of_ble_eq_true rfl) dX6_current_11 ⟨(Nat.le_of_ble_eq_true rfl), (Nat.le_of_ble_eq_true rfl)⟩ ?_ ?_
    · exact fun E ce q9 τ H locs hp hw h1 h2 h3 => ck_xout hno hlocks hw hp h1 h2 h3 (Nat.le_of_ble_eq_true rfl) (Nat.le_of_ble_eq_true rfl)
    · intro σ3 H locs h hw
      refine lv_aload_n hx hb dX6_current_14 rfl (lv_at hl 0 rfl) ?_
      refine lv_dload_n hx hb dX6_current_15 rfl (lv_at hl 1 rfl) ?_
      refine ck_putd hx hb hts inX6 tyX6 tyX6_ok nmX6 hown hw (hC.1 0 (by decide)) rfl rfl 12 (by decide) (hts _ (List.mem_of_getElem? (i := 1) rfl)) rfl rfl rfl (Nat.le_of_ble_eq_true rfl) rfl dX6_current_16 (fun H locs hw => ?_)
      obtain ⟨σ5, eσ5⟩ : ∃ z : ck_S, z = ck_ud σ3 0 0 12 a0 := ⟨_, rfl⟩
      rw [← eσ5] at hw
      have h := h σ5 eσ5
      exact vx_ret (ck_vret X hw h dX6_current_19)
set_option maxHeartbeats 4000000 in
set_option maxRecDepth 100000 in
theorem ct_X6_current (l : Launch) (hlt : l.stackTraces = false) (G : ck_G) (hC : ck_inC G) {a0 : UInt64} {σ : ck_S} {post : ck_S → Prop} {px : String → ck_S → Prop} (h : sp_X6_current (ck_nc G) (ck_nb G) σ a0 post px) : ck_Xv l yX6_current wsX6_current ({ frames := 7, cells := 2, slots := 12, locals := 106 } : Room) G σ [.ref (ck_ad G 0 0), .double a0] post px 2 12 := by
  intro sz
  refine vx_ofW (cc := cX6_current) (maxL := 3) (ret := none) (by decide) rfl ?_
  intro p e s m args below meth c s₁ B hml hno hv
  obtain ⟨rfl, rfl, hw, hE⟩ := ck_enterE hv
  have hl := lv_entry ([.ref (ck_ad G 0 0), .double a0]) (n := 3) (Nat.le_of_ble_eq_true rfl)
  rw [lg_entry_eq]
  generalize (lg_sl ([.ref (ck_ad G 0 0), .double a0]) ++ List.replicate (3 - (lg_sl ([.ref (ck_ad G 0 0), .double a0])).length) Slot.unset).toArray = ls at hl ⊢
  have hl : lv_has ls 3 [(0, .ref (ck_ad G 0 0)), (1, .double a0)] := hl
  exact wk_X6_current_0 ⟨B.exec, B.bytes, B.returns, hml, findClass_of_methodNamed B.named, atoms_spec (ws := wsX6_current) B.pre, B.notSynchronized⟩ hlt hE hno hC h hw hl
def sp_X6_warm (nc nb : Nat) (σ : ck_S) (a0 : Int32) (a1 : UInt64) (post : ck_S → Prop) (px : String → ck_S → Prop) : Prop := sp_X6_needChip nc nb σ a0 (fun σ1 => sp_X6_needAmount nc nb σ1 a1 (-100) 200 (fun σ3 => sp_X6_needPower nc nb σ3 (fun σ5 => (vp_in a0 nc) ∧ ∀ j8, j8 = Int32.toNatClampNeg a0 → ∀ σ9, σ9 = ck_ud σ5 30 j8 6 a1 → post σ9) px) px) px
set_option maxHeartbeats 4000000 in
set_option maxRecDepth 100000 in
theorem wk_X6_warm_0 {p : Program} {l : Launch} {e : Env} {s : State} {m : MethodId} {args : Array Value} {below : List Frame} {meth : Method} {c : Code} {G : ck_G} (X : ck_X p s m meth c args cX6_warm 4 none RX6 wsX6_warm) (hlt : l.stackTraces = false) (hE : ck_E (ck_A G s.heap.size) s) (hno : ∀ x ∈ c.exceptionTable.toList, False) (hC : ck_inC G) {post : ck_S → Prop} {px : String → ck_S → Prop} {σ : ck_S} {a0 : Int32} {a1 : UInt64} {H : Heap} {locs : List Loc} {ls : Array Slot} (h : sp_X6_warm (ck_nc G) (ck_nb G) σ a0 a1 post px) (hw : ck_H G s H locs σ) (hl : lv_has ls 4 [(0, .ref (ck_ad G 0 0)), (1, .int a0), (2, .double a1)]) : W p l e ({ frames := 8, cells := 3, slots := 18, locals := 124 } : Room) s m args below meth c H locs 0 0 (vx_MQ below (va_Qv post (ck_Q G) (ck_A G s.heap.size)) (ck_XC G px (ck_A G s.heap.size)) args s 3 18 (ck_A G s.heap.size)) (F0 m 0 ls []) := by
  obtain ⟨hx, hb, hr, hml, hown, hts, hlocks⟩ := id X
  have inX3 : ∀ w ∈ wsX30, w ∈ wsX6_warm := fun _ h => List.mem_cons_of_mem _ (List.mem_append_left _ (List.mem_append_left _ (List.mem_append_left _ (List.mem_append_right _ (h)))))
  have inX6 : ∀ w ∈ wsX60, w ∈ wsX6_warm := fun _ h => List.mem_cons_of_mem _ (List.mem_append_left _ (List.mem_append_left _ (List.mem_append_left _ (List.mem_append_left _ (List.mem_append_right _ (h))))))
  unfold sp_X6_warm at h
  refine lv_aload_n hx hb dX6_warm_0 rfl (lv_at hl 0 rfl) ?_
  refine lv_iload_n hx hb dX6_warm_1 rfl (lv_at hl 1 rfl) ?_
  refine ck_xcallVv (rest := []) ⟨hx, hb, hml, hown, hts⟩ hw hE (hC.1 0 (by decide)) rfl rfl (ct_X6_needChip l hlt G hC h) (cwV 1 hts gX6_warm_X6_needChip rfl rfl rfl (by decide +kernel) ⟨(Nat.le_of_ble_eq_true rfl), (Nat.le_of_ble_eq_true rfl)⟩) rfl hl.1 rfl (Nat.le_of_ble_eq_true rfl) dX6_warm_2 ⟨(Nat.le_of_ble_eq_true rfl), (Nat.le_of_ble_eq_true rfl)⟩ ?_ ?_
  · exact fun E ce q9 τ H locs hp hw h1 h2 h3 => ck_xout hno hlocks hw hp h1 h2 h3 (Nat.le_of_ble_eq_true rfl) (Nat.le_of_ble_eq_true rfl)
  · intro σ1 H locs h hw
    refine lv_dload_n hx hb dX6_warm_5 rfl (lv_at hl 2 rfl) ?_
    refine lv_bipush (v := (-100)) hx hb dX6_warm_6 (by decide) ?_
    refine lv_sipush (v := 200) hx hb dX6_warm_8 (by decide) ?_
    refine ck_xcallSv (rest := []) ⟨hx, hb, hml, hown, hts⟩ hw hE (ct_X6_needAmount l hlt G h) (va_cwS 3 hts gX6_warm_X6_needAmount rfl rfl rfl (by decide +kernel) ⟨(Nat.le_of_ble_eq_true rfl), (Nat.le_of_ble_eq_true rfl)⟩) rfl hl.1 rfl (Nat.le_of_ble_eq_true rfl) dX6_warm_11 ⟨(Nat.le_of_ble_eq_true rfl), (Nat.le_of_ble_eq_true rfl)⟩ ?_ ?_
    · exact fun E ce q9 τ H locs hp hw h1 h2 h3 => ck_xout hno hlocks hw hp h1 h2 h3 (Nat.le_of_ble_eq_true rfl) (Nat.le_of_ble_eq_true rfl)
    · intro σ3 H locs h hw
      refine lv_aload_n hx hb dX6_warm_14 rfl (lv_at hl 0 rfl) ?_
      refine ck_xcallVv (rest := []) ⟨hx, hb, hml, hown, hts⟩ hw hE (hC.1 0 (by decide)) rfl rfl (ct_X6_needPower l hlt G hC h) (cwV 0 hts gX6_warm_X6_needPower rfl rfl rfl (by decide +kernel) ⟨(Nat.le_of_ble_eq_true rfl), (Nat.le_of_ble_eq_true rfl)⟩) rfl hl.1 rfl (Nat.le_of_ble_eq_true rfl) dX6_warm_15 ⟨(Nat.le_of_ble_eq_true rfl), (Nat.le_of_ble_eq_true rfl)⟩ ?_ ?_
      · exact fun E ce q9 τ H locs hp hw h1 h2 h3 => ck_xout hno hlocks hw hp h1 h2 h3 (Nat.le_of_ble_eq_true rfl) (Nat.le_of_ble_eq_true rfl)
      · intro σ5 H locs h hw
        refine lv_aload_n hx hb dX6_warm_18 rfl (lv_at hl 0 rfl) ?_
        refine ck_get hx hb hts inX6 hown hw (hC.1 0 (by decide)) rfl rfl 0 (by decide) (hts _ (List.mem_of_getElem? (i := 1) rfl)) rfl dX6_warm_19 ?_
        refine lv_iload_n hx hb dX6_warm_22 rfl (lv_at hl 1 rfl) ?_
        obtain ⟨n7, h⟩ := h
        refine ck_aald hx hb hw (hC.1 1 (by decide)) n7 dX6_warm_23 ?_
        obtain ⟨j8, ej8⟩ : ∃ z : Nat, z = Int32.toNatClampNeg a0 := ⟨_, rfl⟩
        have hj8 : j8 < ck_nc G := by rw [ej8]; exact ck_in n7
        rw [← ej8]
        have h := h j8 ej8
        refine lv_dload_n hx hb dX6_warm_24 rfl (lv_at hl 2 rfl) ?_
        refine ck_putd hx hb hts inX3 tyX3 tyX3_ok nmX3 hown hw (hC.2 30 _ (by decide) (by decide) hj8) rfl rfl 6 (by decide) (hts _ (List.mem_of_getElem? (i := 2) rfl)) rfl rfl rfl (Nat.le_of_ble_eq_true rfl) rfl dX6_warm_25 (fun H locs hw => ?_)
        obtain ⟨σ9, eσ9⟩ : ∃ z : ck_S, z = ck_ud σ5 30 j8 6 a1 := ⟨_, rfl⟩
        rw [← eσ9] at hw
        have h := h σ9 eσ9
        exact vx_ret (ck_vret X hw h dX6_warm_28)
set_option maxHeartbeats 4000000 in
set_option maxRecDepth 100000 in
theorem ct_X6_warm (l : Launch) (hlt : l.stackTraces = false) (G : ck_G) (hC : ck_inC G) {a0 : Int32} {a1 : UInt64} {σ : ck_S} {post : ck_S → Prop} {px : String → ck_S → Prop} (h : sp_X6_warm (ck_nc G) (ck_nb G) σ a0 a1 post px) : ck_Xv l yX6_warm wsX6_warm ({ frames := 8, cells := 3, slots := 18, locals := 124 } : Room) G σ [.ref (ck_ad G 0 0), .int a0, .double a1] post px 3 18 := by
  intro sz
  refine vx_ofW (cc := cX6_warm) (maxL := 4) (ret := none) (by decide) rfl ?_
  intro p e s m args below meth c s₁ B hml hno hv
  obtain ⟨rfl, rfl, hw, hE⟩ := ck_enterE hv
  have hl := lv_entry ([.ref (ck_ad G 0 0), .int a0, .double a1]) (n := 4) (Nat.le_of_ble_eq_true rfl)
  rw [lg_entry_eq]
  generalize (lg_sl ([.ref (ck_ad G 0 0), .int a0, .double a1]) ++ List.replicate (4 - (lg_sl ([.ref (ck_ad G 0 0), .int a0, .double a1])).length) Slot.unset).toArray = ls at hl ⊢
  have hl : lv_has ls 4 [(0, .ref (ck_ad G 0 0)), (1, .int a0), (2, .double a1)] := hl
  exact wk_X6_warm_0 ⟨B.exec, B.bytes, B.returns, hml, findClass_of_methodNamed B.named, atoms_spec (ws := wsX6_warm) B.pre, B.notSynchronized⟩ hlt hE hno hC h hw hl
def sp_X6_bus (nc nb : Nat) (σ : ck_S) (a0 : Int32) (post : ck_S → Prop) (px : String → ck_S → Prop) : Prop := sp_X6_needWhole nc nb σ a0 0 1000000 (fun σ1 => sp_X6_needPower nc nb σ1 (fun σ3 => ∀ σ5, σ5 = ck_ui σ3 0 0 13 a0 → post σ5) px) px
set_option maxHeartbeats 4000000 in
set_option maxRecDepth 100000 in
theorem wk_X6_bus_0 {p : Program} {l : Launch} {e : Env} {s : State} {m : MethodId} {args : Array Value} {below : List Frame} {meth : Method} {c : Code} {G : ck_G} (X : ck_X p s m meth c args cX6_bus 2 none RX6 wsX6_bus) (hlt : l.stackTraces = false) (hE : ck_E (ck_A G s.heap.size) s) (hno : ∀ x ∈ c.exceptionTable.toList, False) (hC : ck_inC G) {post : ck_S → Prop} {px : String → ck_S → Prop} {σ : ck_S} {a0 : Int32} {H : Heap} {locs : List Loc} {ls : Array Slot} (h : sp_X6_bus (ck_nc G) (ck_nb G) σ a0 post px) (hw : ck_H G s H locs σ) (hl : lv_has ls 2 [(0, .ref (ck_ad G 0 0)), (1, .int a0)]) : W p l e ({ frames := 7, cells := 2, slots := 12, locals := 104 } : Room) s m args below meth c H locs 0 0 (vx_MQ below (va_Qv post (ck_Q G) (ck_A G s.heap.size)) (ck_XC G px (ck_A G s.heap.size)) args s 2 12 (ck_A G s.heap.size)) (F0 m 0 ls []) := by
  obtain ⟨hx, hb, hr, hml, hown, hts, hlocks⟩ := id X
  have inX6 : ∀ w ∈ wsX60, w ∈ wsX6_bus := fun _ h => List.mem_cons_of_mem _ (List.mem_append_left _ (List.mem_append_left _ (List.mem_append_right _ (h))))
  unfold sp_X6_bus at h
  refine lv_iload_n hx hb dX6_bus_0 rfl (lv_at hl 1 rfl) ?_
  refine lv_iconst (v := 0) hx hb dX6_bus_1 (by decide) ?_
  refine lv_ldc hx hb hown (hts _ (List.mem_of_getElem? (i := 1) rfl)) dX6_bus_2 ?_
  refine ck_xcallSv (rest := []) ⟨hx, hb, hml, hown, hts⟩ hw hE (ct_X6_needWhole l hlt G h) (va_cwS 3 hts gX6_bus_X6_needWhole rfl rfl rfl (by decide +kernel) ⟨(Nat.le_of_ble_eq_true rfl), (Nat.le_of_ble_eq_true rfl)⟩) rfl hl.1 rfl (Nat.le_of_ble_eq_true rfl) dX6_bus_4 ⟨(Nat.le_of_ble_eq_true rfl), (Nat.le_of_ble_eq_true rfl)⟩ ?_ ?_
  · exact fun E ce q9 τ H locs hp hw h1 h2 h3 => ck_xout hno hlocks hw hp h1 h2 h3 (Nat.le_of_ble_eq_true rfl) (Nat.le_of_ble_eq_true rfl)
  · intro σ1 H locs h hw
    refine lv_aload_n hx hb dX6_bus_7 rfl (lv_at hl 0 rfl) ?_
    refine ck_xcallVv (rest := []) ⟨hx, hb, hml, hown, hts⟩ hw hE (hC.1 0 (by decide)) rfl rfl (ct_X6_needPower l hlt G hC h) (cwV 0 hts gX6_bus_X6_needPower rfl rfl rfl (by decide +kernel) ⟨(Nat.le_of_ble_eq_true rfl), (Nat.le_of_ble_eq_true rfl)⟩) rfl hl.1 rfl (Nat.le_of_ble_eq_true rfl) dX6_bus_8 ⟨(Nat.le_of_ble_eq_true rfl), (Nat.le_of_ble_eq_true rfl)⟩ ?_ ?_
    · exact fun E ce q9 τ H locs hp hw h1 h2 h3 => ck_xout hno hlocks hw hp h1 h2 h3 (Nat.le_of_ble_eq_true rfl) (Nat.le_of_ble_eq_true rfl)
    · intro σ3 H locs h hw
      refine lv_aload_n hx hb dX6_bus_11 rfl (lv_at hl 0 rfl) ?_
      refine lv_iload_n hx hb dX6_bus_12 rfl (lv_at hl 1 rfl) ?_
      refine ck_puti hx hb hts inX6 tyX6 tyX6_ok nmX6 hown hw (hC.1 0 (by decide)) rfl rfl 13 (by decide) (hts _ (List.mem_of_getElem? (i := 2) rfl)) rfl rfl rfl (Nat.le_of_ble_eq_true rfl) rfl dX6_bus_13 (fun H locs hw => ?_)
      obtain ⟨σ5, eσ5⟩ : ∃ z : ck_S, z = ck_ui σ3 0 0 13 a0 := ⟨_, rfl⟩
      rw [← eσ5] at hw
      have h := h σ5 eσ5
      exact vx_ret (ck_vret X hw h dX6_bus_16)
set_option maxHeartbeats 4000000 in
set_option maxRecDepth 100000 in
theorem ct_X6_bus (l : Launch) (hlt : l.stackTraces = false) (G : ck_G) (hC : ck_inC G) {a0 : Int32} {σ : ck_S} {post : ck_S → Prop} {px : String → ck_S → Prop} (h : sp_X6_bus (ck_nc G) (ck_nb G) σ a0 post px) : ck_Xv l yX6_bus wsX6_bus ({ frames := 7, cells := 2, slots := 12, locals := 104 } : Room) G σ [.ref (ck_ad G 0 0), .int a0] post px 2 12 := by
  intro sz
  refine vx_ofW (cc := cX6_bus) (maxL := 2) (ret := none) (by decide) rfl ?_
  intro p e s m args below meth c s₁ B hml hno hv
  obtain ⟨rfl, rfl, hw, hE⟩ := ck_enterE hv
  have hl := lv_entry ([.ref (ck_ad G 0 0), .int a0]) (n := 2) (Nat.le_of_ble_eq_true rfl)
  rw [lg_entry_eq]
  generalize (lg_sl ([.ref (ck_ad G 0 0), .int a0]) ++ List.replicate (2 - (lg_sl ([.ref (ck_ad G 0 0), .int a0])).length) Slot.unset).toArray = ls at hl ⊢
  have hl : lv_has ls 2 [(0, .ref (ck_ad G 0 0)), (1, .int a0)] := hl
  exact wk_X6_bus_0 ⟨B.exec, B.bytes, B.returns, hml, findClass_of_methodNamed B.named, atoms_spec (ws := wsX6_bus) B.pre, B.notSynchronized⟩ hlt hE hno hC h hw hl
def sp_X6_want (nc nb : Nat) (σ : ck_S) (a0 : Int32) (post : ck_S → Prop) (px : String → ck_S → Prop) : Prop := sp_X6_needPower nc nb σ (fun σ1 => (ck_b a0) ∧ ∀ σ4, σ4 = ck_ui σ1 0 0 14 a0 → post σ4) px
set_option maxHeartbeats 4000000 in
set_option maxRecDepth 100000 in
theorem wk_X6_want_0 {p : Program} {l : Launch} {e : Env} {s : State} {m : MethodId} {args : Array Value} {below : List Frame} {meth : Method} {c : Code} {G : ck_G} (X : ck_X p s m meth c args cX6_want 2 none RX6 wsX6_want) (hlt : l.stackTraces = false) (hE : ck_E (ck_A G s.heap.size) s) (hno : ∀ x ∈ c.exceptionTable.toList, False) (hC : ck_inC G) {post : ck_S → Prop} {px : String → ck_S → Prop} {σ : ck_S} {a0 : Int32} {H : Heap} {locs : List Loc} {ls : Array Slot} (h : sp_X6_want (ck_nc G) (ck_nb G) σ a0 post px) (hw : ck_H G s H locs σ) (hl : lv_has ls 2 [(0, .ref (ck_ad G 0 0)), (1, .int a0)]) : W p l e ({ frames := 7, cells := 1, slots := 6, locals := 102 } : Room) s m args below meth c H locs 0 0 (vx_MQ below (va_Qv post (ck_Q G) (ck_A G s.heap.size)) (ck_XC G px (ck_A G s.heap.size)) args s 1 6 (ck_A G s.heap.size)) (F0 m 0 ls []) := by
  obtain ⟨hx, hb, hr, hml, hown, hts, hlocks⟩ := id X
  have inX6 : ∀ w ∈ wsX60, w ∈ wsX6_want := fun _ h => List.mem_cons_of_mem _ (List.mem_append_left _ (List.mem_append_right _ (h)))
  unfold sp_X6_want at h
  refine lv_aload_n hx hb dX6_want_0 rfl (lv_at hl 0 rfl) ?_
  refine ck_xcallVv (rest := []) ⟨hx, hb, hml, hown, hts⟩ hw hE (hC.1 0 (by decide)) rfl rfl (ct_X6_needPower l hlt G hC h) (cwV 0 hts gX6_want_X6_needPower rfl rfl rfl (by decide +kernel) ⟨(Nat.le_of_ble_eq_true rfl), (Nat.le_of_ble_eq_true rfl)⟩) rfl hl.1 rfl (Nat.le_of_ble_eq_true rfl) dX6_want_1 ⟨(Nat.le_of_ble_eq_true rfl), (Nat.le_of_ble_eq_true rfl)⟩ ?_ ?_
  · exact fun E ce q9 τ H locs hp hw h1 h2 h3 => ck_xout hno hlocks hw hp h1 h2 h3 (Nat.le_of_ble_eq_true rfl) (Nat.le_of_ble_eq_true rfl)
  · intro σ1 H locs h hw
    refine lv_aload_n hx hb dX6_want_4 rfl (lv_at hl 0 rfl) ?_
    refine lv_iload_n hx hb dX6_want_5 rfl (lv_at hl 1 rfl) ?_
    obtain ⟨n3, h⟩ := h
    refine ck_puti hx hb hts inX6 tyX6 tyX6_ok nmX6 hown hw (hC.1 0 (by decide)) rfl rfl 14 (by decide) (hts _ (List.mem_of_getElem? (i := 1) rfl)) rfl (ck_b_n n3) (ck_b_f n3) (Nat.le_of_ble_eq_true rfl) rfl dX6_want_6 (fun H locs hw => ?_)
    obtain ⟨σ4, eσ4⟩ : ∃ z : ck_S, z = ck_ui σ1 0 0 14 a0 := ⟨_, rfl⟩
    rw [← eσ4] at hw
    have h := h σ4 eσ4
    exact vx_ret (ck_vret X hw h dX6_want_9)
set_option maxHeartbeats 4000000 in
set_option maxRecDepth 100000 in
theorem ct_X6_want (l : Launch) (hlt : l.stackTraces = false) (G : ck_G) (hC : ck_inC G) {a0 : Int32} {σ : ck_S} {post : ck_S → Prop} {px : String → ck_S → Prop} (h : sp_X6_want (ck_nc G) (ck_nb G) σ a0 post px) : ck_Xv l yX6_want wsX6_want ({ frames := 7, cells := 1, slots := 6, locals := 102 } : Room) G σ [.ref (ck_ad G 0 0), .int a0] post px 1 6 := by
  intro sz
  refine vx_ofW (cc := cX6_want) (maxL := 2) (ret := none) (by decide) rfl ?_
  intro p e s m args below meth c s₁ B hml hno hv
  obtain ⟨rfl, rfl, hw, hE⟩ := ck_enterE hv
  have hl := lv_entry ([.ref (ck_ad G 0 0), .int a0]) (n := 2) (Nat.le_of_ble_eq_true rfl)
  rw [lg_entry_eq]
  generalize (lg_sl ([.ref (ck_ad G 0 0), .int a0]) ++ List.replicate (2 - (lg_sl ([.ref (ck_ad G 0 0), .int a0])).length) Slot.unset).toArray = ls at hl ⊢
  have hl : lv_has ls 2 [(0, .ref (ck_ad G 0 0)), (1, .int a0)] := hl
  exact wk_X6_want_0 ⟨B.exec, B.bytes, B.returns, hml, findClass_of_methodNamed B.named, atoms_spec (ws := wsX6_want) B.pre, B.notSynchronized⟩ hlt hE hno hC h hw hl
def sp_X6_set (nc nb : Nat) (σ : ck_S) (a0 : UInt64) (post : ck_S → Prop) (px : String → ck_S → Prop) : Prop := sp_X6_needAmount nc nb σ a0 0 (ck_gi σ 0 0 1) (fun σ1 => sp_X6_needPower nc nb σ1 (fun σ3 => ∀ σ5, σ5 = ck_ud σ3 0 0 9 a0 → post σ5) px) px
set_option maxHeartbeats 4000000 in
set_option maxRecDepth 100000 in
theorem wk_X6_set_0 {p : Program} {l : Launch} {e : Env} {s : State} {m : MethodId} {args : Array Value} {below : List Frame} {meth : Method} {c : Code} {G : ck_G} (X : ck_X p s m meth c args cX6_set 3 none RX6 wsX6_set) (hlt : l.stackTraces = false) (hE : ck_E (ck_A G s.heap.size) s) (hno : ∀ x ∈ c.exceptionTable.toList, False) (hC : ck_inC G) {post : ck_S → Prop} {px : String → ck_S → Prop} {σ : ck_S} {a0 : UInt64} {H : Heap} {locs : List Loc} {ls : Array Slot} (h : sp_X6_set (ck_nc G) (ck_nb G) σ a0 post px) (hw : ck_H G s H locs σ) (hl : lv_has ls 3 [(0, .ref (ck_ad G 0 0)), (1, .double a0)]) : W p l e ({ frames := 7, cells := 2, slots := 12, locals := 106 } : Room) s m args below meth c H locs 0 0 (vx_MQ below (va_Qv post (ck_Q G) (ck_A G s.heap.size)) (ck_XC G px (ck_A G s.heap.size)) args s 2 12 (ck_A G s.heap.size)) (F0 m 0 ls []) := by
  obtain ⟨hx, hb, hr, hml, hown, hts, hlocks⟩ := id X
  have inX6 : ∀ w ∈ wsX60, w ∈ wsX6_set := fun _ h => List.mem_cons_of_mem _ (List.mem_append_left _ (List.mem_append_left _ (List.mem_append_right _ (h))))
  unfold sp_X6_set at h
  refine lv_dload_n hx hb dX6_set_0 rfl (lv_at hl 1 rfl) ?_
  refine lv_iconst (v := 0) hx hb dX6_set_1 (by decide) ?_
  refine lv_aload_n hx hb dX6_set_2 rfl (lv_at hl 0 rfl) ?_
  refine ck_get hx hb hts inX6 hown hw (hC.1 0 (by decide)) rfl rfl 1 (by decide) (hts _ (List.mem_of_getElem? (i := 1) rfl)) rfl dX6_set_3 ?_
  refine ck_xcallSv (rest := []) ⟨hx, hb, hml, hown, hts⟩ hw hE (ct_X6_needAmount l hlt G h) (va_cwS 3 hts gX6_set_X6_needAmount rfl rfl rfl (by decide +kernel) ⟨(Nat.le_of_ble_eq_true rfl), (Nat.le_of_ble_eq_true rfl)⟩) rfl hl.1 rfl (Nat.le_of_ble_eq_true rfl) dX6_set_6 ⟨(Nat.le_of_ble_eq_true rfl), (Nat.le_of_ble_eq_true rfl)⟩ ?_ ?_
  · exact fun E ce q9 τ H locs hp hw h1 h2 h3 => ck_xout hno hlocks hw hp h1 h2 h3 (Nat.le_of_ble_eq_true rfl) (Nat.le_of_ble_eq_true rfl)
  · intro σ1 H locs h hw
    refine lv_aload_n hx hb dX6_set_9 rfl (lv_at hl 0 rfl) ?_
    refine ck_xcallVv (rest := []) ⟨hx, hb, hml, hown, hts⟩ hw hE (hC.1 0 (by decide)) rfl rfl (ct_X6_needPower l hlt G hC h) (cwV 0 hts gX6_set_X6_needPower rfl rfl rfl (by decide +kernel) ⟨(Nat.le_of_ble_eq_true rfl), (Nat.le_of_ble_eq_true rfl)⟩) rfl hl.1 rfl (Nat.le_of_ble_eq_true rfl) dX6_set_10 ⟨(Nat.le_of_ble_eq_true rfl), (Nat.le_of_ble_eq_true rfl)⟩ ?_ ?_
    · exact fun E ce q9 τ H locs hp hw h1 h2 h3 => ck_xout hno hlocks hw hp h1 h2 h3 (Nat.le_of_ble_eq_true rfl) (Nat.le_of_ble_eq_true rfl)
    · intro σ3 H locs h hw
      refine lv_aload_n hx hb dX6_set_13 rfl (lv_at hl 0 rfl) ?_
      refine lv_dload_n hx hb dX6_set_14 rfl (lv_at hl 1 rfl) ?_
      refine ck_putd hx hb hts inX6 tyX6 tyX6_ok nmX6 hown hw (hC.1 0 (by decide)) rfl rfl 9 (by decide) (hts _ (List.mem_of_getElem? (i := 2) rfl)) rfl rfl rfl (Nat.le_of_ble_eq_true rfl) rfl dX6_set_15 (fun H locs hw => ?_)
      obtain ⟨σ5, eσ5⟩ : ∃ z : ck_S, z = ck_ud σ3 0 0 9 a0 := ⟨_, rfl⟩
      rw [← eσ5] at hw
      have h := h σ5 eσ5
      exact vx_ret (ck_vret X hw h dX6_set_18)
set_option maxHeartbeats 4000000 in
set_option maxRecDepth 100000 in
theorem ct_X6_set (l : Launch) (hlt : l.stackTraces = false) (G : ck_G) (hC : ck_inC G) {a0 : UInt64} {σ : ck_S} {post : ck_S → Prop} {px : String → ck_S → Prop} (h : sp_X6_set (ck_nc G) (ck_nb G) σ a0 post px) : ck_Xv l yX6_set wsX6_set ({ frames := 7, cells := 2, slots := 12, locals := 106 } : Room) G σ [.ref (ck_ad G 0 0), .double a0] post px 2 12 := by
  intro sz
  refine vx_ofW (cc := cX6_set) (maxL := 3) (ret := none) (by decide) rfl ?_
  intro p e s m args below meth c s₁ B hml hno hv
  obtain ⟨rfl, rfl, hw, hE⟩ := ck_enterE hv
  have hl := lv_entry ([.ref (ck_ad G 0 0), .double a0]) (n := 3) (Nat.le_of_ble_eq_true rfl)
  rw [lg_entry_eq]
  generalize (lg_sl ([.ref (ck_ad G 0 0), .double a0]) ++ List.replicate (3 - (lg_sl ([.ref (ck_ad G 0 0), .double a0])).length) Slot.unset).toArray = ls at hl ⊢
  have hl : lv_has ls 3 [(0, .ref (ck_ad G 0 0)), (1, .double a0)] := hl
  exact wk_X6_set_0 ⟨B.exec, B.bytes, B.returns, hml, findClass_of_methodNamed B.named, atoms_spec (ws := wsX6_set) B.pre, B.notSynchronized⟩ hlt hE hno hC h hw hl
def sp_X6_tick_35 (nc nb : Nat) (post : Int32 → ck_S → Prop) (px : String → ck_S → Prop) (σ : ck_S) : Prop := post (ck_gi σ 5 0 0) σ
def bd_X6_tick_13 (nc nb : Nat) (post : Int32 → ck_S → Prop) (px : String → ck_S → Prop) (K13 : ck_S → Int32 → Int32 → Prop) (σ : ck_S) (x1 : Int32) (x2 : Int32) : Prop := ((x1 ≤ x2 → (sp_X6_tick_35 nc nb post px σ)) ∧ (¬ x1 ≤ x2 → (((¬ (ck_gi σ 0 0 7) = 0 → (sp_X6_tick_35 nc nb post px σ)) ∧ ((ck_gi σ 0 0 7) = 0 → (sp_X6_passOneTick nc nb σ (fun σ3 => ∀ x_5, x_5 = x2 + 1 → K13 σ3 x1 x_5)))))))
def sp_X6_tick (nc nb : Nat) (σ : ck_S) (a0 : Int32) (post : Int32 → ck_S → Prop) (px : String → ck_S → Prop) : Prop := sp_X6_needWhole nc nb σ a0 1 100 (fun σ1 => sp_X6_needPower nc nb σ1 (fun σ3 => lx_3 (bd_X6_tick_13 nc nb post px) σ3 a0 0) px) px
set_option maxHeartbeats 4000000 in
set_option maxRecDepth 100000 in
theorem wk_X6_tick_35 {p : Program} {l : Launch} {e : Env} {s : State} {m : MethodId} {args : Array Value} {below : List Frame} {meth : Method} {c : Code} {G : ck_G} (X : ck_X p s m meth c args cX6_tick 3 (some .int) RX6 wsX6_tick) (hlt : l.stackTraces = false) (hE : ck_E (ck_A G s.heap.size) s) (hno : ∀ x ∈ c.exceptionTable.toList, False) (hC : ck_inC G) {post : Int32 → ck_S → Prop} {px : String → ck_S → Prop} {σ : ck_S} {H : Heap} {locs : List Loc} {ls : Array Slot} (h : sp_X6_tick_35 (ck_nc G) (ck_nb G) post px σ) (hw : ck_H G s H locs σ) (hl : lv_has ls 3 [(0, .ref (ck_ad G 0 0))]) : W p l e ({ frames := 7, cells := 2, slots := 12, locals := 147 } : Room) s m args below meth c H locs 2 12 (vx_MQ below (va_Qi post (ck_Q G) (ck_A G s.heap.size)) (ck_XC G px (ck_A G s.heap.size)) args s 2 12 (ck_A G s.heap.size)) (F0 m 35 ls []) := by
  obtain ⟨hx, hb, hr, hml, hown, hts, hlocks⟩ := id X
  have inX4 : ∀ w ∈ wsX40, w ∈ wsX6_tick := fun _ h => List.mem_cons_of_mem _ (List.mem_append_left _ (List.mem_append_left _ (List.mem_append_left _ (List.mem_append_left _ (List.mem_append_left _ (List.mem_append_left _ (List.mem_append_right _ (h))))))))
  have inX6 : ∀ w ∈ wsX60, w ∈ wsX6_tick := fun _ h => List.mem_cons_of_mem _ (List.mem_append_left _ (List.mem_append_left _ (List.mem_append_left _ (List.mem_append_left _ (List.mem_append_left _ (List.mem_append_left _ (List.mem_append_left _ (List.mem_append_right _ (h)))))))))
  unfold sp_X6_tick_35 at h
  refine lv_aload_n hx hb dX6_tick_35 rfl (lv_at hl 0 rfl) ?_
  refine ck_get hx hb hts inX6 hown hw (hC.1 0 (by decide)) rfl rfl 5 (by decide) (hts _ (List.mem_of_getElem? (i := 2) rfl)) rfl dX6_tick_36 ?_
  refine ck_get hx hb hts inX4 hown hw (hC.1 5 (by decide)) rfl rfl 0 (by decide) (hts _ (List.mem_of_getElem? (i := 3) rfl)) rfl dX6_tick_39 ?_
  exact vx_ret (ck_iret X hw h dX6_tick_42)
set_option maxHeartbeats 4000000 in
set_option maxRecDepth 100000 in
theorem wk_X6_tick_13 {p : Program} {l : Launch} {e : Env} {s : State} {m : MethodId} {args : Array Value} {below : List Frame} {meth : Method} {c : Code} {G : ck_G} (X : ck_X p s m meth c args cX6_tick 3 (some .int) RX6 wsX6_tick) (hlt : l.stackTraces = false) (hE : ck_E (ck_A G s.heap.size) s) (hno : ∀ x ∈ c.exceptionTable.toList, False) (hC : ck_inC G) {post : Int32 → ck_S → Prop} {px : String → ck_S → Prop} : ∀ (fu : Nat) (σ : ck_S) (x1 : Int32) (x2 : Int32) (H : Heap) (locs : List Loc) (ls : Array Slot), lk_3 (bd_X6_tick_13 (ck_nc G) (ck_nb G) post px) fu σ x1 x2 → ck_H G s H locs σ → lv_has ls 3 [(0, .ref (ck_ad G 0 0)), (1, .int x1), (2, .int x2)] → W p l e ({ frames := 7, cells := 2, slots := 12, locals := 147 } : Room) s m args below meth c H locs 2 12 (vx_MQ below (va_Qi post (ck_Q G) (ck_A G s.heap.size)) (ck_XC G px (ck_A G s.heap.size)) args s 2 12 (ck_A G s.heap.size)) (F0 m 13 ls []) := by
  obtain ⟨hx, hb, hr, hml, hown, hts, hlocks⟩ := id X
  have inX4 : ∀ w ∈ wsX40, w ∈ wsX6_tick := fun _ h => List.mem_cons_of_mem _ (List.mem_append_left _ (List.mem_append_left _ (List.mem_append_left _ (List.mem_append_left _ (List.mem_append_left _ (List.mem_append_left _ (List.mem_append_right _ (h))))))))
  have inX6 : ∀ w ∈ wsX60, w ∈ wsX6_tick := fun _ h => List.mem_cons_of_mem _ (List.mem_append_left _ (List.mem_append_left _ (List.mem_append_left _ (List.mem_append_left _ (List.mem_append_left _ (List.mem_append_left _ (List.mem_append_left _ (List.mem_append_right _ (h)))))))))
  intro fu
  induction fu with
  | zero => intro σ x1 x2 H locs ls h hw hl; exact h.elim
  | succ fu hK13 =>
    intro σ x1 x2 H locs ls h hw hl
    have h : bd_X6_tick_13 (ck_nc G) (ck_nb G) post px (lk_3 (bd_X6_tick_13 (ck_nc G) (ck_nb G) post px) fu) σ x1 x2 := h
    unfold bd_X6_tick_13 at h
    refine lv_iload_n hx hb dX6_tick_13 rfl (lv_at hl 2 rfl) ?_
    refine lv_iload_n hx hb dX6_tick_14 rfl (lv_at hl 1 rfl) ?_
    obtain ⟨hA, hB⟩ := h
    refine lv_icmp_ge (tgt := 35) hx hb dX6_tick_15 (by decide) (fun c1 => ?_) (fun c1 => ?_)
    · have h := hA c1
      exact wk_X6_tick_35 X hlt hE hno hC h hw (lv_sub hl [0] rfl)
    · have h := hB c1
      refine lv_aload_n hx hb dX6_tick_18 rfl (lv_at hl 0 rfl) ?_
      refine ck_get hx hb hts inX6 hown hw (hC.1 0 (by decide)) rfl rfl 7 (by decide) (hts _ (List.mem_of_getElem? (i := 1) rfl)) rfl dX6_tick_19 ?_
      obtain ⟨hA, hB⟩ := h
      refine lv_if_ne (tgt := 35) hx hb dX6_tick_22 (by decide) (fun c2 => ?_) (fun c2 => ?_)
      · have h := hA c2
        exact wk_X6_tick_35 X hlt hE hno hC h hw (lv_sub hl [0] rfl)
      · have h := hB c2
        refine lv_aload_n hx hb dX6_tick_25 rfl (lv_at hl 0 rfl) ?_
        refine ck_ecallVv (rest := []) ⟨hx, hb, hml, hown, hts⟩ hw hE (hC.1 0 (by decide)) rfl rfl (ct_X6_passOneTick l G hC h) (cwV 0 hts gX6_tick_X6_passOneTick rfl rfl rfl (by decide +kernel) ⟨(Nat.le_of_ble_eq_true rfl), (Nat.le_of_ble_eq_true rfl)⟩) rfl hl.1 rfl (Nat.le_of_ble_eq_true rfl) dX6_tick_26 ⟨(Nat.le_of_ble_eq_true rfl), (Nat.le_of_ble_eq_true rfl)⟩ (fun σ3 H locs h hw => ?_)
        obtain ⟨x_5, ex_5⟩ : ∃ z : Int32, z = x2 + 1 := ⟨_, rfl⟩
        have h := h x_5 ex_5
        refine lv_iinc (v := x_5) (lv' := [(2, .int x_5), (0, .ref (ck_ad G 0 0)), (1, .int x1)]) hx hb dX6_tick_29 hl (k := 2) rfl (by rw [ex_5]; rfl) (by decide) rfl (fun ls hl => ?_)
        refine lv_goto (tgt := 13) hx hb dX6_tick_32 (by decide) ?_
        exact hK13 _ _ _ _ _ _ h hw (lv_sub hl [1, 2, 0] rfl)
set_option maxHeartbeats 4000000 in
set_option maxRecDepth 100000 in
theorem wk_X6_tick_0 {p : Program} {l : Launch} {e : Env} {s : State} {m : MethodId} {args : Array Value} {below : List Frame} {meth : Method} {c : Code} {G : ck_G} (X : ck_X p s m meth c args cX6_tick 3 (some .int) RX6 wsX6_tick) (hlt : l.stackTraces = false) (hE : ck_E (ck_A G s.heap.size) s) (hno : ∀ x ∈ c.exceptionTable.toList, False) (hC : ck_inC G) {post : Int32 → ck_S → Prop} {px : String → ck_S → Prop} {σ : ck_S} {a0 : Int32} {H : Heap} {locs : List Loc} {ls : Array Slot} (h : sp_X6_tick (ck_nc G) (ck_nb G) σ a0 post px) (hw : ck_H G s H locs σ) (hl : lv_has ls 3 [(0, .ref (ck_ad G 0 0)), (1, .int a0)]) : W p l e ({ frames := 7, cells := 2, slots := 12, locals := 147 } : Room) s m args below meth c H locs 0 0 (vx_MQ below (va_Qi post (ck_Q G) (ck_A G s.heap.size)) (ck_XC G px (ck_A G s.heap.size)) args s 2 12 (ck_A G s.heap.size)) (F0 m 0 ls []) := by
  obtain ⟨hx, hb, hr, hml, hown, hts, hlocks⟩ := id X
  have inX4 : ∀ w ∈ wsX40, w ∈ wsX6_tick := fun _ h => List.mem_cons_of_mem _ (List.mem_append_left _ (List.mem_append_left _ (List.mem_append_left _ (List.mem_append_left _ (List.mem_append_left _ (List.mem_append_left _ (List.mem_append_right _ (h))))))))
  have inX6 : ∀ w ∈ wsX60, w ∈ wsX6_tick := fun _ h => List.mem_cons_of_mem _ (List.mem_append_left _ (List.mem_append_left _ (List.mem_append_left _ (List.mem_append_left _ (List.mem_append_left _ (List.mem_append_left _ (List.mem_append_left _ (List.mem_append_right _ (h)))))))))
  unfold sp_X6_tick at h
  refine lv_iload_n hx hb dX6_tick_0 rfl (lv_at hl 1 rfl) ?_
  refine lv_iconst (v := 1) hx hb dX6_tick_1 (by decide) ?_
  refine lv_bipush (v := 100) hx hb dX6_tick_2 (by decide) ?_
  refine ck_xcallSv (rest := []) ⟨hx, hb, hml, hown, hts⟩ hw hE (ct_X6_needWhole l hlt G h) (va_cwS 3 hts gX6_tick_X6_needWhole rfl rfl rfl (by decide +kernel) ⟨(Nat.le_of_ble_eq_true rfl), (Nat.le_of_ble_eq_true rfl)⟩) rfl hl.1 rfl (Nat.le_of_ble_eq_true rfl) dX6_tick_4 ⟨(Nat.le_of_ble_eq_true rfl), (Nat.le_of_ble_eq_true rfl)⟩ ?_ ?_
  · exact fun E ce q9 τ H locs hp hw h1 h2 h3 => ck_xout hno hlocks hw hp h1 h2 h3 (Nat.le_of_ble_eq_true rfl) (Nat.le_of_ble_eq_true rfl)
  · intro σ1 H locs h hw
    refine lv_aload_n hx hb dX6_tick_7 rfl (lv_at hl 0 rfl) ?_
    refine ck_xcallVv (rest := []) ⟨hx, hb, hml, hown, hts⟩ hw hE (hC.1 0 (by decide)) rfl rfl (ct_X6_needPower l hlt G hC h) (cwV 0 hts gX6_tick_X6_needPower rfl rfl rfl (by decide +kernel) ⟨(Nat.le_of_ble_eq_true rfl), (Nat.le_of_ble_eq_true rfl)⟩) rfl hl.1 rfl (Nat.le_of_ble_eq_true rfl) dX6_tick_8 ⟨(Nat.le_of_ble_eq_true rfl), (Nat.le_of_ble_eq_true rfl)⟩ ?_ ?_
    · exact fun E ce q9 τ H locs hp hw h1 h2 h3 => ck_xout hno hlocks hw hp h1 h2 h3 (Nat.le_of_ble_eq_true rfl) (Nat.le_of_ble_eq_true rfl)
    · intro σ3 H locs h hw
      refine lv_iconst (v := 0) hx hb dX6_tick_11 (by decide) ?_
      refine lv_istore_n (lv' := [(2, .int 0), (0, .ref (ck_ad G 0 0)), (1, .int a0)]) hx hb dX6_tick_12 rfl hl (by decide) rfl (fun ls hl => ?_)
      obtain ⟨fu, h⟩ := h
      exact wk_X6_tick_13 X hlt hE hno hC fu _ _ _ _ _ _ h hw (lv_sub hl [1, 2, 0] rfl)
set_option maxHeartbeats 4000000 in
set_option maxRecDepth 100000 in
theorem ct_X6_tick (l : Launch) (hlt : l.stackTraces = false) (G : ck_G) (hC : ck_inC G) {a0 : Int32} {σ : ck_S} {post : Int32 → ck_S → Prop} {px : String → ck_S → Prop} (h : sp_X6_tick (ck_nc G) (ck_nb G) σ a0 post px) : ck_Xi l yX6_tick wsX6_tick ({ frames := 7, cells := 2, slots := 12, locals := 147 } : Room) G σ [.ref (ck_ad G 0 0), .int a0] post px 2 12 := by
  intro sz
  refine vx_ofW (cc := cX6_tick) (maxL := 3) (ret := (some .int)) (by decide) rfl ?_
  intro p e s m args below meth c s₁ B hml hno hv
  obtain ⟨rfl, rfl, hw, hE⟩ := ck_enterE hv
  have hl := lv_entry ([.ref (ck_ad G 0 0), .int a0]) (n := 3) (Nat.le_of_ble_eq_true rfl)
  rw [lg_entry_eq]
  generalize (lg_sl ([.ref (ck_ad G 0 0), .int a0]) ++ List.replicate (3 - (lg_sl ([.ref (ck_ad G 0 0), .int a0])).length) Slot.unset).toArray = ls at hl ⊢
  have hl : lv_has ls 3 [(0, .ref (ck_ad G 0 0)), (1, .int a0)] := hl
  exact wk_X6_tick_0 ⟨B.exec, B.bytes, B.returns, hml, findClass_of_methodNamed B.named, atoms_spec (ws := wsX6_tick) B.pre, B.notSynchronized⟩ hlt hE hno hC h hw hl
def sp_X6_reset (nc nb : Nat) (σ : ck_S) (a0 : Int32) (post : Int32 → ck_S → Prop) (px : String → ck_S → Prop) : Prop := sp_X6_needIndex nc nb σ a0 9 (fun σ1 => sp_X6_needPower nc nb σ1 (fun σ3 => ((¬ (ck_gi σ3 5 0 0) = 0 → (sp_X0_dismiss nc nb σ3 a0 0 (fun x_7 σ6 => (ck_b x_7 ∧ post x_7 σ6)))) ∧ ((ck_gi σ3 5 0 0) = 0 → (sp_X0_dismiss nc nb σ3 a0 1 (fun x_9 σ8 => (ck_b x_9 ∧ post x_9 σ8)))))) px) px
set_option maxHeartbeats 4000000 in
set_option maxRecDepth 100000 in
theorem wk_X6_reset_0 {p : Program} {l : Launch} {e : Env} {s : State} {m : MethodId} {args : Array Value} {below : List Frame} {meth : Method} {c : Code} {G : ck_G} (X : ck_X p s m meth c args cX6_reset 2 (some .boolean) RX6 wsX6_reset) (hlt : l.stackTraces = false) (hE : ck_E (ck_A G s.heap.size) s) (hno : ∀ x ∈ c.exceptionTable.toList, False) (hC : ck_inC G) {post : Int32 → ck_S → Prop} {px : String → ck_S → Prop} {σ : ck_S} {a0 : Int32} {H : Heap} {locs : List Loc} {ls : Array Slot} (h : sp_X6_reset (ck_nc G) (ck_nb G) σ a0 post px) (hw : ck_H G s H locs σ) (hl : lv_has ls 2 [(0, .ref (ck_ad G 0 0)), (1, .int a0)]) : W p l e ({ frames := 7, cells := 2, slots := 12, locals := 103 } : Room) s m args below meth c H locs 0 0 (vx_MQ below (va_Qi post (ck_Q G) (ck_A G s.heap.size)) (ck_XC G px (ck_A G s.heap.size)) args s 2 12 (ck_A G s.heap.size)) (F0 m 0 ls []) := by
  obtain ⟨hx, hb, hr, hml, hown, hts, hlocks⟩ := id X
  have inX4 : ∀ w ∈ wsX40, w ∈ wsX6_reset := fun _ h => List.mem_cons_of_mem _ (List.mem_append_left _ (List.mem_append_left _ (List.mem_append_left _ (List.mem_append_right _ (h)))))
  have inX6 : ∀ w ∈ wsX60, w ∈ wsX6_reset := fun _ h => List.mem_cons_of_mem _ (List.mem_append_left _ (List.mem_append_left _ (List.mem_append_left _ (List.mem_append_left _ (List.mem_append_right _ (h))))))
  unfold sp_X6_reset at h
  refine lv_iload_n hx hb dX6_reset_0 rfl (lv_at hl 1 rfl) ?_
  refine lv_bipush (v := 9) hx hb dX6_reset_1 (by decide) ?_
  refine ck_xcallSv (rest := []) ⟨hx, hb, hml, hown, hts⟩ hw hE (ct_X6_needIndex l hlt G h) (va_cwS 2 hts gX6_reset_X6_needIndex rfl rfl rfl (by decide +kernel) ⟨(Nat.le_of_ble_eq_true rfl), (Nat.le_of_ble_eq_true rfl)⟩) rfl hl.1 rfl (Nat.le_of_ble_eq_true rfl) dX6_reset_3 ⟨(Nat.le_of_ble_eq_true rfl), (Nat.le_of_ble_eq_true rfl)⟩ ?_ ?_
  · exact fun E ce q9 τ H locs hp hw h1 h2 h3 => ck_xout hno hlocks hw hp h1 h2 h3 (Nat.le_of_ble_eq_true rfl) (Nat.le_of_ble_eq_true rfl)
  · intro σ1 H locs h hw
    refine lv_aload_n hx hb dX6_reset_6 rfl (lv_at hl 0 rfl) ?_
    refine ck_xcallVv (rest := []) ⟨hx, hb, hml, hown, hts⟩ hw hE (hC.1 0 (by decide)) rfl rfl (ct_X6_needPower l hlt G hC h) (cwV 0 hts gX6_reset_X6_needPower rfl rfl rfl (by decide +kernel) ⟨(Nat.le_of_ble_eq_true rfl), (Nat.le_of_ble_eq_true rfl)⟩) rfl hl.1 rfl (Nat.le_of_ble_eq_true rfl) dX6_reset_7 ⟨(Nat.le_of_ble_eq_true rfl), (Nat.le_of_ble_eq_true rfl)⟩ ?_ ?_
    · exact fun E ce q9 τ H locs hp hw h1 h2 h3 => ck_xout hno hlocks hw hp h1 h2 h3 (Nat.le_of_ble_eq_true rfl) (Nat.le_of_ble_eq_true rfl)
    · intro σ3 H locs h hw
      refine lv_aload_n hx hb dX6_reset_10 rfl (lv_at hl 0 rfl) ?_
      refine ck_get hx hb hts inX6 hown hw (hC.1 0 (by decide)) rfl rfl 4 (by decide) (hts _ (List.mem_of_getElem? (i := 1) rfl)) rfl dX6_reset_11 ?_
      refine lv_iload_n hx hb dX6_reset_14 rfl (lv_at hl 1 rfl) ?_
      refine lv_aload_n hx hb dX6_reset_15 rfl (lv_at hl 0 rfl) ?_
      refine ck_get hx hb hts inX6 hown hw (hC.1 0 (by decide)) rfl rfl 5 (by decide) (hts _ (List.mem_of_getElem? (i := 2) rfl)) rfl dX6_reset_16 ?_
      refine ck_get hx hb hts inX4 hown hw (hC.1 5 (by decide)) rfl rfl 0 (by decide) (hts _ (List.mem_of_getElem? (i := 3) rfl)) rfl dX6_reset_19 ?_
      obtain ⟨hA, hB⟩ := h
      refine lv_if_ne (tgt := 29) hx hb dX6_reset_22 (by decide) (fun c5 => ?_) (fun c5 => ?_)
      · have h := hA c5
        refine lv_iconst (v := 0) hx hb dX6_reset_29 (by decide) ?_
        refine ck_callVi (rest := []) ⟨hx, hb, hml, hown, hts⟩ hw (hC.1 3 (by decide)) rfl rfl (ct_X0_dismiss l G hC h) (cwV 2 hts gX6_reset_X0_dismiss rfl rfl rfl (by decide +kernel) ⟨(Nat.le_of_ble_eq_true rfl), (Nat.le_of_ble_eq_true rfl)⟩) rfl hl.1 rfl (Nat.le_of_ble_eq_true rfl) dX6_reset_30 ⟨(Nat.le_of_ble_eq_true rfl), (Nat.le_of_ble_eq_true rfl)⟩ (fun x_7 σ6 H locs h hw => ?_)
        exact vx_ret (ck_zret X hw h dX6_reset_33)
      · have h := hB c5
        refine lv_iconst (v := 1) hx hb dX6_reset_25 (by decide) ?_
        refine lv_goto (tgt := 30) hx hb dX6_reset_26 (by decide) ?_
        refine ck_callVi (rest := []) ⟨hx, hb, hml, hown, hts⟩ hw (hC.1 3 (by decide)) rfl rfl (ct_X0_dismiss l G hC h) (cwV 2 hts gX6_reset_X0_dismiss rfl rfl rfl (by decide +kernel) ⟨(Nat.le_of_ble_eq_true rfl), (Nat.le_of_ble_eq_true rfl)⟩) rfl hl.1 rfl (Nat.le_of_ble_eq_true rfl) dX6_reset_30 ⟨(Nat.le_of_ble_eq_true rfl), (Nat.le_of_ble_eq_true rfl)⟩ (fun x_9 σ8 H locs h hw => ?_)
        exact vx_ret (ck_zret X hw h dX6_reset_33)
set_option maxHeartbeats 4000000 in
set_option maxRecDepth 100000 in
theorem ct_X6_reset (l : Launch) (hlt : l.stackTraces = false) (G : ck_G) (hC : ck_inC G) {a0 : Int32} {σ : ck_S} {post : Int32 → ck_S → Prop} {px : String → ck_S → Prop} (h : sp_X6_reset (ck_nc G) (ck_nb G) σ a0 post px) : ck_Xi l yX6_reset wsX6_reset ({ frames := 7, cells := 2, slots := 12, locals := 103 } : Room) G σ [.ref (ck_ad G 0 0), .int a0] post px 2 12 := by
  intro sz
  refine vx_ofW (cc := cX6_reset) (maxL := 2) (ret := (some .boolean)) (by decide) rfl ?_
  intro p e s m args below meth c s₁ B hml hno hv
  obtain ⟨rfl, rfl, hw, hE⟩ := ck_enterE hv
  have hl := lv_entry ([.ref (ck_ad G 0 0), .int a0]) (n := 2) (Nat.le_of_ble_eq_true rfl)
  rw [lg_entry_eq]
  generalize (lg_sl ([.ref (ck_ad G 0 0), .int a0]) ++ List.replicate (2 - (lg_sl ([.ref (ck_ad G 0 0), .int a0])).length) Slot.unset).toArray = ls at hl ⊢
  have hl : lv_has ls 2 [(0, .ref (ck_ad G 0 0)), (1, .int a0)] := hl
  exact wk_X6_reset_0 ⟨B.exec, B.bytes, B.returns, hml, findClass_of_methodNamed B.named, atoms_spec (ws := wsX6_reset) B.pre, B.notSynchronized⟩ hlt hE hno hC h hw hl
def sp_X6_cut (nc nb : Nat) (σ : ck_S) (a0 : Int32) (post : ck_S → Prop) (px : String → ck_S → Prop) : Prop := sp_X6_needWhole nc nb σ a0 0 32 (fun σ1 => sp_X6_needPower nc nb σ1 (fun σ3 => ∀ σ5, σ5 = ck_ui σ3 6 0 4 a0 → post σ5) px) px
set_option maxHeartbeats 4000000 in
set_option maxRecDepth 100000 in
theorem wk_X6_cut_0 {p : Program} {l : Launch} {e : Env} {s : State} {m : MethodId} {args : Array Value} {below : List Frame} {meth : Method} {c : Code} {G : ck_G} (X : ck_X p s m meth c args cX6_cut 2 none RX6 wsX6_cut) (hlt : l.stackTraces = false) (hE : ck_E (ck_A G s.heap.size) s) (hno : ∀ x ∈ c.exceptionTable.toList, False) (hC : ck_inC G) {post : ck_S → Prop} {px : String → ck_S → Prop} {σ : ck_S} {a0 : Int32} {H : Heap} {locs : List Loc} {ls : Array Slot} (h : sp_X6_cut (ck_nc G) (ck_nb G) σ a0 post px) (hw : ck_H G s H locs σ) (hl : lv_has ls 2 [(0, .ref (ck_ad G 0 0)), (1, .int a0)]) : W p l e ({ frames := 7, cells := 2, slots := 12, locals := 104 } : Room) s m args below meth c H locs 0 0 (vx_MQ below (va_Qv post (ck_Q G) (ck_A G s.heap.size)) (ck_XC G px (ck_A G s.heap.size)) args s 2 12 (ck_A G s.heap.size)) (F0 m 0 ls []) := by
  obtain ⟨hx, hb, hr, hml, hown, hts, hlocks⟩ := id X
  have inX1 : ∀ w ∈ wsX10, w ∈ wsX6_cut := fun _ h => List.mem_cons_of_mem _ (List.mem_append_left _ (List.mem_append_left _ (List.mem_append_right _ (h))))
  have inX6 : ∀ w ∈ wsX60, w ∈ wsX6_cut := fun _ h => List.mem_cons_of_mem _ (List.mem_append_left _ (List.mem_append_left _ (List.mem_append_left _ (List.mem_append_right _ (h)))))
  unfold sp_X6_cut at h
  refine lv_iload_n hx hb dX6_cut_0 rfl (lv_at hl 1 rfl) ?_
  refine lv_iconst (v := 0) hx hb dX6_cut_1 (by decide) ?_
  refine lv_bipush (v := 32) hx hb dX6_cut_2 (by decide) ?_
  refine ck_xcallSv (rest := []) ⟨hx, hb, hml, hown, hts⟩ hw hE (ct_X6_needWhole l hlt G h) (va_cwS 3 hts gX6_cut_X6_needWhole rfl rfl rfl (by decide +kernel) ⟨(Nat.le_of_ble_eq_true rfl), (Nat.le_of_ble_eq_true rfl)⟩) rfl hl.1 rfl (Nat.le_of_ble_eq_true rfl) dX6_cut_4 ⟨(Nat.le_of_ble_eq_true rfl), (Nat.le_of_ble_eq_true rfl)⟩ ?_ ?_
  · exact fun E ce q9 τ H locs hp hw h1 h2 h3 => ck_xout hno hlocks hw hp h1 h2 h3 (Nat.le_of_ble_eq_true rfl) (Nat.le_of_ble_eq_true rfl)
  · intro σ1 H locs h hw
    refine lv_aload_n hx hb dX6_cut_7 rfl (lv_at hl 0 rfl) ?_
    refine ck_xcallVv (rest := []) ⟨hx, hb, hml, hown, hts⟩ hw hE (hC.1 0 (by decide)) rfl rfl (ct_X6_needPower l hlt G hC h) (cwV 0 hts gX6_cut_X6_needPower rfl rfl rfl (by decide +kernel) ⟨(Nat.le_of_ble_eq_true rfl), (Nat.le_of_ble_eq_true rfl)⟩) rfl hl.1 rfl (Nat.le_of_ble_eq_true rfl) dX6_cut_8 ⟨(Nat.le_of_ble_eq_true rfl), (Nat.le_of_ble_eq_true rfl)⟩ ?_ ?_
    · exact fun E ce q9 τ H locs hp hw h1 h2 h3 => ck_xout hno hlocks hw hp h1 h2 h3 (Nat.le_of_ble_eq_true rfl) (Nat.le_of_ble_eq_true rfl)
    · intro σ3 H locs h hw
      refine lv_aload_n hx hb dX6_cut_11 rfl (lv_at hl 0 rfl) ?_
      refine ck_get hx hb hts inX6 hown hw (hC.1 0 (by decide)) rfl rfl 6 (by decide) (hts _ (List.mem_of_getElem? (i := 1) rfl)) rfl dX6_cut_12 ?_
      refine lv_iload_n hx hb dX6_cut_15 rfl (lv_at hl 1 rfl) ?_
      refine ck_puti hx hb hts inX1 tyX1 tyX1_ok nmX1 hown hw (hC.1 6 (by decide)) rfl rfl 4 (by decide) (hts _ (List.mem_of_getElem? (i := 2) rfl)) rfl rfl rfl (Nat.le_of_ble_eq_true rfl) rfl dX6_cut_16 (fun H locs hw => ?_)
      obtain ⟨σ5, eσ5⟩ : ∃ z : ck_S, z = ck_ui σ3 6 0 4 a0 := ⟨_, rfl⟩
      rw [← eσ5] at hw
      have h := h σ5 eσ5
      exact vx_ret (ck_vret X hw h dX6_cut_19)
set_option maxHeartbeats 4000000 in
set_option maxRecDepth 100000 in
theorem ct_X6_cut (l : Launch) (hlt : l.stackTraces = false) (G : ck_G) (hC : ck_inC G) {a0 : Int32} {σ : ck_S} {post : ck_S → Prop} {px : String → ck_S → Prop} (h : sp_X6_cut (ck_nc G) (ck_nb G) σ a0 post px) : ck_Xv l yX6_cut wsX6_cut ({ frames := 7, cells := 2, slots := 12, locals := 104 } : Room) G σ [.ref (ck_ad G 0 0), .int a0] post px 2 12 := by
  intro sz
  refine vx_ofW (cc := cX6_cut) (maxL := 2) (ret := none) (by decide) rfl ?_
  intro p e s m args below meth c s₁ B hml hno hv
  obtain ⟨rfl, rfl, hw, hE⟩ := ck_enterE hv
  have hl := lv_entry ([.ref (ck_ad G 0 0), .int a0]) (n := 2) (Nat.le_of_ble_eq_true rfl)
  rw [lg_entry_eq]
  generalize (lg_sl ([.ref (ck_ad G 0 0), .int a0]) ++ List.replicate (2 - (lg_sl ([.ref (ck_ad G 0 0), .int a0])).length) Slot.unset).toArray = ls at hl ⊢
  have hl : lv_has ls 2 [(0, .ref (ck_ad G 0 0)), (1, .int a0)] := hl
  exact wk_X6_cut_0 ⟨B.exec, B.bytes, B.returns, hml, findClass_of_methodNamed B.named, atoms_spec (ws := wsX6_cut) B.pre, B.notSynchronized⟩ hlt hE hno hC h hw hl
def sp_X6_time (nc nb : Nat) (σ : ck_S) (post : Int32 → ck_S → Prop) (px : String → ck_S → Prop) : Prop := sp_X6_needPower nc nb σ (fun σ1 => post (ck_gi σ1 0 0 8) σ1) px
set_option maxHeartbeats 4000000 in
set_option maxRecDepth 100000 in
theorem wk_X6_time_0 {p : Program} {l : Launch} {e : Env} {s : State} {m : MethodId} {args : Array Value} {below : List Frame} {meth : Method} {c : Code} {G : ck_G} (X : ck_X p s m meth c args cX6_time 1 (some .int) RX6 wsX6_time) (hlt : l.stackTraces = false) (hE : ck_E (ck_A G s.heap.size) s) (hno : ∀ x ∈ c.exceptionTable.toList, False) (hC : ck_inC G) {post : Int32 → ck_S → Prop} {px : String → ck_S → Prop} {σ : ck_S} {H : Heap} {locs : List Loc} {ls : Array Slot} (h : sp_X6_time (ck_nc G) (ck_nb G) σ post px) (hw : ck_H G s H locs σ) (hl : lv_has ls 1 [(0, .ref (ck_ad G 0 0))]) : W p l e ({ frames := 7, cells := 1, slots := 6, locals := 102 } : Room) s m args below meth c H locs 0 0 (vx_MQ below (va_Qi post (ck_Q G) (ck_A G s.heap.size)) (ck_XC G px (ck_A G s.heap.size)) args s 1 6 (ck_A G s.heap.size)) (F0 m 0 ls []) := by
  obtain ⟨hx, hb, hr, hml, hown, hts, hlocks⟩ := id X
  have inX6 : ∀ w ∈ wsX60, w ∈ wsX6_time := fun _ h => List.mem_cons_of_mem _ (List.mem_append_left _ (List.mem_append_right _ (h)))
  unfold sp_X6_time at h
  refine lv_aload_n hx hb dX6_time_0 rfl (lv_at hl 0 rfl) ?_
  refine ck_xcallVv (rest := []) ⟨hx, hb, hml, hown, hts⟩ hw hE (hC.1 0 (by decide)) rfl rfl (ct_X6_needPower l hlt G hC h) (cwV 0 hts gX6_time_X6_needPower rfl rfl rfl (by decide +kernel) ⟨(Nat.le_of_ble_eq_true rfl), (Nat.le_of_ble_eq_true rfl)⟩) rfl hl.1 rfl (Nat.le_of_ble_eq_true rfl) dX6_time_1 ⟨(Nat.le_of_ble_eq_true rfl), (Nat.le_of_ble_eq_true rfl)⟩ ?_ ?_
  · exact fun E ce q9 τ H locs hp hw h1 h2 h3 => ck_xout hno hlocks hw hp h1 h2 h3 (Nat.le_of_ble_eq_true rfl) (Nat.le_of_ble_eq_true rfl)
  · intro σ1 H locs h hw
    refine lv_aload_n hx hb dX6_time_4 rfl (lv_at hl 0 rfl) ?_
    refine ck_get hx hb hts inX6 hown hw (hC.1 0 (by decide)) rfl rfl 8 (by decide) (hts _ (List.mem_of_getElem? (i := 1) rfl)) rfl dX6_time_5 ?_
    exact vx_ret (ck_iret X hw h dX6_time_8)
set_option maxHeartbeats 4000000 in
set_option maxRecDepth 100000 in
theorem ct_X6_time (l : Launch) (hlt : l.stackTraces = false) (G : ck_G) (hC : ck_inC G) {σ : ck_S} {post : Int32 → ck_S → Prop} {px : String → ck_S → Prop} (h : sp_X6_time (ck_nc G) (ck_nb G) σ post px) : ck_Xi l yX6_time wsX6_time ({ frames := 7, cells := 1, slots := 6, locals := 102 } : Room) G σ [.ref (ck_ad G 0 0)] post px 1 6 := by
  intro sz
  refine vx_ofW (cc := cX6_time) (maxL := 1) (ret := (some .int)) (by decide) rfl ?_
  intro p e s m args below meth c s₁ B hml hno hv
  obtain ⟨rfl, rfl, hw, hE⟩ := ck_enterE hv
  have hl := lv_entry ([.ref (ck_ad G 0 0)]) (n := 1) (Nat.le_of_ble_eq_true rfl)
  rw [lg_entry_eq]
  generalize (lg_sl ([.ref (ck_ad G 0 0)]) ++ List.replicate (1 - (lg_sl ([.ref (ck_ad G 0 0)])).length) Slot.unset).toArray = ls at hl ⊢
  have hl : lv_has ls 1 [(0, .ref (ck_ad G 0 0))] := hl
  exact wk_X6_time_0 ⟨B.exec, B.bytes, B.returns, hml, findClass_of_methodNamed B.named, atoms_spec (ws := wsX6_time) B.pre, B.notSynchronized⟩ hlt hE hno hC h hw hl
def sp_X6_charge (nc nb : Nat) (σ : ck_S) (post : UInt64 → ck_S → Prop) (px : String → ck_S → Prop) : Prop := sp_X6_needPower nc nb σ (fun σ1 => post (ck_gd σ1 0 0 9) σ1) px
set_option maxHeartbeats 4000000 in
set_option maxRecDepth 100000 in
theorem wk_X6_charge_0 {p : Program} {l : Launch} {e : Env} {s : State} {m : MethodId} {args : Array Value} {below : List Frame} {meth : Method} {c : Code} {G : ck_G} (X : ck_X p s m meth c args cX6_charge 1 (some .double) RX6 wsX6_charge) (hlt : l.stackTraces = false) (hE : ck_E (ck_A G s.heap.size) s) (hno : ∀ x ∈ c.exceptionTable.toList, False) (hC : ck_inC G) {post : UInt64 → ck_S → Prop} {px : String → ck_S → Prop} {σ : ck_S} {H : Heap} {locs : List Loc} {ls : Array Slot} (h : sp_X6_charge (ck_nc G) (ck_nb G) σ post px) (hw : ck_H G s H locs σ) (hl : lv_has ls 1 [(0, .ref (ck_ad G 0 0))]) : W p l e ({ frames := 7, cells := 1, slots := 6, locals := 102 } : Room) s m args below meth c H locs 0 0 (vx_MQ below (va_Qd post (ck_Q G) (ck_A G s.heap.size)) (ck_XC G px (ck_A G s.heap.size)) args s 1 6 (ck_A G s.heap.size)) (F0 m 0 ls []) := by
  obtain ⟨hx, hb, hr, hml, hown, hts, hlocks⟩ := id X
  have inX6 : ∀ w ∈ wsX60, w ∈ wsX6_charge := fun _ h => List.mem_cons_of_mem _ (List.mem_append_left _ (List.mem_append_right _ (h)))
  unfold sp_X6_charge at h
  refine lv_aload_n hx hb dX6_charge_0 rfl (lv_at hl 0 rfl) ?_
  refine ck_xcallVv (rest := []) ⟨hx, hb, hml, hown, hts⟩ hw hE (hC.1 0 (by decide)) rfl rfl (ct_X6_needPower l hlt G hC h) (cwV 0 hts gX6_charge_X6_needPower rfl rfl rfl (by decide +kernel) ⟨(Nat.le_of_ble_eq_true rfl), (Nat.le_of_ble_eq_true rfl)⟩) rfl hl.1 rfl (Nat.le_of_ble_eq_true rfl) dX6_charge_1 ⟨(Nat.le_of_ble_eq_true rfl), (Nat.le_of_ble_eq_true rfl)⟩ ?_ ?_
  · exact fun E ce q9 τ H locs hp hw h1 h2 h3 => ck_xout hno hlocks hw hp h1 h2 h3 (Nat.le_of_ble_eq_true rfl) (Nat.le_of_ble_eq_true rfl)
  · intro σ1 H locs h hw
    refine lv_aload_n hx hb dX6_charge_4 rfl (lv_at hl 0 rfl) ?_
    refine ck_get hx hb hts inX6 hown hw (hC.1 0 (by decide)) rfl rfl 9 (by decide) (hts _ (List.mem_of_getElem? (i := 1) rfl)) rfl dX6_charge_5 ?_
    exact vx_ret (ck_dret X hw h dX6_charge_8)
set_option maxHeartbeats 4000000 in
set_option maxRecDepth 100000 in
theorem ct_X6_charge (l : Launch) (hlt : l.stackTraces = false) (G : ck_G) (hC : ck_inC G) {σ : ck_S} {post : UInt64 → ck_S → Prop} {px : String → ck_S → Prop} (h : sp_X6_charge (ck_nc G) (ck_nb G) σ post px) : ck_Xd l yX6_charge wsX6_charge ({ frames := 7, cells := 1, slots := 6, locals := 102 } : Room) G σ [.ref (ck_ad G 0 0)] post px 1 6 := by
  intro sz
  refine vx_ofW (cc := cX6_charge) (maxL := 1) (ret := (some .double)) (by decide) rfl ?_
  intro p e s m args below meth c s₁ B hml hno hv
  obtain ⟨rfl, rfl, hw, hE⟩ := ck_enterE hv
  have hl := lv_entry ([.ref (ck_ad G 0 0)]) (n := 1) (Nat.le_of_ble_eq_true rfl)
  rw [lg_entry_eq]
  generalize (lg_sl ([.ref (ck_ad G 0 0)]) ++ List.replicate (1 - (lg_sl ([.ref (ck_ad G 0 0)])).length) Slot.unset).toArray = ls at hl ⊢
  have hl : lv_has ls 1 [(0, .ref (ck_ad G 0 0))] := hl
  exact wk_X6_charge_0 ⟨B.exec, B.bytes, B.returns, hml, findClass_of_methodNamed B.named, atoms_spec (ws := wsX6_charge) B.pre, B.notSynchronized⟩ hlt hE hno hC h hw hl
def sp_X6_percent (nc nb : Nat) (σ : ck_S) (post : Int32 → ck_S → Prop) (px : String → ck_S → Prop) : Prop := sp_X6_needPower nc nb σ (fun σ1 => (vf_n64 (FP.dmul 4636737291354636288 (ck_gd σ1 0 0 9))) ∧ sp_X6_wholeCapacities nc nb σ1 (FP.dmul 4636737291354636288 (ck_gd σ1 0 0 9)) (fun x_5 σ4 => post x_5 σ4)) px
set_option maxHeartbeats 4000000 in
set_option maxRecDepth 100000 in
theorem wk_X6_percent_0 {p : Program} {l : Launch} {e : Env} {s : State} {m : MethodId} {args : Array Value} {below : List Frame} {meth : Method} {c : Code} {G : ck_G} (X : ck_X p s m meth c args cX6_percent 1 (some .int) RX6 wsX6_percent) (hlt : l.stackTraces = false) (hE : ck_E (ck_A G s.heap.size) s) (hno : ∀ x ∈ c.exceptionTable.toList, False) (hC : ck_inC G) {post : Int32 → ck_S → Prop} {px : String → ck_S → Prop} {σ : ck_S} {H : Heap} {locs : List Loc} {ls : Array Slot} (h : sp_X6_percent (ck_nc G) (ck_nb G) σ post px) (hw : ck_H G s H locs σ) (hl : lv_has ls 1 [(0, .ref (ck_ad G 0 0))]) : W p l e ({ frames := 7, cells := 1, slots := 6, locals := 102 } : Room) s m args below meth c H locs 0 0 (vx_MQ below (va_Qi post (ck_Q G) (ck_A G s.heap.size)) (ck_XC G px (ck_A G s.heap.size)) args s 1 6 (ck_A G s.heap.size)) (F0 m 0 ls []) := by
  obtain ⟨hx, hb, hr, hml, hown, hts, hlocks⟩ := id X
  have inX6 : ∀ w ∈ wsX60, w ∈ wsX6_percent := fun _ h => List.mem_cons_of_mem _ (List.mem_append_left _ (List.mem_append_right _ (h)))
  unfold sp_X6_percent at h
  refine lv_aload_n hx hb dX6_percent_0 rfl (lv_at hl 0 rfl) ?_
  refine ck_xcallVv (rest := []) ⟨hx, hb, hml, hown, hts⟩ hw hE (hC.1 0 (by decide)) rfl rfl (ct_X6_needPower l hlt G hC h) (cwV 0 hts gX6_percent_X6_needPower rfl rfl rfl (by decide +kernel) ⟨(Nat.le_of_ble_eq_true rfl), (Nat.le_of_ble_eq_true rfl)⟩) rfl hl.1 rfl (Nat.le_of_ble_eq_true rfl) dX6_percent_1 ⟨(Nat.le_of_ble_eq_true rfl), (Nat.le_of_ble_eq_true rfl)⟩ ?_ ?_
  · exact fun E ce q9 τ H locs hp hw h1 h2 h3 => ck_xout hno hlocks hw hp h1 h2 h3 (Nat.le_of_ble_eq_true rfl) (Nat.le_of_ble_eq_true rfl)
  · intro σ1 H locs h hw
    refine lv_aload_n hx hb dX6_percent_4 rfl (lv_at hl 0 rfl) ?_
    refine lv_ldc2d hx hb hown (hts _ (List.mem_of_getElem? (i := 1) rfl)) dX6_percent_5 ?_
    refine lv_aload_n hx hb dX6_percent_8 rfl (lv_at hl 0 rfl) ?_
    refine ck_get hx hb hts inX6 hown hw (hC.1 0 (by decide)) rfl rfl 9 (by decide) (hts _ (List.mem_of_getElem? (i := 2) rfl)) rfl dX6_percent_9 ?_
    obtain ⟨n3, h⟩ := h
    refine lv_dmul hx hb dX6_percent_12 n3 ?_
    refine ck_callVi (rest := []) ⟨hx, hb, hml, hown, hts⟩ hw (hC.1 0 (by decide)) rfl rfl (ct_X6_wholeCapacities l G hC h) (cwV 1 hts gX6_percent_X6_wholeCapacities rfl rfl rfl (by decide +kernel) ⟨(Nat.le_of_ble_eq_true rfl), (Nat.le_of_ble_eq_true rfl)⟩) rfl hl.1 rfl (Nat.le_of_ble_eq_true rfl) dX6_percent_13 ⟨(Nat.le_of_ble_eq_true rfl), (Nat.le_of_ble_eq_true rfl)⟩ (fun x_5 σ4 H locs h hw => ?_)
    exact vx_ret (ck_iret X hw h dX6_percent_16)
set_option maxHeartbeats 4000000 in
set_option maxRecDepth 100000 in
theorem ct_X6_percent (l : Launch) (hlt : l.stackTraces = false) (G : ck_G) (hC : ck_inC G) {σ : ck_S} {post : Int32 → ck_S → Prop} {px : String → ck_S → Prop} (h : sp_X6_percent (ck_nc G) (ck_nb G) σ post px) : ck_Xi l yX6_percent wsX6_percent ({ frames := 7, cells := 1, slots := 6, locals := 102 } : Room) G σ [.ref (ck_ad G 0 0)] post px 1 6 := by
  intro sz
  refine vx_ofW (cc := cX6_percent) (maxL := 1) (ret := (some .int)) (by decide) rfl ?_
  intro p e s m args below meth c s₁ B hml hno hv
  obtain ⟨rfl, rfl, hw, hE⟩ := ck_enterE hv
  have hl := lv_entry ([.ref (ck_ad G 0 0)]) (n := 1) (Nat.le_of_ble_eq_true rfl)
  rw [lg_entry_eq]
  generalize (lg_sl ([.ref (ck_ad G 0 0)]) ++ List.replicate (1 - (lg_sl ([.ref (ck_ad G 0 0)])).length) Slot.unset).toArray = ls at hl ⊢
  have hl : lv_has ls 1 [(0, .ref (ck_ad G 0 0))] := hl
  exact wk_X6_percent_0 ⟨B.exec, B.bytes, B.returns, hml, findClass_of_methodNamed B.named, atoms_spec (ws := wsX6_percent) B.pre, B.notSynchronized⟩ hlt hE hno hC h hw hl
def sp_X6_through (nc nb : Nat) (σ : ck_S) (post : UInt64 → ck_S → Prop) (px : String → ck_S → Prop) : Prop := sp_X6_needPower nc nb σ (fun σ1 => post (ck_gd σ1 0 0 10) σ1) px
set_option maxHeartbeats 4000000 in
set_option maxRecDepth 100000 in
theorem wk_X6_through_0 {p : Program} {l : Launch} {e : Env} {s : State} {m : MethodId} {args : Array Value} {below : List Frame} {meth : Method} {c : Code} {G : ck_G} (X : ck_X p s m meth c args cX6_through 1 (some .double) RX6 wsX6_through) (hlt : l.stackTraces = false) (hE : ck_E (ck_A G s.heap.size) s) (hno : ∀ x ∈ c.exceptionTable.toList, False) (hC : ck_inC G) {post : UInt64 → ck_S → Prop} {px : String → ck_S → Prop} {σ : ck_S} {H : Heap} {locs : List Loc} {ls : Array Slot} (h : sp_X6_through (ck_nc G) (ck_nb G) σ post px) (hw : ck_H G s H locs σ) (hl : lv_has ls 1 [(0, .ref (ck_ad G 0 0))]) : W p l e ({ frames := 7, cells := 1, slots := 6, locals := 102 } : Room) s m args below meth c H locs 0 0 (vx_MQ below (va_Qd post (ck_Q G) (ck_A G s.heap.size)) (ck_XC G px (ck_A G s.heap.size)) args s 1 6 (ck_A G s.heap.size)) (F0 m 0 ls []) := by
  obtain ⟨hx, hb, hr, hml, hown, hts, hlocks⟩ := id X
  have inX6 : ∀ w ∈ wsX60, w ∈ wsX6_through := fun _ h => List.mem_cons_of_mem _ (List.mem_append_left _ (List.mem_append_right _ (h)))
  unfold sp_X6_through at h
  refine lv_aload_n hx hb dX6_through_0 rfl (lv_at hl 0 rfl) ?_
  refine ck_xcallVv (rest := []) ⟨hx, hb, hml, hown, hts⟩ hw hE (hC.1 0 (by decide)) rfl rfl (ct_X6_needPower l hlt G hC h) (cwV 0 hts gX6_through_X6_needPower rfl rfl rfl (by decide +kernel) ⟨(Nat.le_of_ble_eq_true rfl), (Nat.le_of_ble_eq_true rfl)⟩) rfl hl.1 rfl (Nat.le_of_ble_eq_true rfl) dX6_through_1 ⟨(Nat.le_of_ble_eq_true rfl), (Nat.le_of_ble_eq_true rfl)⟩ ?_ ?_
  · exact fun E ce q9 τ H locs hp hw h1 h2 h3 => ck_xout hno hlocks hw hp h1 h2 h3 (Nat.le_of_ble_eq_true rfl) (Nat.le_of_ble_eq_true rfl)
  · intro σ1 H locs h hw
    refine lv_aload_n hx hb dX6_through_4 rfl (lv_at hl 0 rfl) ?_
    refine ck_get hx hb hts inX6 hown hw (hC.1 0 (by decide)) rfl rfl 10 (by decide) (hts _ (List.mem_of_getElem? (i := 1) rfl)) rfl dX6_through_5 ?_
    exact vx_ret (ck_dret X hw h dX6_through_8)
set_option maxHeartbeats 4000000 in
set_option maxRecDepth 100000 in
theorem ct_X6_through (l : Launch) (hlt : l.stackTraces = false) (G : ck_G) (hC : ck_inC G) {σ : ck_S} {post : UInt64 → ck_S → Prop} {px : String → ck_S → Prop} (h : sp_X6_through (ck_nc G) (ck_nb G) σ post px) : ck_Xd l yX6_through wsX6_through ({ frames := 7, cells := 1, slots := 6, locals := 102 } : Room) G σ [.ref (ck_ad G 0 0)] post px 1 6 := by
  intro sz
  refine vx_ofW (cc := cX6_through) (maxL := 1) (ret := (some .double)) (by decide) rfl ?_
  intro p e s m args below meth c s₁ B hml hno hv
  obtain ⟨rfl, rfl, hw, hE⟩ := ck_enterE hv
  have hl := lv_entry ([.ref (ck_ad G 0 0)]) (n := 1) (Nat.le_of_ble_eq_true rfl)
  rw [lg_entry_eq]
  generalize (lg_sl ([.ref (ck_ad G 0 0)]) ++ List.replicate (1 - (lg_sl ([.ref (ck_ad G 0 0)])).length) Slot.unset).toArray = ls at hl ⊢
  have hl : lv_has ls 1 [(0, .ref (ck_ad G 0 0))] := hl
  exact wk_X6_through_0 ⟨B.exec, B.bytes, B.returns, hml, findClass_of_methodNamed B.named, atoms_spec (ws := wsX6_through) B.pre, B.notSynchronized⟩ hlt hE hno hC h hw hl
def sp_X6_allowed (nc nb : Nat) (σ : ck_S) (a0 : Int32) (post : UInt64 → ck_S → Prop) (px : String → ck_S → Prop) : Prop := sp_X6_needPower nc nb σ (fun σ1 => ((a0 = 0 → (post (ck_gd σ1 0 0 15) σ1)) ∧ (¬ a0 = 0 → (post (ck_gd σ1 0 0 16) σ1)))) px
set_option maxHeartbeats 4000000 in
set_option maxRecDepth 100000 in
theorem wk_X6_allowed_0 {p : Program} {l : Launch} {e : Env} {s : State} {m : MethodId} {args : Array Value} {below : List Frame} {meth : Method} {c : Code} {G : ck_G} (X : ck_X p s m meth c args cX6_allowed 2 (some .double) RX6 wsX6_allowed) (hlt : l.stackTraces = false) (hE : ck_E (ck_A G s.heap.size) s) (hno : ∀ x ∈ c.exceptionTable.toList, False) (hC : ck_inC G) {post : UInt64 → ck_S → Prop} {px : String → ck_S → Prop} {σ : ck_S} {a0 : Int32} {H : Heap} {locs : List Loc} {ls : Array Slot} (h : sp_X6_allowed (ck_nc G) (ck_nb G) σ a0 post px) (hw : ck_H G s H locs σ) (hl : lv_has ls 2 [(0, .ref (ck_ad G 0 0)), (1, .int a0)]) : W p l e ({ frames := 7, cells := 1, slots := 6, locals := 102 } : Room) s m args below meth c H locs 0 0 (vx_MQ below (va_Qd post (ck_Q G) (ck_A G s.heap.size)) (ck_XC G px (ck_A G s.heap.size)) args s 1 6 (ck_A G s.heap.size)) (F0 m 0 ls []) := by
  obtain ⟨hx, hb, hr, hml, hown, hts, hlocks⟩ := id X
  have inX6 : ∀ w ∈ wsX60, w ∈ wsX6_allowed := fun _ h => List.mem_cons_of_mem _ (List.mem_append_left _ (List.mem_append_right _ (h)))
  unfold sp_X6_allowed at h
  refine lv_aload_n hx hb dX6_allowed_0 rfl (lv_at hl 0 rfl) ?_
  refine ck_xcallVv (rest := []) ⟨hx, hb, hml, hown, hts⟩ hw hE (hC.1 0 (by decide)) rfl rfl (ct_X6_needPower l hlt G hC h) (cwV 0 hts gX6_allowed_X6_needPower rfl rfl rfl (by decide +kernel) ⟨(Nat.le_of_ble_eq_true rfl), (Nat.le_of_ble_eq_true rfl)⟩) rfl hl.1 rfl (Nat.le_of_ble_eq_true rfl) dX6_allowed_1 ⟨(Nat.le_of_ble_eq_true rfl), (Nat.le_of_ble_eq_true rfl)⟩ ?_ ?_
  · exact fun E ce q9 τ H locs hp hw h1 h2 h3 => ck_xout hno hlocks hw hp h1 h2 h3 (Nat.le_of_ble_eq_true rfl) (Nat.le_of_ble_eq_true rfl)
  · intro σ1 H locs h hw
    refine lv_iload_n hx hb dX6_allowed_4 rfl (lv_at hl 1 rfl) ?_
    obtain ⟨hA, hB⟩ := h
    refine lv_if_eq (tgt := 15) hx hb dX6_allowed_5 (by decide) (fun c3 => ?_) (fun c3 => ?_)
    · have h := hA c3
      refine lv_aload_n hx hb dX6_allowed_15 rfl (lv_at hl 0 rfl) ?_
      refine ck_get hx hb hts inX6 hown hw (hC.1 0 (by decide)) rfl rfl 15 (by decide) (hts _ (List.mem_of_getElem? (i := 2) rfl)) rfl dX6_allowed_16 ?_
      exact vx_ret (ck_dret X hw h dX6_allowed_19)
    · have h := hB c3
      refine lv_aload_n hx hb dX6_allowed_8 rfl (lv_at hl 0 rfl) ?_
      refine ck_get hx hb hts inX6 hown hw (hC.1 0 (by decide)) rfl rfl 16 (by decide) (hts _ (List.mem_of_getElem? (i := 1) rfl)) rfl dX6_allowed_9 ?_
      refine lv_goto (tgt := 19) hx hb dX6_allowed_12 (by decide) ?_
      exact vx_ret (ck_dret X hw h dX6_allowed_19)
set_option maxHeartbeats 4000000 in
set_option maxRecDepth 100000 in
theorem ct_X6_allowed (l : Launch) (hlt : l.stackTraces = false) (G : ck_G) (hC : ck_inC G) {a0 : Int32} {σ : ck_S} {post : UInt64 → ck_S → Prop} {px : String → ck_S → Prop} (h : sp_X6_allowed (ck_nc G) (ck_nb G) σ a0 post px) : ck_Xd l yX6_allowed wsX6_allowed ({ frames := 7, cells := 1, slots := 6, locals := 102 } : Room) G σ [.ref (ck_ad G 0 0), .int a0] post px 1 6 := by
  intro sz
  refine vx_ofW (cc := cX6_allowed) (maxL := 2) (ret := (some .double)) (by decide) rfl ?_
  intro p e s m args below meth c s₁ B hml hno hv
  obtain ⟨rfl, rfl, hw, hE⟩ := ck_enterE hv
  have hl := lv_entry ([.ref (ck_ad G 0 0), .int a0]) (n := 2) (Nat.le_of_ble_eq_true rfl)
  rw [lg_entry_eq]
  generalize (lg_sl ([.ref (ck_ad G 0 0), .int a0]) ++ List.replicate (2 - (lg_sl ([.ref (ck_ad G 0 0), .int a0])).length) Slot.unset).toArray = ls at hl ⊢
  have hl : lv_has ls 2 [(0, .ref (ck_ad G 0 0)), (1, .int a0)] := hl
  exact wk_X6_allowed_0 ⟨B.exec, B.bytes, B.returns, hml, findClass_of_methodNamed B.named, atoms_spec (ws := wsX6_allowed) B.pre, B.notSynchronized⟩ hlt hE hno hC h hw hl
def sp_X6_valid (nc nb : Nat) (σ : ck_S) (a0 : Int32) (a1 : Int32) (post : Int32 → ck_S → Prop) (px : String → ck_S → Prop) : Prop := sp_X6_needChip nc nb σ a0 (fun σ1 => sp_X6_needIndex nc nb σ1 a1 6 (fun σ3 => sp_X6_needPower nc nb σ3 (fun σ5 => (vp_in a0 nc) ∧ ∀ j8, j8 = Int32.toNatClampNeg a0 → sp_X3_isValid nc nb σ5 j8 a1 (fun x_10 σ9 => (ck_b x_10 ∧ post x_10 σ9))) px) px) px
set_option maxHeartbeats 4000000 in
set_option maxRecDepth 100000 in
theorem wk_X6_valid_0 {p : Program} {l : Launch} {e : Env} {s : State} {m : MethodId} {args : Array Value} {below : List Frame} {meth : Method} {c : Code} {G : ck_G} (X : ck_X p s m meth c args cX6_valid 3 (some .boolean) RX6 wsX6_valid) (hlt : l.stackTraces = false) (hE : ck_E (ck_A G s.heap.size) s) (hno : ∀ x ∈ c.exceptionTable.toList, False) (hC : ck_inC G) {post : Int32 → ck_S → Prop} {px : String → ck_S → Prop} {σ : ck_S} {a0 : Int32} {a1 : Int32} {H : Heap} {locs : List Loc} {ls : Array Slot} (h : sp_X6_valid (ck_nc G) (ck_nb G) σ a0 a1 post px) (hw : ck_H G s H locs σ) (hl : lv_has ls 3 [(0, .ref (ck_ad G 0 0)), (1, .int a0), (2, .int a1)]) : W p l e ({ frames := 8, cells := 3, slots := 18, locals := 124 } : Room) s m args below meth c H locs 0 0 (vx_MQ below (va_Qi post (ck_Q G) (ck_A G s.heap.size)) (ck_XC G px (ck_A G s.heap.size)) args s 3 18 (ck_A G s.heap.size)) (F0 m 0 ls []) := by
  obtain ⟨hx, hb, hr, hml, hown, hts, hlocks⟩ := id X
  have inX6 : ∀ w ∈ wsX60, w ∈ wsX6_valid := fun _ h => List.mem_cons_of_mem _ (List.mem_append_left _ (List.mem_append_left _ (List.mem_append_left _ (List.mem_append_right _ (h)))))
  unfold sp_X6_valid at h
  refine lv_aload_n hx hb dX6_valid_0 rfl (lv_at hl 0 rfl) ?_
  refine lv_iload_n hx hb dX6_valid_1 rfl (lv_at hl 1 rfl) ?_
  refine ck_xcallVv (rest := []) ⟨hx, hb, hml, hown, hts⟩ hw hE (hC.1 0 (by decide)) rfl rfl (ct_X6_needChip l hlt G hC h) (cwV 1 hts gX6_valid_X6_needChip rfl rfl rfl (by decide +kernel) ⟨(Nat.le_of_ble_eq_true rfl), (Nat.le_of_ble_eq_true rfl)⟩) rfl hl.1 rfl (Nat.le_of_ble_eq_true rfl) dX6_valid_2 ⟨(Nat.le_of_ble_eq_true rfl), (Nat.le_of_ble_eq_true rfl)⟩ ?_ ?_
  · exact fun E ce q9 τ H locs hp hw h1 h2 h3 => ck_xout hno hlocks hw hp h1 h2 h3 (Nat.le_of_ble_eq_true rfl) (Nat.le_of_ble_eq_true rfl)
  · intro σ1 H locs h hw
    refine lv_iload_n hx hb dX6_valid_5 rfl (lv_at hl 2 rfl) ?_
    refine lv_bipush (v := 6) hx hb dX6_valid_6 (by decide) ?_
    refine ck_xcallSv (rest := []) ⟨hx, hb, hml, hown, hts⟩ hw hE (ct_X6_needIndex l hlt G h) (va_cwS 2 hts gX6_valid_X6_needIndex rfl rfl rfl (by decide +kernel) ⟨(Nat.le_of_ble_eq_true rfl), (Nat.le_of_ble_eq_true rfl)⟩) rfl hl.1 rfl (Nat.le_of_ble_eq_true rfl) dX6_valid_8 ⟨(Nat.le_of_ble_eq_true rfl), (Nat.le_of_ble_eq_true rfl)⟩ ?_ ?_
    · exact fun E ce q9 τ H locs hp hw h1 h2 h3 => ck_xout hno hlocks hw hp h1 h2 h3 (Nat.le_of_ble_eq_true rfl) (Nat.le_of_ble_eq_true rfl)
    · intro σ3 H locs h hw
      refine lv_aload_n hx hb dX6_valid_11 rfl (lv_at hl 0 rfl) ?_
      refine ck_xcallVv (rest := []) ⟨hx, hb, hml, hown, hts⟩ hw hE (hC.1 0 (by decide)) rfl rfl (ct_X6_needPower l hlt G hC h) (cwV 0 hts gX6_valid_X6_needPower rfl rfl rfl (by decide +kernel) ⟨(Nat.le_of_ble_eq_true rfl), (Nat.le_of_ble_eq_true rfl)⟩) rfl hl.1 rfl (Nat.le_of_ble_eq_true rfl) dX6_valid_12 ⟨(Nat.le_of_ble_eq_true rfl), (Nat.le_of_ble_eq_true rfl)⟩ ?_ ?_
      · exact fun E ce q9 τ H locs hp hw h1 h2 h3 => ck_xout hno hlocks hw hp h1 h2 h3 (Nat.le_of_ble_eq_true rfl) (Nat.le_of_ble_eq_true rfl)
      · intro σ5 H locs h hw
        refine lv_aload_n hx hb dX6_valid_15 rfl (lv_at hl 0 rfl) ?_
        refine ck_get hx hb hts inX6 hown hw (hC.1 0 (by decide)) rfl rfl 0 (by decide) (hts _ (List.mem_of_getElem? (i := 1) rfl)) rfl dX6_valid_16 ?_
        refine lv_iload_n hx hb dX6_valid_19 rfl (lv_at hl 1 rfl) ?_
        obtain ⟨n7, h⟩ := h
        refine ck_aald hx hb hw (hC.1 1 (by decide)) n7 dX6_valid_20 ?_
        obtain ⟨j8, ej8⟩ : ∃ z : Nat, z = Int32.toNatClampNeg a0 := ⟨_, rfl⟩
        have hj8 : j8 < ck_nc G := by rw [ej8]; exact ck_in n7
        rw [← ej8]
        have h := h j8 ej8
        refine lv_iload_n hx hb dX6_valid_21 rfl (lv_at hl 2 rfl) ?_
        refine ck_callVi (rest := []) ⟨hx, hb, hml, hown, hts⟩ hw (hC.2 30 _ (by decide) (by decide) hj8) rfl rfl (ct_X3_isValid l G hC hj8 h) (cwV 1 hts gX6_valid_X3_isValid rfl rfl rfl (by decide +kernel) ⟨(Nat.le_of_ble_eq_true rfl), (Nat.le_of_ble_eq_true rfl)⟩) rfl hl.1 rfl (Nat.le_of_ble_eq_true rfl) dX6_valid_22 ⟨(Nat.le_of_ble_eq_true rfl), (Nat.le_of_ble_eq_true rfl)⟩ (fun x_10 σ9 H locs h hw => ?_)
        exact vx_ret (ck_zret X hw h dX6_valid_25)
set_option maxHeartbeats 4000000 in
set_option maxRecDepth 100000 in
theorem ct_X6_valid (l : Launch) (hlt : l.stackTraces = false) (G : ck_G) (hC : ck_inC G) {a0 : Int32} {a1 : Int32} {σ : ck_S} {post : Int32 → ck_S → Prop} {px : String → ck_S → Prop} (h : sp_X6_valid (ck_nc G) (ck_nb G) σ a0 a1 post px) : ck_Xi l yX6_valid wsX6_valid ({ frames := 8, cells := 3, slots := 18, locals := 124 } : Room) G σ [.ref (ck_ad G 0 0), .int a0, .int a1] post px 3 18 := by
  intro sz
  refine vx_ofW (cc := cX6_valid) (maxL := 3) (ret := (some .boolean)) (by decide) rfl ?_
  intro p e s m args below meth c s₁ B hml hno hv
  obtain ⟨rfl, rfl, hw, hE⟩ := ck_enterE hv
  have hl := lv_entry ([.ref (ck_ad G 0 0), .int a0, .int a1]) (n := 3) (Nat.le_of_ble_eq_true rfl)
  rw [lg_entry_eq]
  generalize (lg_sl ([.ref (ck_ad G 0 0), .int a0, .int a1]) ++ List.replicate (3 - (lg_sl ([.ref (ck_ad G 0 0), .int a0, .int a1])).length) Slot.unset).toArray = ls at hl ⊢
  have hl : lv_has ls 3 [(0, .ref (ck_ad G 0 0)), (1, .int a0), (2, .int a1)] := hl
  exact wk_X6_valid_0 ⟨B.exec, B.bytes, B.returns, hml, findClass_of_methodNamed B.named, atoms_spec (ws := wsX6_valid) B.pre, B.notSynchronized⟩ hlt hE hno hC h hw hl
def sp_X6_bleeding (nc nb : Nat) (σ : ck_S) (a0 : Int32) (post : Int32 → ck_S → Prop) (px : String → ck_S → Prop) : Prop := sp_X6_needChip nc nb σ a0 (fun σ1 => sp_X6_needPower nc nb σ1 (fun σ3 => (vp_in a0 nc) ∧ ∀ j6, j6 = Int32.toNatClampNeg a0 → post (ck_gi σ3 30 j6 7) σ3) px) px
set_option maxHeartbeats 4000000 in
set_option maxRecDepth 100000 in
theorem wk_X6_bleeding_0 {p : Program} {l : Launch} {e : Env} {s : State} {m : MethodId} {args : Array Value} {below : List Frame} {meth : Method} {c : Code} {G : ck_G} (X : ck_X p s m meth c args cX6_bleeding 2 (some .int) RX6 wsX6_bleeding) (hlt : l.stackTraces = false) (hE : ck_E (ck_A G s.heap.size) s) (hno : ∀ x ∈ c.exceptionTable.toList, False) (hC : ck_inC G) {post : Int32 → ck_S → Prop} {px : String → ck_S → Prop} {σ : ck_S} {a0 : Int32} {H : Heap} {locs : List Loc} {ls : Array Slot} (h : sp_X6_bleeding (ck_nc G) (ck_nb G) σ a0 post px) (hw : ck_H G s H locs σ) (hl : lv_has ls 2 [(0, .ref (ck_ad G 0 0)), (1, .int a0)]) : W p l e ({ frames := 8, cells := 2, slots := 12, locals := 124 } : Room) s m args below meth c H locs 0 0 (vx_MQ below (va_Qi post (ck_Q G) (ck_A G s.heap.size)) (ck_XC G px (ck_A G s.heap.size)) args s 2 12 (ck_A G s.heap.size)) (F0 m 0 ls []) := by
  obtain ⟨hx, hb, hr, hml, hown, hts, hlocks⟩ := id X
  have inX3 : ∀ w ∈ wsX30, w ∈ wsX6_bleeding := fun _ h => List.mem_cons_of_mem _ (List.mem_append_left _ (List.mem_append_left _ (List.mem_append_right _ (h))))
  have inX6 : ∀ w ∈ wsX60, w ∈ wsX6_bleeding := fun _ h => List.mem_cons_of_mem _ (List.mem_append_left _ (List.mem_append_left _ (List.mem_append_left _ (List.mem_append_right _ (h)))))
  unfold sp_X6_bleeding at h
  refine lv_aload_n hx hb dX6_bleeding_0 rfl (lv_at hl 0 rfl) ?_
  refine lv_iload_n hx hb dX6_bleeding_1 rfl (lv_at hl 1 rfl) ?_
  refine ck_xcallVv (rest := []) ⟨hx, hb, hml, hown, hts⟩ hw hE (hC.1 0 (by decide)) rfl rfl (ct_X6_needChip l hlt G hC h) (cwV 1 hts gX6_bleeding_X6_needChip rfl rfl rfl (by decide +kernel) ⟨(Nat.le_of_ble_eq_true rfl), (Nat.le_of_ble_eq_true rfl)⟩) rfl hl.1 rfl (Nat.le_of_ble_eq_true rfl) dX6_bleeding_2 ⟨(Nat.le_of_ble_eq_true rfl), (Nat.le_of_ble_eq_true rfl)⟩ ?_ ?_
  · exact fun E ce q9 τ H locs hp hw h1 h2 h3 => ck_xout hno hlocks hw hp h1 h2 h3 (Nat.le_of_ble_eq_true rfl) (Nat.le_of_ble_eq_true rfl)
  · intro σ1 H locs h hw
    refine lv_aload_n hx hb dX6_bleeding_5 rfl (lv_at hl 0 rfl) ?_
    refine ck_xcallVv (rest := []) ⟨hx, hb, hml, hown, hts⟩ hw hE (hC.1 0 (by decide)) rfl rfl (ct_X6_needPower l hlt G hC h) (cwV 0 hts gX6_bleeding_X6_needPower rfl rfl rfl (by decide +kernel) ⟨(Nat.le_of_ble_eq_true rfl), (Nat.le_of_ble_eq_true rfl)⟩) rfl hl.1 rfl (Nat.le_of_ble_eq_true rfl) dX6_bleeding_6 ⟨(Nat.le_of_ble_eq_true rfl), (Nat.le_of_ble_eq_true rfl)⟩ ?_ ?_
    · exact fun E ce q9 τ H locs hp hw h1 h2 h3 => ck_xout hno hlocks hw hp h1 h2 h3 (Nat.le_of_ble_eq_true rfl) (Nat.le_of_ble_eq_true rfl)
    · intro σ3 H locs h hw
      refine lv_aload_n hx hb dX6_bleeding_9 rfl (lv_at hl 0 rfl) ?_
      refine ck_get hx hb hts inX6 hown hw (hC.1 0 (by decide)) rfl rfl 0 (by decide) (hts _ (List.mem_of_getElem? (i := 1) rfl)) rfl dX6_bleeding_10 ?_
      refine lv_iload_n hx hb dX6_bleeding_13 rfl (lv_at hl 1 rfl) ?_
      obtain ⟨n5, h⟩ := h
      refine ck_aald hx hb hw (hC.1 1 (by decide)) n5 dX6_bleeding_14 ?_
      obtain ⟨j6, ej6⟩ : ∃ z : Nat, z = Int32.toNatClampNeg a0 := ⟨_, rfl⟩
      have hj6 : j6 < ck_nc G := by rw [ej6]; exact ck_in n5
      rw [← ej6]
      have h := h j6 ej6
      refine ck_get hx hb hts inX3 hown hw (hC.2 30 _ (by decide) (by decide) hj6) rfl rfl 7 (by decide) (hts _ (List.mem_of_getElem? (i := 2) rfl)) rfl dX6_bleeding_15 ?_
      exact vx_ret (ck_iret X hw h dX6_bleeding_18)
set_option maxHeartbeats 4000000 in
set_option maxRecDepth 100000 in
theorem ct_X6_bleeding (l : Launch) (hlt : l.stackTraces = false) (G : ck_G) (hC : ck_inC G) {a0 : Int32} {σ : ck_S} {post : Int32 → ck_S → Prop} {px : String → ck_S → Prop} (h : sp_X6_bleeding (ck_nc G) (ck_nb G) σ a0 post px) : ck_Xi l yX6_bleeding wsX6_bleeding ({ frames := 8, cells := 2, slots := 12, locals := 124 } : Room) G σ [.ref (ck_ad G 0 0), .int a0] post px 2 12 := by
  intro sz
  refine vx_ofW (cc := cX6_bleeding) (maxL := 2) (ret := (some .int)) (by decide) rfl ?_
  intro p e s m args below meth c s₁ B hml hno hv
  obtain ⟨rfl, rfl, hw, hE⟩ := ck_enterE hv
  have hl := lv_entry ([.ref (ck_ad G 0 0), .int a0]) (n := 2) (Nat.le_of_ble_eq_true rfl)
  rw [lg_entry_eq]
  generalize (lg_sl ([.ref (ck_ad G 0 0), .int a0]) ++ List.replicate (2 - (lg_sl ([.ref (ck_ad G 0 0), .int a0])).length) Slot.unset).toArray = ls at hl ⊢
  have hl : lv_has ls 2 [(0, .ref (ck_ad G 0 0)), (1, .int a0)] := hl
  exact wk_X6_bleeding_0 ⟨B.exec, B.bytes, B.returns, hml, findClass_of_methodNamed B.named, atoms_spec (ws := wsX6_bleeding) B.pre, B.notSynchronized⟩ hlt hE hno hC h hw hl
def sp_X6_faults (nc nb : Nat) (σ : ck_S) (post : Int32 → ck_S → Prop) (px : String → ck_S → Prop) : Prop := sp_X6_needPower nc nb σ (fun σ1 => post (ck_gi σ1 3 0 2) σ1) px
set_option maxHeartbeats 4000000 in
set_option maxRecDepth 100000 in
theorem wk_X6_faults_0 {p : Program} {l : Launch} {e : Env} {s : State} {m : MethodId} {args : Array Value} {below : List Frame} {meth : Method} {c : Code} {G : ck_G} (X : ck_X p s m meth c args cX6_faults 1 (some .int) RX6 wsX6_faults) (hlt : l.stackTraces = false) (hE : ck_E (ck_A G s.heap.size) s) (hno : ∀ x ∈ c.exceptionTable.toList, False) (hC : ck_inC G) {post : Int32 → ck_S → Prop} {px : String → ck_S → Prop} {σ : ck_S} {H : Heap} {locs : List Loc} {ls : Array Slot} (h : sp_X6_faults (ck_nc G) (ck_nb G) σ post px) (hw : ck_H G s H locs σ) (hl : lv_has ls 1 [(0, .ref (ck_ad G 0 0))]) : W p l e ({ frames := 7, cells := 1, slots := 6, locals := 102 } : Room) s m args below meth c H locs 0 0 (vx_MQ below (va_Qi post (ck_Q G) (ck_A G s.heap.size)) (ck_XC G px (ck_A G s.heap.size)) args s 1 6 (ck_A G s.heap.size)) (F0 m 0 ls []) := by
  obtain ⟨hx, hb, hr, hml, hown, hts, hlocks⟩ := id X
  have inX0 : ∀ w ∈ wsX00, w ∈ wsX6_faults := fun _ h => List.mem_cons_of_mem _ (List.mem_append_left _ (List.mem_append_right _ (h)))
  have inX6 : ∀ w ∈ wsX60, w ∈ wsX6_faults := fun _ h => List.mem_cons_of_mem _ (List.mem_append_left _ (List.mem_append_left _ (List.mem_append_right _ (h))))
  unfold sp_X6_faults at h
  refine lv_aload_n hx hb dX6_faults_0 rfl (lv_at hl 0 rfl) ?_
  refine ck_xcallVv (rest := []) ⟨hx, hb, hml, hown, hts⟩ hw hE (hC.1 0 (by decide)) rfl rfl (ct_X6_needPower l hlt G hC h) (cwV 0 hts gX6_faults_X6_needPower rfl rfl rfl (by decide +kernel) ⟨(Nat.le_of_ble_eq_true rfl), (Nat.le_of_ble_eq_true rfl)⟩) rfl hl.1 rfl (Nat.le_of_ble_eq_true rfl) dX6_faults_1 ⟨(Nat.le_of_ble_eq_true rfl), (Nat.le_of_ble_eq_true rfl)⟩ ?_ ?_
  · exact fun E ce q9 τ H locs hp hw h1 h2 h3 => ck_xout hno hlocks hw hp h1 h2 h3 (Nat.le_of_ble_eq_true rfl) (Nat.le_of_ble_eq_true rfl)
  · intro σ1 H locs h hw
    refine lv_aload_n hx hb dX6_faults_4 rfl (lv_at hl 0 rfl) ?_
    refine ck_get hx hb hts inX6 hown hw (hC.1 0 (by decide)) rfl rfl 4 (by decide) (hts _ (List.mem_of_getElem? (i := 1) rfl)) rfl dX6_faults_5 ?_
    refine ck_get hx hb hts inX0 hown hw (hC.1 3 (by decide)) rfl rfl 2 (by decide) (hts _ (List.mem_of_getElem? (i := 2) rfl)) rfl dX6_faults_8 ?_
    exact vx_ret (ck_iret X hw h dX6_faults_11)
set_option maxHeartbeats 4000000 in
set_option maxRecDepth 100000 in
theorem ct_X6_faults (l : Launch) (hlt : l.stackTraces = false) (G : ck_G) (hC : ck_inC G) {σ : ck_S} {post : Int32 → ck_S → Prop} {px : String → ck_S → Prop} (h : sp_X6_faults (ck_nc G) (ck_nb G) σ post px) : ck_Xi l yX6_faults wsX6_faults ({ frames := 7, cells := 1, slots := 6, locals := 102 } : Room) G σ [.ref (ck_ad G 0 0)] post px 1 6 := by
  intro sz
  refine vx_ofW (cc := cX6_faults) (maxL := 1) (ret := (some .int)) (by decide) rfl ?_
  intro p e s m args below meth c s₁ B hml hno hv
  obtain ⟨rfl, rfl, hw, hE⟩ := ck_enterE hv
  have hl := lv_entry ([.ref (ck_ad G 0 0)]) (n := 1) (Nat.le_of_ble_eq_true rfl)
  rw [lg_entry_eq]
  generalize (lg_sl ([.ref (ck_ad G 0 0)]) ++ List.replicate (1 - (lg_sl ([.ref (ck_ad G 0 0)])).length) Slot.unset).toArray = ls at hl ⊢
  have hl : lv_has ls 1 [(0, .ref (ck_ad G 0 0))] := hl
  exact wk_X6_faults_0 ⟨B.exec, B.bytes, B.returns, hml, findClass_of_methodNamed B.named, atoms_spec (ws := wsX6_faults) B.pre, B.notSynchronized⟩ hlt hE hno hC h hw hl
def sp_X6_count (nc nb : Nat) (σ : ck_S) (a0 : Int32) (post : Int32 → ck_S → Prop) (px : String → ck_S → Prop) : Prop := sp_X6_needIndex nc nb σ a0 7 (fun σ1 => sp_X6_needPower nc nb σ1 (fun σ3 => (vp_in a0 7) ∧ post (ck_gi σ3 4 0 (Int32.toNatClampNeg a0)) σ3) px) px
set_option maxHeartbeats 4000000 in
set_option maxRecDepth 100000 in
theorem wk_X6_count_0 {p : Program} {l : Launch} {e : Env} {s : State} {m : MethodId} {args : Array Value} {below : List Frame} {meth : Method} {c : Code} {G : ck_G} (X : ck_X p s m meth c args cX6_count 2 (some .int) RX6 wsX6_count) (hlt : l.stackTraces = false) (hE : ck_E (ck_A G s.heap.size) s) (hno : ∀ x ∈ c.exceptionTable.toList, False) (hC : ck_inC G) {post : Int32 → ck_S → Prop} {px : String → ck_S → Prop} {σ : ck_S} {a0 : Int32} {H : Heap} {locs : List Loc} {ls : Array Slot} (h : sp_X6_count (ck_nc G) (ck_nb G) σ a0 post px) (hw : ck_H G s H locs σ) (hl : lv_has ls 2 [(0, .ref (ck_ad G 0 0)), (1, .int a0)]) : W p l e ({ frames := 7, cells := 2, slots := 12, locals := 103 } : Room) s m args below meth c H locs 0 0 (vx_MQ below (va_Qi post (ck_Q G) (ck_A G s.heap.size)) (ck_XC G px (ck_A G s.heap.size)) args s 2 12 (ck_A G s.heap.size)) (F0 m 0 ls []) := by
  obtain ⟨hx, hb, hr, hml, hown, hts, hlocks⟩ := id X
  have inX0 : ∀ w ∈ wsX00, w ∈ wsX6_count := fun _ h => List.mem_cons_of_mem _ (List.mem_append_left _ (List.mem_append_left _ (List.mem_append_right _ (h))))
  have inX6 : ∀ w ∈ wsX60, w ∈ wsX6_count := fun _ h => List.mem_cons_of_mem _ (List.mem_append_left _ (List.mem_append_left _ (List.mem_append_left _ (List.mem_append_right _ (h)))))
  unfold sp_X6_count at h
  refine lv_iload_n hx hb dX6_count_0 rfl (lv_at hl 1 rfl) ?_
  refine lv_bipush (v := 7) hx hb dX6_count_1 (by decide) ?_
  refine ck_xcallSv (rest := []) ⟨hx, hb, hml, hown, hts⟩ hw hE (ct_X6_needIndex l hlt G h) (va_cwS 2 hts gX6_count_X6_needIndex rfl rfl rfl (by decide +kernel) ⟨(Nat.le_of_ble_eq_true rfl), (Nat.le_of_ble_eq_true rfl)⟩) rfl hl.1 rfl (Nat.le_of_ble_eq_true rfl) dX6_count_3 ⟨(Nat.le_of_ble_eq_true rfl), (Nat.le_of_ble_eq_true rfl)⟩ ?_ ?_
  · exact fun E ce q9 τ H locs hp hw h1 h2 h3 => ck_xout hno hlocks hw hp h1 h2 h3 (Nat.le_of_ble_eq_true rfl) (Nat.le_of_ble_eq_true rfl)
  · intro σ1 H locs h hw
    refine lv_aload_n hx hb dX6_count_6 rfl (lv_at hl 0 rfl) ?_
    refine ck_xcallVv (rest := []) ⟨hx, hb, hml, hown, hts⟩ hw hE (hC.1 0 (by decide)) rfl rfl (ct_X6_needPower l hlt G hC h) (cwV 0 hts gX6_count_X6_needPower rfl rfl rfl (by decide +kernel) ⟨(Nat.le_of_ble_eq_true rfl), (Nat.le_of_ble_eq_true rfl)⟩) rfl hl.1 rfl (Nat.le_of_ble_eq_true rfl) dX6_count_7 ⟨(Nat.le_of_ble_eq_true rfl), (Nat.le_of_ble_eq_true rfl)⟩ ?_ ?_
    · exact fun E ce q9 τ H locs hp hw h1 h2 h3 => ck_xout hno hlocks hw hp h1 h2 h3 (Nat.le_of_ble_eq_true rfl) (Nat.le_of_ble_eq_true rfl)
    · intro σ3 H locs h hw
      refine lv_aload_n hx hb dX6_count_10 rfl (lv_at hl 0 rfl) ?_
      refine ck_get hx hb hts inX6 hown hw (hC.1 0 (by decide)) rfl rfl 4 (by decide) (hts _ (List.mem_of_getElem? (i := 1) rfl)) rfl dX6_count_11 ?_
      refine ck_get hx hb hts inX0 hown hw (hC.1 3 (by decide)) rfl rfl 1 (by decide) (hts _ (List.mem_of_getElem? (i := 2) rfl)) rfl dX6_count_14 ?_
      refine lv_iload_n hx hb dX6_count_17 rfl (lv_at hl 1 rfl) ?_
      obtain ⟨n5, h⟩ := h
      refine ck_iald hx hb hw (hC.1 4 (by decide)) rfl n5 dX6_count_18 ?_
      exact vx_ret (ck_iret X hw h dX6_count_19)
set_option maxHeartbeats 4000000 in
set_option maxRecDepth 100000 in
theorem ct_X6_count (l : Launch) (hlt : l.stackTraces = false) (G : ck_G) (hC : ck_inC G) {a0 : Int32} {σ : ck_S} {post : Int32 → ck_S → Prop} {px : String → ck_S → Prop} (h : sp_X6_count (ck_nc G) (ck_nb G) σ a0 post px) : ck_Xi l yX6_count wsX6_count ({ frames := 7, cells := 2, slots := 12, locals := 103 } : Room) G σ [.ref (ck_ad G 0 0), .int a0] post px 2 12 := by
  intro sz
  refine vx_ofW (cc := cX6_count) (maxL := 2) (ret := (some .int)) (by decide) rfl ?_
  intro p e s m args below meth c s₁ B hml hno hv
  obtain ⟨rfl, rfl, hw, hE⟩ := ck_enterE hv
  have hl := lv_entry ([.ref (ck_ad G 0 0), .int a0]) (n := 2) (Nat.le_of_ble_eq_true rfl)
  rw [lg_entry_eq]
  generalize (lg_sl ([.ref (ck_ad G 0 0), .int a0]) ++ List.replicate (2 - (lg_sl ([.ref (ck_ad G 0 0), .int a0])).length) Slot.unset).toArray = ls at hl ⊢
  have hl : lv_has ls 2 [(0, .ref (ck_ad G 0 0)), (1, .int a0)] := hl
  exact wk_X6_count_0 ⟨B.exec, B.bytes, B.returns, hml, findClass_of_methodNamed B.named, atoms_spec (ws := wsX6_count) B.pre, B.notSynchronized⟩ hlt hE hno hC h hw hl
def sp_X6_journal (nc nb : Nat) (σ : ck_S) (a0 : Int32) (post : Int32 → ck_S → Prop) (px : String → ck_S → Prop) : Prop := sp_X6_needIndex nc nb σ a0 (nI nb) (fun σ1 => (vp_in a0 nb) ∧ post ((ck_gi σ1 7 0 (Int32.toNatClampNeg a0)) &&& 255) σ1) px
set_option maxHeartbeats 4000000 in
set_option maxRecDepth 100000 in
theorem wk_X6_journal_0 {p : Program} {l : Launch} {e : Env} {s : State} {m : MethodId} {args : Array Value} {below : List Frame} {meth : Method} {c : Code} {G : ck_G} (X : ck_X p s m meth c args cX6_journal 2 (some .int) RX6 wsX6_journal) (hlt : l.stackTraces = false) (hE : ck_E (ck_A G s.heap.size) s) (hno : ∀ x ∈ c.exceptionTable.toList, False) (hC : ck_inC G) {post : Int32 → ck_S → Prop} {px : String → ck_S → Prop} {σ : ck_S} {a0 : Int32} {H : Heap} {locs : List Loc} {ls : Array Slot} (h : sp_X6_journal (ck_nc G) (ck_nb G) σ a0 post px) (hw : ck_H G s H locs σ) (hl : lv_has ls 2 [(0, .ref (ck_ad G 0 0)), (1, .int a0)]) : W p l e ({ frames := 7, cells := 1, slots := 6, locals := 103 } : Room) s m args below meth c H locs 0 0 (vx_MQ below (va_Qi post (ck_Q G) (ck_A G s.heap.size)) (ck_XC G px (ck_A G s.heap.size)) args s 1 6 (ck_A G s.heap.size)) (F0 m 0 ls []) := by
  obtain ⟨hx, hb, hr, hml, hown, hts, hlocks⟩ := id X
  have inX1 : ∀ w ∈ wsX10, w ∈ wsX6_journal := fun _ h => List.mem_cons_of_mem _ (List.mem_append_left _ (List.mem_append_right _ (h)))
  have inX6 : ∀ w ∈ wsX60, w ∈ wsX6_journal := fun _ h => List.mem_cons_of_mem _ (List.mem_append_left _ (List.mem_append_left _ (List.mem_append_right _ (h))))
  unfold sp_X6_journal at h
  refine lv_iload_n hx hb dX6_journal_0 rfl (lv_at hl 1 rfl) ?_
  refine lv_aload_n hx hb dX6_journal_1 rfl (lv_at hl 0 rfl) ?_
  refine ck_get hx hb hts inX6 hown hw (hC.1 0 (by decide)) rfl rfl 6 (by decide) (hts _ (List.mem_of_getElem? (i := 1) rfl)) rfl dX6_journal_2 ?_
  refine ck_get hx hb hts inX1 hown hw (hC.1 6 (by decide)) rfl rfl 1 (by decide) (hts _ (List.mem_of_getElem? (i := 2) rfl)) rfl dX6_journal_5 ?_
  refine ck_alen hx hb hw (hC.1 7 (by decide)) rfl 0 rfl rfl dX6_journal_8 ?_
  refine ck_xcallSv (rest := []) ⟨hx, hb, hml, hown, hts⟩ hw hE (ct_X6_needIndex l hlt G h) (va_cwS 2 hts gX6_journal_X6_needIndex rfl rfl rfl (by decide +kernel) ⟨(Nat.le_of_ble_eq_true rfl), (Nat.le_of_ble_eq_true rfl)⟩) rfl hl.1 rfl (Nat.le_of_ble_eq_true rfl) dX6_journal_9 ⟨(Nat.le_of_ble_eq_true rfl), (Nat.le_of_ble_eq_true rfl)⟩ ?_ ?_
  · exact fun E ce q9 τ H locs hp hw h1 h2 h3 => ck_xout hno hlocks hw hp h1 h2 h3 (Nat.le_of_ble_eq_true rfl) (Nat.le_of_ble_eq_true rfl)
  · intro σ1 H locs h hw
    refine lv_aload_n hx hb dX6_journal_12 rfl (lv_at hl 0 rfl) ?_
    refine ck_get hx hb hts inX6 hown hw (hC.1 0 (by decide)) rfl rfl 6 (by decide) (hts _ (List.mem_of_getElem? (i := 1) rfl)) rfl dX6_journal_13 ?_
    refine ck_get hx hb hts inX1 hown hw (hC.1 6 (by decide)) rfl rfl 1 (by decide) (hts _ (List.mem_of_getElem? (i := 2) rfl)) rfl dX6_journal_16 ?_
    refine lv_iload_n hx hb dX6_journal_19 rfl (lv_at hl 1 rfl) ?_
    obtain ⟨n3, h⟩ := h
    refine ck_bald hx hb hw (hC.1 7 (by decide)) rfl n3 dX6_journal_20 ?_
    refine lv_sipush (v := 255) hx hb dX6_journal_21 (by decide) ?_
    refine lv_iand hx hb dX6_journal_24 ?_
    exact vx_ret (ck_iret X hw h dX6_journal_25)
set_option maxHeartbeats 4000000 in
set_option maxRecDepth 100000 in
theorem ct_X6_journal (l : Launch) (hlt : l.stackTraces = false) (G : ck_G) (hC : ck_inC G) {a0 : Int32} {σ : ck_S} {post : Int32 → ck_S → Prop} {px : String → ck_S → Prop} (h : sp_X6_journal (ck_nc G) (ck_nb G) σ a0 post px) : ck_Xi l yX6_journal wsX6_journal ({ frames := 7, cells := 1, slots := 6, locals := 103 } : Room) G σ [.ref (ck_ad G 0 0), .int a0] post px 1 6 := by
  intro sz
  refine vx_ofW (cc := cX6_journal) (maxL := 2) (ret := (some .int)) (by decide) rfl ?_
  intro p e s m args below meth c s₁ B hml hno hv
  obtain ⟨rfl, rfl, hw, hE⟩ := ck_enterE hv
  have hl := lv_entry ([.ref (ck_ad G 0 0), .int a0]) (n := 2) (Nat.le_of_ble_eq_true rfl)
  rw [lg_entry_eq]
  generalize (lg_sl ([.ref (ck_ad G 0 0), .int a0]) ++ List.replicate (2 - (lg_sl ([.ref (ck_ad G 0 0), .int a0])).length) Slot.unset).toArray = ls at hl ⊢
  have hl : lv_has ls 2 [(0, .ref (ck_ad G 0 0)), (1, .int a0)] := hl
  exact wk_X6_journal_0 ⟨B.exec, B.bytes, B.returns, hml, findClass_of_methodNamed B.named, atoms_spec (ws := wsX6_journal) B.pre, B.notSynchronized⟩ hlt hE hno hC h hw hl
def sp_X6_spoil (nc nb : Nat) (σ : ck_S) (a0 : Int32) (a1 : Int32) (post : ck_S → Prop) (px : String → ck_S → Prop) : Prop := sp_X6_needIndex nc nb σ a0 (nI nb) (fun σ1 => sp_X6_needWhole nc nb σ1 a1 0 255 (fun σ3 => (vp_in a0 nb) ∧ (vp_in a0 nb) ∧ ∀ σ7, σ7 = ck_ui σ3 7 0 (Int32.toNatClampNeg a0) (vp_nar .byte (((ck_gi σ3 7 0 (Int32.toNatClampNeg a0)) ^^^ a1).toInt8.toInt32)) → post σ7) px) px
set_option maxHeartbeats 4000000 in
set_option maxRecDepth 100000 in
theorem wk_X6_spoil_0 {p : Program} {l : Launch} {e : Env} {s : State} {m : MethodId} {args : Array Value} {below : List Frame} {meth : Method} {c : Code} {G : ck_G} (X : ck_X p s m meth c args cX6_spoil 3 none RX6 wsX6_spoil) (hlt : l.stackTraces = false) (hE : ck_E (ck_A G s.heap.size) s) (hno : ∀ x ∈ c.exceptionTable.toList, False) (hC : ck_inC G) {post : ck_S → Prop} {px : String → ck_S → Prop} {σ : ck_S} {a0 : Int32} {a1 : Int32} {H : Heap} {locs : List Loc} {ls : Array Slot} (h : sp_X6_spoil (ck_nc G) (ck_nb G) σ a0 a1 post px) (hw : ck_H G s H locs σ) (hl : lv_has ls 3 [(0, .ref (ck_ad G 0 0)), (1, .int a0), (2, .int a1)]) : W p l e ({ frames := 7, cells := 2, slots := 12, locals := 104 } : Room) s m args below meth c H locs 0 0 (vx_MQ below (va_Qv post (ck_Q G) (ck_A G s.heap.size)) (ck_XC G px (ck_A G s.heap.size)) args s 2 12 (ck_A G s.heap.size)) (F0 m 0 ls []) := by
  obtain ⟨hx, hb, hr, hml, hown, hts, hlocks⟩ := id X
  have inX1 : ∀ w ∈ wsX10, w ∈ wsX6_spoil := fun _ h => List.mem_cons_of_mem _ (List.mem_append_left _ (List.mem_append_left _ (List.mem_append_right _ (h))))
  have inX6 : ∀ w ∈ wsX60, w ∈ wsX6_spoil := fun _ h => List.mem_cons_of_mem _ (List.mem_append_left _ (List.mem_append_left _ (List.mem_append_left _ (List.mem_append_right _ (h)))))
  unfold sp_X6_spoil at h
  refine lv_iload_n hx hb dX6_spoil_0 rfl (lv_at hl 1 rfl) ?_
  refine lv_aload_n hx hb dX6_spoil_1 rfl (lv_at hl 0 rfl) ?_
  refine ck_get hx hb hts inX6 hown hw (hC.1 0 (by decide)) rfl rfl 6 (by decide) (hts _ (List.mem_of_getElem? (i := 1) rfl)) rfl dX6_spoil_2 ?_
  refine ck_get hx hb hts inX1 hown hw (hC.1 6 (by decide)) rfl rfl 1 (by decide) (hts _ (List.mem_of_getElem? (i := 2) rfl)) rfl dX6_spoil_5 ?_
  refine ck_alen hx hb hw (hC.1 7 (by decide)) rfl 0 rfl rfl dX6_spoil_8 ?_
  refine ck_xcallSv (rest := []) ⟨hx, hb, hml, hown, hts⟩ hw hE (ct_X6_needIndex l hlt G h) (va_cwS 2 hts gX6_spoil_X6_needIndex rfl rfl rfl (by decide +kernel) ⟨(Nat.le_of_ble_eq_true rfl), (Nat.le_of_ble_eq_true rfl)⟩) rfl hl.1 rfl (Nat.le_of_ble_eq_true rfl) dX6_spoil_9 ⟨(Nat.le_of_ble_eq_true rfl), (Nat.le_of_ble_eq_true rfl)⟩ ?_ ?_
  · exact fun E ce q9 τ H locs hp hw h1 h2 h3 => ck_xout hno hlocks hw hp h1 h2 h3 (Nat.le_of_ble_eq_true rfl) (Nat.le_of_ble_eq_true rfl)
  · intro σ1 H locs h hw
    refine lv_iload_n hx hb dX6_spoil_12 rfl (lv_at hl 2 rfl) ?_
    refine lv_iconst (v := 0) hx hb dX6_spoil_13 (by decide) ?_
    refine lv_sipush (v := 255) hx hb dX6_spoil_14 (by decide) ?_
    refine ck_xcallSv (rest := []) ⟨hx, hb, hml, hown, hts⟩ hw hE (ct_X6_needWhole l hlt G h) (va_cwS 3 hts gX6_spoil_X6_needWhole rfl rfl rfl (by decide +kernel) ⟨(Nat.le_of_ble_eq_true rfl), (Nat.le_of_ble_eq_true rfl)⟩) rfl hl.1 rfl (Nat.le_of_ble_eq_true rfl) dX6_spoil_17 ⟨(Nat.le_of_ble_eq_true rfl), (Nat.le_of_ble_eq_true rfl)⟩ ?_ ?_
    · exact fun E ce q9 τ H locs hp hw h1 h2 h3 => ck_xout hno hlocks hw hp h1 h2 h3 (Nat.le_of_ble_eq_true rfl) (Nat.le_of_ble_eq_true rfl)
    · intro σ3 H locs h hw
      refine lv_aload_n hx hb dX6_spoil_20 rfl (lv_at hl 0 rfl) ?_
      refine ck_get hx hb hts inX6 hown hw (hC.1 0 (by decide)) rfl rfl 6 (by decide) (hts _ (List.mem_of_getElem? (i := 1) rfl)) rfl dX6_spoil_21 ?_
      refine ck_get hx hb hts inX1 hown hw (hC.1 6 (by decide)) rfl rfl 1 (by decide) (hts _ (List.mem_of_getElem? (i := 2) rfl)) rfl dX6_spoil_24 ?_
      refine lv_iload_n hx hb dX6_spoil_27 rfl (lv_at hl 1 rfl) ?_
      refine lv_aload_n hx hb dX6_spoil_28 rfl (lv_at hl 0 rfl) ?_
      refine ck_get hx hb hts inX6 hown hw (hC.1 0 (by decide)) rfl rfl 6 (by decide) (hts _ (List.mem_of_getElem? (i := 1) rfl)) rfl dX6_spoil_29 ?_
      refine ck_get hx hb hts inX1 hown hw (hC.1 6 (by decide)) rfl rfl 1 (by decide) (hts _ (List.mem_of_getElem? (i := 2) rfl)) rfl dX6_spoil_32 ?_
      refine lv_iload_n hx hb dX6_spoil_35 rfl (lv_at hl 1 rfl) ?_
      obtain ⟨n5, h⟩ := h
      refine ck_bald hx hb hw (hC.1 7 (by decide)) rfl n5 dX6_spoil_36 ?_
      refine lv_iload_n hx hb dX6_spoil_37 rfl (lv_at hl 2 rfl) ?_
      refine lv_ixor hx hb dX6_spoil_38 ?_
      refine lv_i2b hx hb dX6_spoil_39 rfl ?_
      obtain ⟨n6, h⟩ := h
      refine ck_bast hx hb hw (hC.1 7 (by decide)) (fun _ => rfl) n6 dX6_spoil_40 (fun H locs hw => ?_)
      obtain ⟨σ7, eσ7⟩ : ∃ z : ck_S, z = ck_ui σ3 7 0 (Int32.toNatClampNeg a0) (vp_nar .byte (((ck_gi σ3 7 0 (Int32.toNatClampNeg a0)) ^^^ a1).toInt8.toInt32)) := ⟨_, rfl⟩
      rw [← eσ7] at hw
      have h := h σ7 eσ7
      exact vx_ret (ck_vret X hw h dX6_spoil_41)
set_option maxHeartbeats 4000000 in
set_option maxRecDepth 100000 in
theorem ct_X6_spoil (l : Launch) (hlt : l.stackTraces = false) (G : ck_G) (hC : ck_inC G) {a0 : Int32} {a1 : Int32} {σ : ck_S} {post : ck_S → Prop} {px : String → ck_S → Prop} (h : sp_X6_spoil (ck_nc G) (ck_nb G) σ a0 a1 post px) : ck_Xv l yX6_spoil wsX6_spoil ({ frames := 7, cells := 2, slots := 12, locals := 104 } : Room) G σ [.ref (ck_ad G 0 0), .int a0, .int a1] post px 2 12 := by
  intro sz
  refine vx_ofW (cc := cX6_spoil) (maxL := 3) (ret := none) (by decide) rfl ?_
  intro p e s m args below meth c s₁ B hml hno hv
  obtain ⟨rfl, rfl, hw, hE⟩ := ck_enterE hv
  have hl := lv_entry ([.ref (ck_ad G 0 0), .int a0, .int a1]) (n := 3) (Nat.le_of_ble_eq_true rfl)
  rw [lg_entry_eq]
  generalize (lg_sl ([.ref (ck_ad G 0 0), .int a0, .int a1]) ++ List.replicate (3 - (lg_sl ([.ref (ck_ad G 0 0), .int a0, .int a1])).length) Slot.unset).toArray = ls at hl ⊢
  have hl : lv_has ls 3 [(0, .ref (ck_ad G 0 0)), (1, .int a0), (2, .int a1)] := hl
  exact wk_X6_spoil_0 ⟨B.exec, B.bytes, B.returns, hml, findClass_of_methodNamed B.named, atoms_spec (ws := wsX6_spoil) B.pre, B.notSynchronized⟩ hlt hE hno hC h hw hl
