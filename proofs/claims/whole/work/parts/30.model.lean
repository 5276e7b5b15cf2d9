def sp_X7_nearest (nc nb : Nat) (σ : ck_S) (a0 : Int32) (a1 : Int32) (a2 : Int32) (post : Int32 → ck_S → Prop) : Prop := ((a1 ≤ a0 → (((a0 ≤ a2 → (post a0 σ)) ∧ (¬ a0 ≤ a2 → (post a2 σ))))) ∧ (¬ a1 ≤ a0 → (post a1 σ)))
set_option maxHeartbeats 4000000 in
set_option maxRecDepth 100000 in
theorem wk_X7_nearest_0 {p : Program} {l : Launch} {e : Env} {s : State} {m : MethodId} {args : Array Value} {below : List Frame} {meth : Method} {c : Code} {G : ck_G} (X : ck_X p s m meth c args cX7_nearest 3 (some .int) RX7 wsX7_nearest) {post : Int32 → ck_S → Prop} {σ : ck_S} {a0 : Int32} {a1 : Int32} {a2 : Int32} {H : Heap} {locs : List Loc} {ls : Array Slot} (h : sp_X7_nearest (ck_nc G) (ck_nb G) σ a0 a1 a2 post) (hw : ck_H G s H locs σ) (hl : lv_has ls 3 [(0, .int a0), (1, .int a1), (2, .int a2)]) : W p l e ({ frames := 0, cells := 0, slots := 0, locals := 0 } : Room) s m args below meth c H locs 0 0 (MQ below (va_Qi post (ck_Q G) (ck_A G s.heap.size)) args s 0 0 (ck_A G s.heap.size)) (F0 m 0 ls []) := by
  obtain ⟨hx, hb, hr, hml, hown, hts, hlocks⟩ := id X
  unfold sp_X7_nearest at h
  refine lv_iload_n hx hb dX7_nearest_0 rfl (lv_at hl 0 rfl) ?_
  refine lv_iload_n hx hb dX7_nearest_1 rfl (lv_at hl 1 rfl) ?_
  obtain ⟨hA, hB⟩ := h
  refine lv_icmp_ge (tgt := 9) hx hb dX7_nearest_2 (by decide) (fun c1 => ?_) (fun c1 => ?_)
  · have h := hA c1
    refine lv_iload_n hx hb dX7_nearest_9 rfl (lv_at hl 0 rfl) ?_
    refine lv_iload_n hx hb dX7_nearest_10 rfl (lv_at hl 2 rfl) ?_
    obtain ⟨hA, hB⟩ := h
    refine lv_icmp_le (tgt := 18) hx hb dX7_nearest_11 (by decide) (fun c2 => ?_) (fun c2 => ?_)
    · have h := hA c2
      refine lv_iload_n hx hb dX7_nearest_18 rfl (lv_at hl 0 rfl) ?_
      exact ck_iret X hw h dX7_nearest_19
    · have h := hB c2
      refine lv_iload_n hx hb dX7_nearest_14 rfl (lv_at hl 2 rfl) ?_
      refine lv_goto (tgt := 19) hx hb dX7_nearest_15 (by decide) ?_
      exact ck_iret X hw h dX7_nearest_19
  · have h := hB c1
    refine lv_iload_n hx hb dX7_nearest_5 rfl (lv_at hl 1 rfl) ?_
    refine lv_goto (tgt := 19) hx hb dX7_nearest_6 (by decide) ?_
    exact ck_iret X hw h dX7_nearest_19
set_option maxHeartbeats 4000000 in
set_option maxRecDepth 100000 in
theorem ct_X7_nearest (l : Launch) (G : ck_G) {a0 : Int32} {a1 : Int32} {a2 : Int32} {σ : ck_S} {post : Int32 → ck_S → Prop} (h : sp_X7_nearest (ck_nc G) (ck_nb G) σ a0 a1 a2 post) : ck_Mi l yX7_nearest wsX7_nearest ({ frames := 0, cells := 0, slots := 0, locals := 0 } : Room) G σ [.int a0, .int a1, .int a2] post := by
  intro sz
  refine Met.ofW (cc := cX7_nearest) (maxL := 3) (ret := (some .int)) (by decide) rfl ?_
  intro p e s m args below meth c s₁ B hml hv
  obtain ⟨rfl, rfl, hw⟩ := ck_enter hv
  have hl := lv_entry ([.int a0, .int a1, .int a2]) (n := 3) (Nat.le_of_ble_eq_true rfl)
  rw [lg_entry_eq]
  generalize (lg_sl ([.int a0, .int a1, .int a2]) ++ List.replicate (3 - (lg_sl ([.int a0, .int a1, .int a2])).length) Slot.unset).toArray = ls at hl ⊢
  have hl : lv_has ls 3 [(0, .int a0), (1, .int a1), (2, .int a2)] := hl
  exact wk_X7_nearest_0 ⟨B.exec, B.bytes, B.returns, hml, findClass_of_methodNamed B.named, atoms_spec (ws := wsX7_nearest) B.pre, B.notSynchronized⟩ h hw hl
def sp_X7_thrown (nc nb : Nat) (σ : ck_S) (post : Int32 → ck_S → Prop) : Prop := post (ck_gi σ 10 0 0) σ
set_option maxHeartbeats 4000000 in
set_option maxRecDepth 100000 in
theorem wk_X7_thrown_0 {p : Program} {l : Launch} {e : Env} {s : State} {m : MethodId} {args : Array Value} {below : List Frame} {meth : Method} {c : Code} {G : ck_G} (X : ck_X p s m meth c args cX7_thrown 1 (some .int) RX7 wsX7_thrown) (hM : ck_inM G) {post : Int32 → ck_S → Prop} {σ : ck_S} {H : Heap} {locs : List Loc} {ls : Array Slot} (h : sp_X7_thrown (ck_nc G) (ck_nb G) σ post) (hw : ck_H G s H locs σ) (hl : lv_has ls 1 [(0, .ref (ck_ad G 10 0))]) : W p l e ({ frames := 0, cells := 0, slots := 0, locals := 0 } : Room) s m args below meth c H locs 0 0 (MQ below (va_Qi post (ck_Q G) (ck_A G s.heap.size)) args s 0 0 (ck_A G s.heap.size)) (F0 m 0 ls []) := by
  obtain ⟨hx, hb, hr, hml, hown, hts, hlocks⟩ := id X
  have inX7 : ∀ w ∈ wsX70, w ∈ wsX7_thrown := fun _ h => List.mem_cons_of_mem _ (List.mem_append_right _ (h))
  unfold sp_X7_thrown at h
  refine lv_aload_n hx hb dX7_thrown_0 rfl (lv_at hl 0 rfl) ?_
  refine ck_get hx hb hts inX7 hown hw (hM 10 (by decide) (by decide)) rfl rfl 0 (by decide) (hts _ (List.mem_of_getElem? (i := 1) rfl)) rfl dX7_thrown_1 ?_
  exact ck_iret X hw h dX7_thrown_4
set_option maxHeartbeats 4000000 in
set_option maxRecDepth 100000 in
theorem ct_X7_thrown (l : Launch) (G : ck_G) (hM : ck_inM G) {σ : ck_S} {post : Int32 → ck_S → Prop} (h : sp_X7_thrown (ck_nc G) (ck_nb G) σ post) : ck_Mi l yX7_thrown wsX7_thrown ({ frames := 0, cells := 0, slots := 0, locals := 0 } : Room) G σ [.ref (ck_ad G 10 0)] post := by
  intro sz
  refine Met.ofW (cc := cX7_thrown) (maxL := 1) (ret := (some .int)) (by decide) rfl ?_
  intro p e s m args below meth c s₁ B hml hv
  obtain ⟨rfl, rfl, hw⟩ := ck_enter hv
  have hl := lv_entry ([.ref (ck_ad G 10 0)]) (n := 1) (Nat.le_of_ble_eq_true rfl)
  rw [lg_entry_eq]
  generalize (lg_sl ([.ref (ck_ad G 10 0)]) ++ List.replicate (1 - (lg_sl ([.ref (ck_ad G 10 0)])).length) Slot.unset).toArray = ls at hl ⊢
  have hl : lv_has ls 1 [(0, .ref (ck_ad G 10 0))] := hl
  exact wk_X7_thrown_0 ⟨B.exec, B.bytes, B.returns, hml, findClass_of_methodNamed B.named, atoms_spec (ws := wsX7_thrown) B.pre, B.notSynchronized⟩ hM h hw hl
def sp_X7_chips (nc nb : Nat) (σ : ck_S) (post : Int32 → ck_S → Prop) : Prop := ∀ σ1, σ1 = ck_ui σ 10 0 0 0 → post (ck_gi σ1 10 0 1) σ1
set_option maxHeartbeats 4000000 in
set_option maxRecDepth 100000 in
theorem wk_X7_chips_0 {p : Program} {l : Launch} {e : Env} {s : State} {m : MethodId} {args : Array Value} {below : List Frame} {meth : Method} {c : Code} {G : ck_G} (X : ck_X p s m meth c args cX7_chips 1 (some .int) RX7 wsX7_chips) (hM : ck_inM G) {post : Int32 → ck_S → Prop} {σ : ck_S} {H : Heap} {locs : List Loc} {ls : Array Slot} (h : sp_X7_chips (ck_nc G) (ck_nb G) σ post) (hw : ck_H G s H locs σ) (hl : lv_has ls 1 [(0, .ref (ck_ad G 10 0))]) : W p l e ({ frames := 0, cells := 0, slots := 0, locals := 0 } : Room) s m args below meth c H locs 0 0 (MQ below (va_Qi post (ck_Q G) (ck_A G s.heap.size)) args s 0 0 (ck_A G s.heap.size)) (F0 m 0 ls []) := by
  obtain ⟨hx, hb, hr, hml, hown, hts, hlocks⟩ := id X
  have inX7 : ∀ w ∈ wsX70, w ∈ wsX7_chips := fun _ h => List.mem_cons_of_mem _ (List.mem_append_right _ (h))
  unfold sp_X7_chips at h
  refine lv_aload_n hx hb dX7_chips_0 rfl (lv_at hl 0 rfl) ?_
  refine lv_iconst (v := 0) hx hb dX7_chips_1 (by decide) ?_
  refine ck_puti hx hb hts inX7 tyX7 tyX7_ok nmX7 hown hw (hM 10 (by decide) (by decide)) rfl rfl 0 (by decide) (hts _ (List.mem_of_getElem? (i := 1) rfl)) rfl rfl rfl (Nat.le_of_ble_eq_true rfl) rfl dX7_chips_2 (fun H locs hw => ?_)
  obtain ⟨σ1, eσ1⟩ : ∃ z : ck_S, z = ck_ui σ 10 0 0 0 := ⟨_, rfl⟩
  rw [← eσ1] at hw
  have h := h σ1 eσ1
  refine lv_aload_n hx hb dX7_chips_5 rfl (lv_at hl 0 rfl) ?_
  refine ck_get hx hb hts inX7 hown hw (hM 10 (by decide) (by decide)) rfl rfl 1 (by decide) (hts _ (List.mem_of_getElem? (i := 2) rfl)) rfl dX7_chips_6 ?_
  exact ck_iret X hw h dX7_chips_9
set_option maxHeartbeats 4000000 in
set_option maxRecDepth 100000 in
theorem ct_X7_chips (l : Launch) (G : ck_G) (hM : ck_inM G) {σ : ck_S} {post : Int32 → ck_S → Prop} (h : sp_X7_chips (ck_nc G) (ck_nb G) σ post) : ck_Mi l yX7_chips wsX7_chips ({ frames := 0, cells := 0, slots := 0, locals := 0 } : Room) G σ [.ref (ck_ad G 10 0)] post := by
  intro sz
  refine Met.ofW (cc := cX7_chips) (maxL := 1) (ret := (some .int)) (by decide) rfl ?_
  intro p e s m args below meth c s₁ B hml hv
  obtain ⟨rfl, rfl, hw⟩ := ck_enter hv
  have hl := lv_entry ([.ref (ck_ad G 10 0)]) (n := 1) (Nat.le_of_ble_eq_true rfl)
  rw [lg_entry_eq]
  generalize (lg_sl ([.ref (ck_ad G 10 0)]) ++ List.replicate (1 - (lg_sl ([.ref (ck_ad G 10 0)])).length) Slot.unset).toArray = ls at hl ⊢
  have hl : lv_has ls 1 [(0, .ref (ck_ad G 10 0))] := hl
  exact wk_X7_chips_0 ⟨B.exec, B.bytes, B.returns, hml, findClass_of_methodNamed B.named, atoms_spec (ws := wsX7_chips) B.pre, B.notSynchronized⟩ hM h hw hl
def sp_X7_checked_52 (nc nb : Nat) (post : Int32 → ck_S → Prop) (K5 : ck_S → Int32 → Int32 → Int32 → Prop) (σ : ck_S) (x1 : Int32) (x3 : Int32) (s0 : Int32) : Prop := ∀ x_1, x_1 = x3 + (-1) → K5 σ x1 s0 x_1
def sp_X7_checked_28 (nc nb : Nat) (post : Int32 → ck_S → Prop) (K5 : ck_S → Int32 → Int32 → Int32 → Prop) (σ : ck_S) (x1 : Int32) (x2 : Int32) (x3 : Int32) (s0 : Int32) : Prop := ∀ x_1, x_1 = ((x2 <<< (1 &&& 31)) &&& 32767) → ((s0 = 0 → (sp_X7_checked_52 nc nb post K5 σ x1 x3 x_1)) ∧ (¬ s0 = 0 → (sp_X7_checked_52 nc nb post K5 σ x1 x3 (x_1 ^^^ 17817))))
def bd_X7_checked_5 (nc nb : Nat) (post : Int32 → ck_S → Prop) (K5 : ck_S → Int32 → Int32 → Int32 → Prop) (σ : ck_S) (x1 : Int32) (x2 : Int32) (x3 : Int32) : Prop := ((x3 < 0 → (post x2 σ)) ∧ (¬ x3 < 0 → (((((x2 >>> (14 &&& 31)) &&& 1) = ((x1 >>> (x3 &&& 31)) &&& 1) → (sp_X7_checked_28 nc nb post K5 σ x1 x2 x3 0)) ∧ (¬ ((x2 >>> (14 &&& 31)) &&& 1) = ((x1 >>> (x3 &&& 31)) &&& 1) → (sp_X7_checked_28 nc nb post K5 σ x1 x2 x3 1))))))
def sp_X7_checked (nc nb : Nat) (σ : ck_S) (a0 : Int32) (a1 : Int32) (post : Int32 → ck_S → Prop) : Prop := lx_4 (bd_X7_checked_5 nc nb post) σ a1 a0 7
set_option maxHeartbeats 4000000 in
set_option maxRecDepth 100000 in
theorem wk_X7_checked_52 {p : Program} {l : Launch} {e : Env} {s : State} {m : MethodId} {args : Array Value} {below : List Frame} {meth : Method} {c : Code} {G : ck_G} (X : ck_X p s m meth c args cX7_checked 5 (some .int) RX7 wsX7_checked) {post : Int32 → ck_S → Prop} {K5 : ck_S → Int32 → Int32 → Int32 → Prop} (hK5 : ∀ (σ : ck_S) (x1 : Int32) (x2 : Int32) (x3 : Int32) (H : Heap) (locs : List Loc) (ls : Array Slot), K5 σ x1 x2 x3 → ck_H G s H locs σ → lv_has ls 5 [(1, .int x1), (2, .int x2), (3, .int x3)] → W p l e ({ frames := 0, cells := 0, slots := 0, locals := 0 } : Room) s m args below meth c H locs 0 0 (MQ below (va_Qi post (ck_Q G) (ck_A G s.heap.size)) args s 0 0 (ck_A G s.heap.size)) (F0 m 5 ls [])) {σ : ck_S} {x1 : Int32} {x3 : Int32} {s0 : Int32} {H : Heap} {locs : List Loc} {ls : Array Slot} (h : sp_X7_checked_52 (ck_nc G) (ck_nb G) post K5 σ x1 x3 s0) (hw : ck_H G s H locs σ) (hl : lv_has ls 5 [(1, .int x1), (3, .int x3)]) : W p l e ({ frames := 0, cells := 0, slots := 0, locals := 0 } : Room) s m args below meth c H locs 0 0 (MQ below (va_Qi post (ck_Q G) (ck_A G s.heap.size)) args s 0 0 (ck_A G s.heap.size)) (F0 m 52 ls [.int s0]) := by
  obtain ⟨hx, hb, hr, hml, hown, hts, hlocks⟩ := id X
  unfold sp_X7_checked_52 at h
  refine lv_istore_n (lv' := [(2, .int s0), (1, .int x1), (3, .int x3)]) hx hb dX7_checked_52 rfl hl (by decide) rfl (fun ls hl => ?_)
  obtain ⟨x_1, ex_1⟩ : ∃ z : Int32, z = x3 + (-1) := ⟨_, rfl⟩
  have h := h x_1 ex_1
  refine lv_iinc (v := x_1) (lv' := [(3, .int x_1), (2, .int s0), (1, .int x1)]) hx hb dX7_checked_53 hl (k := 2) rfl (by rw [ex_1]; rfl) (by decide) rfl (fun ls hl => ?_)
  refine lv_goto (tgt := 5) hx hb dX7_checked_56 (by decide) ?_
  exact hK5 _ _ _ _ _ _ _ h hw (lv_sub hl [2, 1, 0] rfl)
set_option maxHeartbeats 4000000 in
set_option maxRecDepth 100000 in
theorem wk_X7_checked_28 {p : Program} {l : Launch} {e : Env} {s : State} {m : MethodId} {args : Array Value} {below : List Frame} {meth : Method} {c : Code} {G : ck_G} (X : ck_X p s m meth c args cX7_checked 5 (some .int) RX7 wsX7_checked) {post : Int32 → ck_S → Prop} {K5 : ck_S → Int32 → Int32 → Int32 → Prop} (hK5 : ∀ (σ : ck_S) (x1 : Int32) (x2 : Int32) (x3 : Int32) (H : Heap) (locs : List Loc) (ls : Array Slot), K5 σ x1 x2 x3 → ck_H G s H locs σ → lv_has ls 5 [(1, .int x1), (2, .int x2), (3, .int x3)] → W p l e ({ frames := 0, cells := 0, slots := 0, locals := 0 } : Room) s m args below meth c H locs 0 0 (MQ below (va_Qi post (ck_Q G) (ck_A G s.heap.size)) args s 0 0 (ck_A G s.heap.size)) (F0 m 5 ls [])) {σ : ck_S} {x1 : Int32} {x2 : Int32} {x3 : Int32} {s0 : Int32} {H : Heap} {locs : List Loc} {ls : Array Slot} (h : sp_X7_checked_28 (ck_nc G) (ck_nb G) post K5 σ x1 x2 x3 s0) (hw : ck_H G s H locs σ) (hl : lv_has ls 5 [(1, .int x1), (2, .int x2), (3, .int x3)]) : W p l e ({ frames := 0, cells := 0, slots := 0, locals := 0 } : Room) s m args below meth c H locs 0 0 (MQ below (va_Qi post (ck_Q G) (ck_A G s.heap.size)) args s 0 0 (ck_A G s.heap.size)) (F0 m 28 ls [.int s0]) := by
  obtain ⟨hx, hb, hr, hml, hown, hts, hlocks⟩ := id X
  unfold sp_X7_checked_28 at h
  refine lv_istore (lv' := [(4, .int s0), (1, .int x1), (2, .int x2), (3, .int x3)]) hx hb dX7_checked_28 hl (by decide) rfl (fun ls hl => ?_)
  refine lv_iload_n hx hb dX7_checked_30 rfl (lv_at hl 2 rfl) ?_
  refine lv_iconst (v := 1) hx hb dX7_checked_31 (by decide) ?_
  refine lv_ishl hx hb dX7_checked_32 ?_
  refine lv_sipush (v := 32767) hx hb dX7_checked_33 (by decide) ?_
  refine lv_iand hx hb dX7_checked_36 ?_
  refine lv_topi (fun x_1 ex_1 => ?_)
  have h := h x_1 ex_1
  refine lv_istore_n (lv' := [(2, .int x_1), (4, .int s0), (1, .int x1), (3, .int x3)]) hx hb dX7_checked_37 rfl hl (by decide) rfl (fun ls hl => ?_)
  refine lv_iload hx hb dX7_checked_38 (lv_at hl 1 rfl) ?_
  obtain ⟨hA, hB⟩ := h
  refine lv_if_eq (tgt := 51) hx hb dX7_checked_40 (by decide) (fun c2 => ?_) (fun c2 => ?_)
  · have h := hA c2
    refine lv_iload_n hx hb dX7_checked_51 rfl (lv_at hl 0 rfl) ?_
    exact wk_X7_checked_52 X hK5 h hw (lv_sub hl [2, 3] rfl)
  · have h := hB c2
    refine lv_iload_n hx hb dX7_checked_43 rfl (lv_at hl 0 rfl) ?_
    refine lv_sipush (v := 17817) hx hb dX7_checked_44 (by decide) ?_
    refine lv_ixor hx hb dX7_checked_47 ?_
    refine lv_goto (tgt := 52) hx hb dX7_checked_48 (by decide) ?_
    exact wk_X7_checked_52 X hK5 h hw (lv_sub hl [2, 3] rfl)
set_option maxHeartbeats 4000000 in
set_option maxRecDepth 100000 in
theorem wk_X7_checked_5 {p : Program} {l : Launch} {e : Env} {s : State} {m : MethodId} {args : Array Value} {below : List Frame} {meth : Method} {c : Code} {G : ck_G} (X : ck_X p s m meth c args cX7_checked 5 (some .int) RX7 wsX7_checked) {post : Int32 → ck_S → Prop} : ∀ (fu : Nat) (σ : ck_S) (x1 : Int32) (x2 : Int32) (x3 : Int32) (H : Heap) (locs : List Loc) (ls : Array Slot), lk_4 (bd_X7_checked_5 (ck_nc G) (ck_nb G) post) fu σ x1 x2 x3 → ck_H G s H locs σ → lv_has ls 5 [(1, .int x1), (2, .int x2), (3, .int x3)] → W p l e ({ frames := 0, cells := 0, slots := 0, locals := 0 } : Room) s m args below meth c H locs 0 0 (MQ below (va_Qi post (ck_Q G) (ck_A G s.heap.size)) args s 0 0 (ck_A G s.heap.size)) (F0 m 5 ls []) := by
  obtain ⟨hx, hb, hr, hml, hown, hts, hlocks⟩ := id X
  intro fu
  induction fu with
  | zero => intro σ x1 x2 x3 H locs ls h hw hl; exact h.elim
  | succ fu hK5 =>
    intro σ x1 x2 x3 H locs ls h hw hl
    have h : bd_X7_checked_5 (ck_nc G) (ck_nb G) post (lk_4 (bd_X7_checked_5 (ck_nc G) (ck_nb G) post) fu) σ x1 x2 x3 := h
    unfold bd_X7_checked_5 at h
    refine lv_iload_n hx hb dX7_checked_5 rfl (lv_at hl 2 rfl) ?_
    obtain ⟨hA, hB⟩ := h
    refine lv_if_lt (tgt := 59) hx hb dX7_checked_6 (by decide) (fun c1 => ?_) (fun c1 => ?_)
    · have h := hA c1
      refine lv_iload_n hx hb dX7_checked_59 rfl (lv_at hl 1 rfl) ?_
      exact ck_iret X hw h dX7_checked_60
    · have h := hB c1
      refine lv_iload_n hx hb dX7_checked_9 rfl (lv_at hl 1 rfl) ?_
      refine lv_bipush (v := 14) hx hb dX7_checked_10 (by decide) ?_
      refine lv_ishr hx hb dX7_checked_12 ?_
      refine lv_iconst (v := 1) hx hb dX7_checked_13 (by decide) ?_
      refine lv_iand hx hb dX7_checked_14 ?_
      refine lv_iload_n hx hb dX7_checked_15 rfl (lv_at hl 0 rfl) ?_
      refine lv_iload_n hx hb dX7_checked_16 rfl (lv_at hl 2 rfl) ?_
      refine lv_ishr hx hb dX7_checked_17 ?_
      refine lv_iconst (v := 1) hx hb dX7_checked_18 (by decide) ?_
      refine lv_iand hx hb dX7_checked_19 ?_
      obtain ⟨hA, hB⟩ := h
      refine lv_icmp_eq (tgt := 27) hx hb dX7_checked_20 (by decide) (fun c2 => ?_) (fun c2 => ?_)
      · have h := hA c2
        refine lv_iconst (v := 0) hx hb dX7_checked_27 (by decide) ?_
        exact wk_X7_checked_28 X hK5 h hw (lv_sub hl [0, 1, 2] rfl)
      · have h := hB c2
        refine lv_iconst (v := 1) hx hb dX7_checked_23 (by decide) ?_
        refine lv_goto (tgt := 28) hx hb dX7_checked_24 (by decide) ?_
        exact wk_X7_checked_28 X hK5 h hw (lv_sub hl [0, 1, 2] rfl)
set_option maxHeartbeats 4000000 in
set_option maxRecDepth 100000 in
theorem wk_X7_checked_0 {p : Program} {l : Launch} {e : Env} {s : State} {m : MethodId} {args : Array Value} {below : List Frame} {meth : Method} {c : Code} {G : ck_G} (X : ck_X p s m meth c args cX7_checked 5 (some .int) RX7 wsX7_checked) {post : Int32 → ck_S → Prop} {σ : ck_S} {a0 : Int32} {a1 : Int32} {H : Heap} {locs : List Loc} {ls : Array Slot} (h : sp_X7_checked (ck_nc G) (ck_nb G) σ a0 a1 post) (hw : ck_H G s H locs σ) (hl : lv_has ls 5 [(0, .int a0), (1, .int a1)]) : W p l e ({ frames := 0, cells := 0, slots := 0, locals := 0 } : Room) s m args below meth c H locs 0 0 (MQ below (va_Qi post (ck_Q G) (ck_A G s.heap.size)) args s 0 0 (ck_A G s.heap.size)) (F0 m 0 ls []) := by
  obtain ⟨hx, hb, hr, hml, hown, hts, hlocks⟩ := id X
  unfold sp_X7_checked at h
  refine lv_iload_n hx hb dX7_checked_0 rfl (lv_at hl 0 rfl) ?_
  refine lv_istore_n (lv' := [(2, .int a0), (0, .int a0), (1, .int a1)]) hx hb dX7_checked_1 rfl hl (by decide) rfl (fun ls hl => ?_)
  refine lv_bipush (v := 7) hx hb dX7_checked_2 (by decide) ?_
  refine lv_istore_n (lv' := [(3, .int 7), (2, .int a0), (0, .int a0), (1, .int a1)]) hx hb dX7_checked_4 rfl hl (by decide) rfl (fun ls hl => ?_)
  obtain ⟨fu, h⟩ := h
  exact wk_X7_checked_5 X fu _ _ _ _ _ _ _ h hw (lv_sub hl [3, 1, 0] rfl)
set_option maxHeartbeats 4000000 in
set_option maxRecDepth 100000 in
theorem ct_X7_checked (l : Launch) (G : ck_G) {a0 : Int32} {a1 : Int32} {σ : ck_S} {post : Int32 → ck_S → Prop} (h : sp_X7_checked (ck_nc G) (ck_nb G) σ a0 a1 post) : ck_Mi l yX7_checked wsX7_checked ({ frames := 0, cells := 0, slots := 0, locals := 0 } : Room) G σ [.int a0, .int a1] post := by
  intro sz
  refine Met.ofW (cc := cX7_checked) (maxL := 5) (ret := (some .int)) (by decide) rfl ?_
  intro p e s m args below meth c s₁ B hml hv
  obtain ⟨rfl, rfl, hw⟩ := ck_enter hv
  have hl := lv_entry ([.int a0, .int a1]) (n := 5) (Nat.le_of_ble_eq_true rfl)
  rw [lg_entry_eq]
  generalize (lg_sl ([.int a0, .int a1]) ++ List.replicate (5 - (lg_sl ([.int a0, .int a1])).length) Slot.unset).toArray = ls at hl ⊢
  have hl : lv_has ls 5 [(0, .int a0), (1, .int a1)] := hl
  exact wk_X7_checked_0 ⟨B.exec, B.bytes, B.returns, hml, findClass_of_methodNamed B.named, atoms_spec (ws := wsX7_checked) B.pre, B.notSynchronized⟩ h hw hl
def sp_X7_byteOf_12 (nc nb : Nat) (post : Int32 → ck_S → Prop) (σ : ck_S) (x4 : Int32) (s0 : Int64) : Prop := post (((s0 >>> ((56 - (8 * (x4 - x4 / 8 * 8))).toInt64 &&& 63)).toInt32) &&& 255) σ
def sp_X7_byteOf (nc nb : Nat) (σ : ck_S) (a0 : Int64) (a1 : Int64) (a2 : Int32) (post : Int32 → ck_S → Prop) : Prop := ((8 ≤ a2 → (sp_X7_byteOf_12 nc nb post σ a2 a1)) ∧ (¬ 8 ≤ a2 → (sp_X7_byteOf_12 nc nb post σ a2 a0)))
set_option maxHeartbeats 4000000 in
set_option maxRecDepth 100000 in
theorem wk_X7_byteOf_12 {p : Program} {l : Launch} {e : Env} {s : State} {m : MethodId} {args : Array Value} {below : List Frame} {meth : Method} {c : Code} {G : ck_G} (X : ck_X p s m meth c args cX7_byteOf 5 (some .int) RX7 wsX7_byteOf) {post : Int32 → ck_S → Prop} {σ : ck_S} {x4 : Int32} {s0 : Int64} {H : Heap} {locs : List Loc} {ls : Array Slot} (h : sp_X7_byteOf_12 (ck_nc G) (ck_nb G) post σ x4 s0) (hw : ck_H G s H locs σ) (hl : lv_has ls 5 [(4, .int x4)]) : W p l e ({ frames := 0, cells := 0, slots := 0, locals := 0 } : Room) s m args below meth c H locs 0 0 (MQ below (va_Qi post (ck_Q G) (ck_A G s.heap.size)) args s 0 0 (ck_A G s.heap.size)) (F0 m 12 ls [.long s0]) := by
  obtain ⟨hx, hb, hr, hml, hown, hts, hlocks⟩ := id X
  unfold sp_X7_byteOf_12 at h
  refine lv_bipush (v := 56) hx hb dX7_byteOf_12 (by decide) ?_
  refine lv_bipush (v := 8) hx hb dX7_byteOf_14 (by decide) ?_
  refine lv_iload hx hb dX7_byteOf_16 (lv_at hl 0 rfl) ?_
  refine lv_bipush (v := 8) hx hb dX7_byteOf_18 (by decide) ?_
  refine lv_irem hx hb dX7_byteOf_20 (by decide) ?_
  refine lv_imul hx hb dX7_byteOf_21 ?_
  refine lv_isub hx hb dX7_byteOf_22 ?_
  refine lv_lshr hx hb dX7_byteOf_23 rfl ?_
  refine lv_l2i hx hb dX7_byteOf_24 rfl ?_
  refine lv_sipush (v := 255) hx hb dX7_byteOf_25 (by decide) ?_
  refine lv_iand hx hb dX7_byteOf_28 ?_
  exact ck_iret X hw h dX7_byteOf_29
set_option maxHeartbeats 4000000 in
set_option maxRecDepth 100000 in
theorem wk_X7_byteOf_0 {p : Program} {l : Launch} {e : Env} {s : State} {m : MethodId} {args : Array Value} {below : List Frame} {meth : Method} {c : Code} {G : ck_G} (X : ck_X p s m meth c args cX7_byteOf 5 (some .int) RX7 wsX7_byteOf) {post : Int32 → ck_S → Prop} {σ : ck_S} {a0 : Int64} {a1 : Int64} {a2 : Int32} {H : Heap} {locs : List Loc} {ls : Array Slot} (h : sp_X7_byteOf (ck_nc G) (ck_nb G) σ a0 a1 a2 post) (hw : ck_H G s H locs σ) (hl : lv_has ls 5 [(0, .long a0), (2, .long a1), (4, .int a2)]) : W p l e ({ frames := 0, cells := 0, slots := 0, locals := 0 } : Room) s m args below meth c H locs 0 0 (MQ below (va_Qi post (ck_Q G) (ck_A G s.heap.size)) args s 0 0 (ck_A G s.heap.size)) (F0 m 0 ls []) := by
  obtain ⟨hx, hb, hr, hml, hown, hts, hlocks⟩ := id X
  unfold sp_X7_byteOf at h
  refine lv_iload hx hb dX7_byteOf_0 (lv_at hl 2 rfl) ?_
  refine lv_bipush (v := 8) hx hb dX7_byteOf_2 (by decide) ?_
  obtain ⟨hA, hB⟩ := h
  refine lv_icmp_ge (tgt := 11) hx hb dX7_byteOf_4 (by decide) (fun c1 => ?_) (fun c1 => ?_)
  · have h := hA c1
    refine lv_lload_n hx hb dX7_byteOf_11 rfl (lv_at hl 1 rfl) ?_
    exact wk_X7_byteOf_12 X h hw (lv_sub hl [2] rfl)
  · have h := hB c1
    refine lv_lload_n hx hb dX7_byteOf_7 rfl (lv_at hl 0 rfl) ?_
    refine lv_goto (tgt := 12) hx hb dX7_byteOf_8 (by decide) ?_
    exact wk_X7_byteOf_12 X h hw (lv_sub hl [2] rfl)
set_option maxHeartbeats 4000000 in
set_option maxRecDepth 100000 in
theorem ct_X7_byteOf (l : Launch) (G : ck_G) {a0 : Int64} {a1 : Int64} {a2 : Int32} {σ : ck_S} {post : Int32 → ck_S → Prop} (h : sp_X7_byteOf (ck_nc G) (ck_nb G) σ a0 a1 a2 post) : ck_Mi l yX7_byteOf wsX7_byteOf ({ frames := 0, cells := 0, slots := 0, locals := 0 } : Room) G σ [.long a0, .long a1, .int a2] post := by
  intro sz
  refine Met.ofW (cc := cX7_byteOf) (maxL := 5) (ret := (some .int)) (by decide) rfl ?_
  intro p e s m args below meth c s₁ B hml hv
  obtain ⟨rfl, rfl, hw⟩ := ck_enter hv
  have hl := lv_entry ([.long a0, .long a1, .int a2]) (n := 5) (Nat.le_of_ble_eq_true rfl)
  rw [lg_entry_eq]
  generalize (lg_sl ([.long a0, .long a1, .int a2]) ++ List.replicate (5 - (lg_sl ([.long a0, .long a1, .int a2])).length) Slot.unset).toArray = ls at hl ⊢
  have hl : lv_has ls 5 [(0, .long a0), (2, .long a1), (4, .int a2)] := hl
  exact wk_X7_byteOf_0 ⟨B.exec, B.bytes, B.returns, hml, findClass_of_methodNamed B.named, atoms_spec (ws := wsX7_byteOf) B.pre, B.notSynchronized⟩ h hw hl
def bd_X7_sealOf_6 (nc nb : Nat) (post : Int32 → ck_S → Prop) (K6 : ck_S → Int64 → Int64 → Int32 → Int32 → Prop) (σ : ck_S) (x0 : Int64) (x2 : Int64) (x4 : Int32) (x5 : Int32) : Prop := ((14 ≤ x5 → (post x4 σ)) ∧ (¬ 14 ≤ x5 → (sp_X7_byteOf nc nb σ x0 x2 x5 (fun x_3 σ2 => sp_X7_checked nc nb σ2 x4 x_3 (fun x_5 σ4 => ∀ x_6, x_6 = x5 + 1 → K6 σ4 x0 x2 x_5 x_6)))))
def sp_X7_sealOf (nc nb : Nat) (σ : ck_S) (a0 : Int64) (a1 : Int64) (post : Int32 → ck_S → Prop) : Prop := lx_5 (bd_X7_sealOf_6 nc nb post) σ a0 a1 0 0
set_option maxHeartbeats 4000000 in
set_option maxRecDepth 100000 in
theorem wk_X7_sealOf_6 {p : Program} {l : Launch} {e : Env} {s : State} {m : MethodId} {args : Array Value} {below : List Frame} {meth : Method} {c : Code} {G : ck_G} (X : ck_X p s m meth c args cX7_sealOf 6 (some .int) RX7 wsX7_sealOf) {post : Int32 → ck_S → Prop} : ∀ (fu : Nat) (σ : ck_S) (x0 : Int64) (x2 : Int64) (x4 : Int32) (x5 : Int32) (H : Heap) (locs : List Loc) (ls : Array Slot), lk_5 (bd_X7_sealOf_6 (ck_nc G) (ck_nb G) post) fu σ x0 x2 x4 x5 → ck_H G s H locs σ → lv_has ls 6 [(0, .long x0), (2, .long x2), (4, .int x4), (5, .int x5)] → W p l e ({ frames := 1, cells := 0, slots := 0, locals := 24 } : Room) s m args below meth c H locs 0 0 (MQ below (va_Qi post (ck_Q G) (ck_A G s.heap.size)) args s 0 0 (ck_A G s.heap.size)) (F0 m 6 ls []) := by
  obtain ⟨hx, hb, hr, hml, hown, hts, hlocks⟩ := id X
  intro fu
  induction fu with
  | zero => intro σ x0 x2 x4 x5 H locs ls h hw hl; exact h.elim
  | succ fu hK6 =>
    intro σ x0 x2 x4 x5 H locs ls h hw hl
    have h : bd_X7_sealOf_6 (ck_nc G) (ck_nb G) post (lk_5 (bd_X7_sealOf_6 (ck_nc G) (ck_nb G) post) fu) σ x0 x2 x4 x5 := h
    unfold bd_X7_sealOf_6 at h
    refine lv_iload hx hb dX7_sealOf_6 (lv_at hl 3 rfl) ?_
    refine lv_bipush (v := 14) hx hb dX7_sealOf_8 (by decide) ?_
    obtain ⟨hA, hB⟩ := h
    refine lv_icmp_ge (tgt := 33) hx hb dX7_sealOf_10 (by decide) (fun c1 => ?_) (fun c1 => ?_)
    · have h := hA c1
      refine lv_iload hx hb dX7_sealOf_33 (lv_at hl 2 rfl) ?_
      exact ck_iret X hw h dX7_sealOf_35
    · have h := hB c1
      refine lv_iload hx hb dX7_sealOf_13 (lv_at hl 2 rfl) ?_
      refine lv_lload_n hx hb dX7_sealOf_15 rfl (lv_at hl 0 rfl) ?_
      refine lv_lload_n hx hb dX7_sealOf_16 rfl (lv_at hl 1 rfl) ?_
      refine lv_iload hx hb dX7_sealOf_17 (lv_at hl 3 rfl) ?_
      refine ck_callSi (rest := [.int x4]) ⟨hx, hb, hml, hown, hts⟩ hw (ct_X7_byteOf l G h) (va_cwS 3 hts gX7_sealOf_X7_byteOf rfl rfl rfl (by decide +kernel) ⟨(Nat.le_of_ble_eq_true rfl), (Nat.le_of_ble_eq_true rfl)⟩) rfl hl.1 rfl (Nat.le_of_ble_eq_true rfl) dX7_sealOf_19 ⟨(Nat.le_of_ble_eq_true rfl), (Nat.le_of_ble_eq_true rfl)⟩ (fun x_3 σ2 H locs h hw => ?_)
      refine ck_callSi (rest := []) ⟨hx, hb, hml, hown, hts⟩ hw (ct_X7_checked l G h) (va_cwS 2 hts gX7_sealOf_X7_checked rfl rfl rfl (by decide +kernel) ⟨(Nat.le_of_ble_eq_true rfl), (Nat.le_of_ble_eq_true rfl)⟩) rfl hl.1 rfl (Nat.le_of_ble_eq_true rfl) dX7_sealOf_22 ⟨(Nat.le_of_ble_eq_true rfl), (Nat.le_of_ble_eq_true rfl)⟩ (fun x_5 σ4 H locs h hw => ?_)
      refine lv_istore (lv' := [(4, .int x_5), (0, .long x0), (2, .long x2), (5, .int x5)]) hx hb dX7_sealOf_25 hl (by decide) rfl (fun ls hl => ?_)
      obtain ⟨x_6, ex_6⟩ : ∃ z : Int32, z = x5 + 1 := ⟨_, rfl⟩
      have h := h x_6 ex_6
      refine lv_iinc (v := x_6) (lv' := [(5, .int x_6), (4, .int x_5), (0, .long x0), (2, .long x2)]) hx hb dX7_sealOf_27 hl (k := 3) rfl (by rw [ex_6]; rfl) (by decide) rfl (fun ls hl => ?_)
      refine lv_goto (tgt := 6) hx hb dX7_sealOf_30 (by decide) ?_
      exact hK6 _ _ _ _ _ _ _ _ h hw (lv_sub hl [2, 3, 1, 0] rfl)
set_option maxHeartbeats 4000000 in
set_option maxRecDepth 100000 in
theorem wk_X7_sealOf_0 {p : Program} {l : Launch} {e : Env} {s : State} {m : MethodId} {args : Array Value} {below : List Frame} {meth : Method} {c : Code} {G : ck_G} (X : ck_X p s m meth c args cX7_sealOf 6 (some .int) RX7 wsX7_sealOf) {post : Int32 → ck_S → Prop} {σ : ck_S} {a0 : Int64} {a1 : Int64} {H : Heap} {locs : List Loc} {ls : Array Slot} (h : sp_X7_sealOf (ck_nc G) (ck_nb G) σ a0 a1 post) (hw : ck_H G s H locs σ) (hl : lv_has ls 6 [(0, .long a0), (2, .long a1)]) : W p l e ({ frames := 1, cells := 0, slots := 0, locals := 24 } : Room) s m args below meth c H locs 0 0 (MQ below (va_Qi post (ck_Q G) (ck_A G s.heap.size)) args s 0 0 (ck_A G s.heap.size)) (F0 m 0 ls []) := by
  obtain ⟨hx, hb, hr, hml, hown, hts, hlocks⟩ := id X
  unfold sp_X7_sealOf at h
  refine lv_iconst (v := 0) hx hb dX7_sealOf_0 (by decide) ?_
  refine lv_istore (lv' := [(4, .int 0), (0, .long a0), (2, .long a1)]) hx hb dX7_sealOf_1 hl (by decide) rfl (fun ls hl => ?_)
  refine lv_iconst (v := 0) hx hb dX7_sealOf_3 (by decide) ?_
  refine lv_istore (lv' := [(5, .int 0), (4, .int 0), (0, .long a0), (2, .long a1)]) hx hb dX7_sealOf_4 hl (by decide) rfl (fun ls hl => ?_)
  obtain ⟨fu, h⟩ := h
  exact wk_X7_sealOf_6 X fu _ _ _ _ _ _ _ _ h hw (lv_sub hl [2, 3, 1, 0] rfl)
set_option maxHeartbeats 4000000 in
set_option maxRecDepth 100000 in
theorem ct_X7_sealOf (l : Launch) (G : ck_G) {a0 : Int64} {a1 : Int64} {σ : ck_S} {post : Int32 → ck_S → Prop} (h : sp_X7_sealOf (ck_nc G) (ck_nb G) σ a0 a1 post) : ck_Mi l yX7_sealOf wsX7_sealOf ({ frames := 1, cells := 0, slots := 0, locals := 24 } : Room) G σ [.long a0, .long a1] post := by
  intro sz
  refine Met.ofW (cc := cX7_sealOf) (maxL := 6) (ret := (some .int)) (by decide) rfl ?_
  intro p e s m args below meth c s₁ B hml hv
  obtain ⟨rfl, rfl, hw⟩ := ck_enter hv
  have hl := lv_entry ([.long a0, .long a1]) (n := 6) (Nat.le_of_ble_eq_true rfl)
  rw [lg_entry_eq]
  generalize (lg_sl ([.long a0, .long a1]) ++ List.replicate (6 - (lg_sl ([.long a0, .long a1])).length) Slot.unset).toArray = ls at hl ⊢
  have hl : lv_has ls 6 [(0, .long a0), (2, .long a1)] := hl
  exact wk_X7_sealOf_0 ⟨B.exec, B.bytes, B.returns, hml, findClass_of_methodNamed B.named, atoms_spec (ws := wsX7_sealOf) B.pre, B.notSynchronized⟩ h hw hl
def sp_X7_seal (nc nb : Nat) (σ : ck_S) (a0 : Int64) (a1 : Int64) (post : Int32 → ck_S → Prop) : Prop := ∀ σ1, σ1 = ck_ui σ 10 0 0 0 → sp_X7_sealOf nc nb σ1 a0 a1 (fun x_3 σ2 => post x_3 σ2)
set_option maxHeartbeats 4000000 in
set_option maxRecDepth 100000 in
theorem wk_X7_seal_0 {p : Program} {l : Launch} {e : Env} {s : State} {m : MethodId} {args : Array Value} {below : List Frame} {meth : Method} {c : Code} {G : ck_G} (X : ck_X p s m meth c args cX7_seal 5 (some .int) RX7 wsX7_seal) (hM : ck_inM G) {post : Int32 → ck_S → Prop} {σ : ck_S} {a0 : Int64} {a1 : Int64} {H : Heap} {locs : List Loc} {ls : Array Slot} (h : sp_X7_seal (ck_nc G) (ck_nb G) σ a0 a1 post) (hw : ck_H G s H locs σ) (hl : lv_has ls 5 [(0, .ref (ck_ad G 10 0)), (1, .long a0), (3, .long a1)]) : W p l e ({ frames := 2, cells := 0, slots := 0, locals := 49 } : Room) s m args below meth c H locs 0 0 (MQ below (va_Qi post (ck_Q G) (ck_A G s.heap.size)) args s 0 0 (ck_A G s.heap.size)) (F0 m 0 ls []) := by
  obtain ⟨hx, hb, hr, hml, hown, hts, hlocks⟩ := id X
  have inX7 : ∀ w ∈ wsX70, w ∈ wsX7_seal := fun _ h => List.mem_cons_of_mem _ (List.mem_append_right _ (h))
  unfold sp_X7_seal at h
  refine lv_aload_n hx hb dX7_seal_0 rfl (lv_at hl 0 rfl) ?_
  refine lv_iconst (v := 0) hx hb dX7_seal_1 (by decide) ?_
  refine ck_puti hx hb hts inX7 tyX7 tyX7_ok nmX7 hown hw (hM 10 (by decide) (by decide)) rfl rfl 0 (by decide) (hts _ (List.mem_of_getElem? (i := 1) rfl)) rfl rfl rfl (Nat.le_of_ble_eq_true rfl) rfl dX7_seal_2 (fun H locs hw => ?_)
  obtain ⟨σ1, eσ1⟩ : ∃ z : ck_S, z = ck_ui σ 10 0 0 0 := ⟨_, rfl⟩
  rw [← eσ1] at hw
  have h := h σ1 eσ1
  refine lv_lload_n hx hb dX7_seal_5 rfl (lv_at hl 1 rfl) ?_
  refine lv_lload_n hx hb dX7_seal_6 rfl (lv_at hl 2 rfl) ?_
  refine ck_callSi (rest := []) ⟨hx, hb, hml, hown, hts⟩ hw (ct_X7_sealOf l G h) (va_cwS 2 hts gX7_seal_X7_sealOf rfl rfl rfl (by decide +kernel) ⟨(Nat.le_of_ble_eq_true rfl), (Nat.le_of_ble_eq_true rfl)⟩) rfl hl.1 rfl (Nat.le_of_ble_eq_true rfl) dX7_seal_7 ⟨(Nat.le_of_ble_eq_true rfl), (Nat.le_of_ble_eq_true rfl)⟩ (fun x_3 σ2 H locs h hw => ?_)
  exact ck_iret X hw h dX7_seal_10
set_option maxHeartbeats 4000000 in
set_option maxRecDepth 100000 in
theorem ct_X7_seal (l : Launch) (G : ck_G) (hM : ck_inM G) {a0 : Int64} {a1 : Int64} {σ : ck_S} {post : Int32 → ck_S → Prop} (h : sp_X7_seal (ck_nc G) (ck_nb G) σ a0 a1 post) : ck_Mi l yX7_seal wsX7_seal ({ frames := 2, cells := 0, slots := 0, locals := 49 } : Room) G σ [.ref (ck_ad G 10 0), .long a0, .long a1] post := by
  intro sz
  refine Met.ofW (cc := cX7_seal) (maxL := 5) (ret := (some .int)) (by decide) rfl ?_
  intro p e s m args below meth c s₁ B hml hv
  obtain ⟨rfl, rfl, hw⟩ := ck_enter hv
  have hl := lv_entry ([.ref (ck_ad G 10 0), .long a0, .long a1]) (n := 5) (Nat.le_of_ble_eq_true rfl)
  rw [lg_entry_eq]
  generalize (lg_sl ([.ref (ck_ad G 10 0), .long a0, .long a1]) ++ List.replicate (5 - (lg_sl ([.ref (ck_ad G 10 0), .long a0, .long a1])).length) Slot.unset).toArray = ls at hl ⊢
  have hl : lv_has ls 5 [(0, .ref (ck_ad G 10 0)), (1, .long a0), (3, .long a1)] := hl
  exact wk_X7_seal_0 ⟨B.exec, B.bytes, B.returns, hml, findClass_of_methodNamed B.named, atoms_spec (ws := wsX7_seal) B.pre, B.notSynchronized⟩ hM h hw hl
def sp_X7_two (nc nb : Nat) (σ : ck_S) (a0 : Int64) (a1 : Int64) (a2 : Int32) (post : Int32 → ck_S → Prop) : Prop := sp_X7_byteOf nc nb σ a0 a1 (2 * a2) (fun x_2 σ1 => sp_X7_byteOf nc nb σ1 a0 a1 ((2 * a2) + 1) (fun x_4 σ3 => post ((x_2 <<< (8 &&& 31)) ||| x_4) σ3))
set_option maxHeartbeats 4000000 in
set_option maxRecDepth 100000 in
theorem wk_X7_two_0 {p : Program} {l : Launch} {e : Env} {s : State} {m : MethodId} {args : Array Value} {below : List Frame} {meth : Method} {c : Code} {G : ck_G} (X : ck_X p s m meth c args cX7_two 5 (some .int) RX7 wsX7_two) {post : Int32 → ck_S → Prop} {σ : ck_S} {a0 : Int64} {a1 : Int64} {a2 : Int32} {H : Heap} {locs : List Loc} {ls : Array Slot} (h : sp_X7_two (ck_nc G) (ck_nb G) σ a0 a1 a2 post) (hw : ck_H G s H locs σ) (hl : lv_has ls 5 [(0, .long a0), (2, .long a1), (4, .int a2)]) : W p l e ({ frames := 1, cells := 0, slots := 0, locals := 24 } : Room) s m args below meth c H locs 0 0 (MQ below (va_Qi post (ck_Q G) (ck_A G s.heap.size)) args s 0 0 (ck_A G s.heap.size)) (F0 m 0 ls []) := by
  obtain ⟨hx, hb, hr, hml, hown, hts, hlocks⟩ := id X
  unfold sp_X7_two at h
  refine lv_lload_n hx hb dX7_two_0 rfl (lv_at hl 0 rfl) ?_
  refine lv_lload_n hx hb dX7_two_1 rfl (lv_at hl 1 rfl) ?_
  refine lv_iconst (v := 2) hx hb dX7_two_2 (by decide) ?_
  refine lv_iload hx hb dX7_two_3 (lv_at hl 2 rfl) ?_
  refine lv_imul hx hb dX7_two_5 ?_
  refine ck_callSi (rest := []) ⟨hx, hb, hml, hown, hts⟩ hw (ct_X7_byteOf l G h) (va_cwS 3 hts gX7_two_X7_byteOf rfl rfl rfl (by decide +kernel) ⟨(Nat.le_of_ble_eq_true rfl), (Nat.le_of_ble_eq_true rfl)⟩) rfl hl.1 rfl (Nat.le_of_ble_eq_true rfl) dX7_two_6 ⟨(Nat.le_of_ble_eq_true rfl), (Nat.le_of_ble_eq_true rfl)⟩ (fun x_2 σ1 H locs h hw => ?_)
  refine lv_bipush (v := 8) hx hb dX7_two_9 (by decide) ?_
  refine lv_ishl hx hb dX7_two_11 ?_
  refine lv_lload_n hx hb dX7_two_12 rfl (lv_at hl 0 rfl) ?_
  refine lv_lload_n hx hb dX7_two_13 rfl (lv_at hl 1 rfl) ?_
  refine lv_iconst (v := 2) hx hb dX7_two_14 (by decide) ?_
  refine lv_iload hx hb dX7_two_15 (lv_at hl 2 rfl) ?_
  refine lv_imul hx hb dX7_two_17 ?_
  refine lv_iconst (v := 1) hx hb dX7_two_18 (by decide) ?_
  refine lv_iadd hx hb dX7_two_19 ?_
  refine ck_callSi (rest := [.int (x_2 <<< (8 &&& 31))]) ⟨hx, hb, hml, hown, hts⟩ hw (ct_X7_byteOf l G h) (va_cwS 3 hts gX7_two_X7_byteOf rfl rfl rfl (by decide +kernel) ⟨(Nat.le_of_ble_eq_true rfl), (Nat.le_of_ble_eq_true rfl)⟩) rfl hl.1 rfl (Nat.le_of_ble_eq_true rfl) dX7_two_20 ⟨(Nat.le_of_ble_eq_true rfl), (Nat.le_of_ble_eq_true rfl)⟩ (fun x_4 σ3 H locs h hw => ?_)
  refine lv_ior hx hb dX7_two_23 ?_
  exact ck_iret X hw h dX7_two_24
set_option maxHeartbeats 4000000 in
set_option maxRecDepth 100000 in
theorem ct_X7_two (l : Launch) (G : ck_G) {a0 : Int64} {a1 : Int64} {a2 : Int32} {σ : ck_S} {post : Int32 → ck_S → Prop} (h : sp_X7_two (ck_nc G) (ck_nb G) σ a0 a1 a2 post) : ck_Mi l yX7_two wsX7_two ({ frames := 1, cells := 0, slots := 0, locals := 24 } : Room) G σ [.long a0, .long a1, .int a2] post := by
  intro sz
  refine Met.ofW (cc := cX7_two) (maxL := 5) (ret := (some .int)) (by decide) rfl ?_
  intro p e s m args below meth c s₁ B hml hv
  obtain ⟨rfl, rfl, hw⟩ := ck_enter hv
  have hl := lv_entry ([.long a0, .long a1, .int a2]) (n := 5) (Nat.le_of_ble_eq_true rfl)
  rw [lg_entry_eq]
  generalize (lg_sl ([.long a0, .long a1, .int a2]) ++ List.replicate (5 - (lg_sl ([.long a0, .long a1, .int a2])).length) Slot.unset).toArray = ls at hl ⊢
  have hl : lv_has ls 5 [(0, .long a0), (2, .long a1), (4, .int a2)] := hl
  exact wk_X7_two_0 ⟨B.exec, B.bytes, B.returns, hml, findClass_of_methodNamed B.named, atoms_spec (ws := wsX7_two) B.pre, B.notSynchronized⟩ h hw hl
def bd_X7_reply_72 (nc nb : Nat) (post : Int32 → ck_S → Prop) (K72 : ck_S → Int32 → Int64 → Int64 → Int32 → Int32 → Prop) (σ : ck_S) (x1 : Int32) (x2 : Int64) (x4 : Int64) (x6 : Int32) (x7 : Int32) : Prop := ((6 ≤ x7 → (∀ x_2, x_2 = ((8 * x1) + x6) → (vp_in x_2 32) ∧ ∀ σ4, σ4 = ck_uj σ 15 0 (Int32.toNatClampNeg x_2) (ck_gj σ 10 0 13) → sp_X7_two nc nb σ4 x2 x4 6 (fun x_6 σ5 => (vp_in x1 4) ∧ ∀ σ8, σ8 = ck_ui σ5 16 0 (Int32.toNatClampNeg x1) x_6 → (vp_in x1 4) ∧ (vp_in x1 4) ∧ ∀ σ11, σ11 = ck_ui σ8 17 0 (Int32.toNatClampNeg x1) ((ck_gi σ8 17 0 (Int32.toNatClampNeg x1)) + 1) → (vp_in x1 4) ∧ ∀ σ13, σ13 = ck_ui σ11 18 0 (Int32.toNatClampNeg x1) 0 → (ck_b 1 ∧ post 1 σ13)))) ∧ (¬ 6 ≤ x7 → (∀ x_14, x_14 = ((6 * ((8 * x1) + x6)) + x7) → sp_X7_two nc nb σ x2 x4 x7 (fun x_16 σ15 => (vp_in x_14 192) ∧ ∀ σ18, σ18 = ck_ui σ15 14 0 (Int32.toNatClampNeg x_14) x_16 → ∀ x_19, x_19 = x7 + 1 → K72 σ18 x1 x2 x4 x6 x_19))))
def sp_X7_reply_29 (nc nb : Nat) (post : Int32 → ck_S → Prop) (σ : ck_S) (x1 : Int32) (x2 : Int64) (x4 : Int64) (s0 : Int32) : Prop := ∀ σ1, σ1 = ck_ui σ 10 0 0 s0 → ((0 < (ck_gi σ1 10 0 0) → ((ck_b 0 ∧ post 0 σ1))) ∧ (¬ 0 < (ck_gi σ1 10 0 0) → (sp_X7_two nc nb σ1 x2 x4 7 (fun x_4 σ3 => sp_X7_sealOf nc nb σ3 x2 x4 (fun x_6 σ5 => ((x_4 = x_6 → ((vp_in x1 4) ∧ ∀ x_9, x_9 = (ck_gi σ5 17 0 (Int32.toNatClampNeg x1)) → ∀ x_10, x_10 = (x_9 - x_9 / 8 * 8) → lx_6 (bd_X7_reply_72 nc nb post) σ5 x1 x2 x4 x_10 0)) ∧ (¬ x_4 = x_6 → ((ck_b 0 ∧ post 0 σ5)))))))))
def sp_X7_reply_13 (nc nb : Nat) (post : Int32 → ck_S → Prop) (σ : ck_S) (x1 : Int32) (x2 : Int64) (x4 : Int64) : Prop := sp_X7_reply_29 nc nb post σ x1 x2 x4 1
def sp_X7_reply (nc nb : Nat) (σ : ck_S) (a0 : Int32) (a1 : Int64) (a2 : Int64) (post : Int32 → ck_S → Prop) : Prop := ((a0 < 0 → (sp_X7_reply_13 nc nb post σ a0 a1 a2)) ∧ (¬ a0 < 0 → (((a0 < (ck_gi σ 10 0 1) → ((((ck_gi σ 10 0 9) = 0 → (sp_X7_reply_29 nc nb post σ a0 a1 a2 0)) ∧ (¬ (ck_gi σ 10 0 9) = 0 → (sp_X7_reply_29 nc nb post σ a0 a1 a2 2))))) ∧ (¬ a0 < (ck_gi σ 10 0 1) → (sp_X7_reply_13 nc nb post σ a0 a1 a2))))))
set_option maxHeartbeats 4000000 in
set_option maxRecDepth 100000 in
theorem wk_X7_reply_72 {p : Program} {l : Launch} {e : Env} {s : State} {m : MethodId} {args : Array Value} {below : List Frame} {meth : Method} {c : Code} {G : ck_G} (X : ck_X p s m meth c args cX7_reply 8 (some .boolean) RX7 wsX7_reply) (hM : ck_inM G) {post : Int32 → ck_S → Prop} : ∀ (fu : Nat) (σ : ck_S) (x1 : Int32) (x2 : Int64) (x4 : Int64) (x6 : Int32) (x7 : Int32) (H : Heap) (locs : List Loc) (ls : Array Slot), lk_6 (bd_X7_reply_72 (ck_nc G) (ck_nb G) post) fu σ x1 x2 x4 x6 x7 → ck_H G s H locs σ → lv_has ls 8 [(0, .ref (ck_ad G 10 0)), (1, .int x1), (2, .long x2), (4, .long x4), (6, .int x6), (7, .int x7)] → W p l e ({ frames := 2, cells := 0, slots := 0, locals := 49 } : Room) s m args below meth c H locs 0 0 (MQ below (va_Qi post (ck_Q G) (ck_A G s.heap.size)) args s 0 0 (ck_A G s.heap.size)) (F0 m 72 ls []) := by
  obtain ⟨hx, hb, hr, hml, hown, hts, hlocks⟩ := id X
  have inX7 : ∀ w ∈ wsX70, w ∈ wsX7_reply := fun _ h => List.mem_cons_of_mem _ (List.mem_append_right _ (h))
  intro fu
  induction fu with
  | zero => intro σ x1 x2 x4 x6 x7 H locs ls h hw hl; exact h.elim
  | succ fu hK72 =>
    intro σ x1 x2 x4 x6 x7 H locs ls h hw hl
    have h : bd_X7_reply_72 (ck_nc G) (ck_nb G) post (lk_6 (bd_X7_reply_72 (ck_nc G) (ck_nb G) post) fu) σ x1 x2 x4 x6 x7 := h
    unfold bd_X7_reply_72 at h
    refine lv_iload hx hb dX7_reply_72 (lv_at hl 5 rfl) ?_
    refine lv_bipush (v := 6) hx hb dX7_reply_74 (by decide) ?_
    obtain ⟨hA, hB⟩ := h
    refine lv_icmp_ge (tgt := 111) hx hb dX7_reply_76 (by decide) (fun c1 => ?_) (fun c1 => ?_)
    · have h := hA c1
      refine lv_aload_n hx hb dX7_reply_111 rfl (lv_at hl 0 rfl) ?_
      refine ck_get hx hb hts inX7 hown hw (hM 10 (by decide) (by decide)) rfl rfl 19 (by decide) (hts _ (List.mem_of_getElem? (i := 6) rfl)) rfl dX7_reply_112 ?_
      refine lv_bipush (v := 8) hx hb dX7_reply_115 (by decide) ?_
      refine lv_iload_n hx hb dX7_reply_117 rfl (lv_at hl 1 rfl) ?_
      refine lv_imul hx hb dX7_reply_118 ?_
      refine lv_iload hx hb dX7_reply_119 (lv_at hl 4 rfl) ?_
      refine lv_iadd hx hb dX7_reply_121 ?_
      refine lv_topi (fun x_2 ex_2 => ?_)
      have h := h x_2 ex_2
      refine lv_aload_n hx hb dX7_reply_122 rfl (lv_at hl 0 rfl) ?_
      refine ck_get hx hb hts inX7 hown hw (hM 10 (by decide) (by decide)) rfl rfl 13 (by decide) (hts _ (List.mem_of_getElem? (i := 7) rfl)) rfl dX7_reply_123 ?_
      obtain ⟨n3, h⟩ := h
      refine ck_last hx hb hw (hM 15 (by decide) (by decide)) (fun _ => rfl) n3 dX7_reply_126 (fun H locs hw => ?_)
      obtain ⟨σ4, eσ4⟩ : ∃ z : ck_S, z = ck_uj σ 15 0 (Int32.toNatClampNeg x_2) (ck_gj σ 10 0 13) := ⟨_, rfl⟩
      rw [← eσ4] at hw
      have h := h σ4 eσ4
      refine lv_aload_n hx hb dX7_reply_127 rfl (lv_at hl 0 rfl) ?_
      refine ck_get hx hb hts inX7 hown hw (hM 10 (by decide) (by decide)) rfl rfl 20 (by decide) (hts _ (List.mem_of_getElem? (i := 8) rfl)) rfl dX7_reply_128 ?_
      refine lv_iload_n hx hb dX7_reply_131 rfl (lv_at hl 1 rfl) ?_
      refine lv_lload_n hx hb dX7_reply_132 rfl (lv_at hl 2 rfl) ?_
      refine lv_lload hx hb dX7_reply_133 (lv_at hl 3 rfl) ?_
      refine lv_bipush (v := 6) hx hb dX7_reply_135 (by decide) ?_
      refine ck_callSi (rest := [.int x1, .ref (ck_ad G 16 0)]) ⟨hx, hb, hml, hown, hts⟩ hw (ct_X7_two l G h) (va_cwS 3 hts gX7_reply_X7_two rfl rfl rfl (by decide +kernel) ⟨(Nat.le_of_ble_eq_true rfl), (Nat.le_of_ble_eq_true rfl)⟩) rfl hl.1 rfl (Nat.le_of_ble_eq_true rfl) dX7_reply_137 ⟨(Nat.le_of_ble_eq_true rfl), (Nat.le_of_ble_eq_true rfl)⟩ (fun x_6 σ5 H locs h hw => ?_)
      obtain ⟨n7, h⟩ := h
      refine ck_iast hx hb hw (hM 16 (by decide) (by decide)) (fun _ => rfl) n7 dX7_reply_140 (fun H locs hw => ?_)
      obtain ⟨σ8, eσ8⟩ : ∃ z : ck_S, z = ck_ui σ5 16 0 (Int32.toNatClampNeg x1) x_6 := ⟨_, rfl⟩
      rw [← eσ8] at hw
      have h := h σ8 eσ8
      refine lv_aload_n hx hb dX7_reply_141 rfl (lv_at hl 0 rfl) ?_
      refine ck_get hx hb hts inX7 hown hw (hM 10 (by decide) (by decide)) rfl rfl 21 (by decide) (hts _ (List.mem_of_getElem? (i := 4) rfl)) rfl dX7_reply_142 ?_
      refine lv_iload_n hx hb dX7_reply_145 rfl (lv_at hl 1 rfl) ?_
      refine lv_dup2_11 hx hb dX7_reply_146 rfl rfl ?_
      obtain ⟨n9, h⟩ := h
      refine ck_iald hx hb hw (hM 17 (by decide) (by decide)) rfl n9 dX7_reply_147 ?_
      refine lv_iconst (v := 1) hx hb dX7_reply_148 (by decide) ?_
      refine lv_iadd hx hb dX7_reply_149 ?_
      obtain ⟨n10, h⟩ := h
      refine ck_iast hx hb hw (hM 17 (by decide) (by decide)) (fun _ => rfl) n10 dX7_reply_150 (fun H locs hw => ?_)
      obtain ⟨σ11, eσ11⟩ : ∃ z : ck_S, z = ck_ui σ8 17 0 (Int32.toNatClampNeg x1) ((ck_gi σ8 17 0 (Int32.toNatClampNeg x1)) + 1) := ⟨_, rfl⟩
      rw [← eσ11] at hw
      have h := h σ11 eσ11
      refine lv_aload_n hx hb dX7_reply_151 rfl (lv_at hl 0 rfl) ?_
      refine ck_get hx hb hts inX7 hown hw (hM 10 (by decide) (by decide)) rfl rfl 22 (by decide) (hts _ (List.mem_of_getElem? (i := 9) rfl)) rfl dX7_reply_152 ?_
      refine lv_iload_n hx hb dX7_reply_155 rfl (lv_at hl 1 rfl) ?_
      refine lv_iconst (v := 0) hx hb dX7_reply_156 (by decide) ?_
      obtain ⟨n12, h⟩ := h
      refine ck_iast hx hb hw (hM 18 (by decide) (by decide)) (fun _ => rfl) n12 dX7_reply_157 (fun H locs hw => ?_)
      obtain ⟨σ13, eσ13⟩ : ∃ z : ck_S, z = ck_ui σ11 18 0 (Int32.toNatClampNeg x1) 0 := ⟨_, rfl⟩
      rw [← eσ13] at hw
      have h := h σ13 eσ13
      refine lv_iconst (v := 1) hx hb dX7_reply_158 (by decide) ?_
      exact ck_zret X hw h dX7_reply_159
    · have h := hB c1
      refine lv_aload_n hx hb dX7_reply_79 rfl (lv_at hl 0 rfl) ?_
      refine ck_get hx hb hts inX7 hown hw (hM 10 (by decide) (by decide)) rfl rfl 18 (by decide) (hts _ (List.mem_of_getElem? (i := 5) rfl)) rfl dX7_reply_80 ?_
      refine lv_bipush (v := 6) hx hb dX7_reply_83 (by decide) ?_
      refine lv_bipush (v := 8) hx hb dX7_reply_85 (by decide) ?_
      refine lv_iload_n hx hb dX7_reply_87 rfl (lv_at hl 1 rfl) ?_
      refine lv_imul hx hb dX7_reply_88 ?_
      refine lv_iload hx hb dX7_reply_89 (lv_at hl 4 rfl) ?_
      refine lv_iadd hx hb dX7_reply_91 ?_
      refine lv_imul hx hb dX7_reply_92 ?_
      refine lv_iload hx hb dX7_reply_93 (lv_at hl 5 rfl) ?_
      refine lv_iadd hx hb dX7_reply_95 ?_
      refine lv_topi (fun x_14 ex_14 => ?_)
      have h := h x_14 ex_14
      refine lv_lload_n hx hb dX7_reply_96 rfl (lv_at hl 2 rfl) ?_
      refine lv_lload hx hb dX7_reply_97 (lv_at hl 3 rfl) ?_
      refine lv_iload hx hb dX7_reply_99 (lv_at hl 5 rfl) ?_
      refine ck_callSi (rest := [.int x_14, .ref (ck_ad G 14 0)]) ⟨hx, hb, hml, hown, hts⟩ hw (ct_X7_two l G h) (va_cwS 3 hts gX7_reply_X7_two rfl rfl rfl (by decide +kernel) ⟨(Nat.le_of_ble_eq_true rfl), (Nat.le_of_ble_eq_true rfl)⟩) rfl hl.1 rfl (Nat.le_of_ble_eq_true rfl) dX7_reply_101 ⟨(Nat.le_of_ble_eq_true rfl), (Nat.le_of_ble_eq_true rfl)⟩ (fun x_16 σ15 H locs h hw => ?_)
      obtain ⟨n17, h⟩ := h
      refine ck_iast hx hb hw (hM 14 (by decide) (by decide)) (fun _ => rfl) n17 dX7_reply_104 (fun H locs hw => ?_)
      obtain ⟨σ18, eσ18⟩ : ∃ z : ck_S, z = ck_ui σ15 14 0 (Int32.toNatClampNeg x_14) x_16 := ⟨_, rfl⟩
      rw [← eσ18] at hw
      have h := h σ18 eσ18
      obtain ⟨x_19, ex_19⟩ : ∃ z : Int32, z = x7 + 1 := ⟨_, rfl⟩
      have h := h x_19 ex_19
      refine lv_iinc (v := x_19) (lv' := [(7, .int x_19), (0, .ref (ck_ad G 10 0)), (1, .int x1), (2, .long x2), (4, .long x4), (6, .int x6)]) hx hb dX7_reply_105 hl (k := 5) rfl (by rw [ex_19]; rfl) (by decide) rfl (fun ls hl => ?_)
      refine lv_goto (tgt := 72) hx hb dX7_reply_108 (by decide) ?_
      exact hK72 _ _ _ _ _ _ _ _ _ h hw (lv_sub hl [1, 2, 3, 4, 5, 0] rfl)
set_option maxHeartbeats 4000000 in
set_option maxRecDepth 100000 in
theorem wk_X7_reply_29 {p : Program} {l : Launch} {e : Env} {s : State} {m : MethodId} {args : Array Value} {below : List Frame} {meth : Method} {c : Code} {G : ck_G} (X : ck_X p s m meth c args cX7_reply 8 (some .boolean) RX7 wsX7_reply) (hM : ck_inM G) {post : Int32 → ck_S → Prop} {σ : ck_S} {x1 : Int32} {x2 : Int64} {x4 : Int64} {s0 : Int32} {H : Heap} {locs : List Loc} {ls : Array Slot} (h : sp_X7_reply_29 (ck_nc G) (ck_nb G) post σ x1 x2 x4 s0) (hw : ck_H G s H locs σ) (hl : lv_has ls 8 [(0, .ref (ck_ad G 10 0)), (1, .int x1), (2, .long x2), (4, .long x4)]) : W p l e ({ frames := 2, cells := 0, slots := 0, locals := 49 } : Room) s m args below meth c H locs 0 0 (MQ below (va_Qi post (ck_Q G) (ck_A G s.heap.size)) args s 0 0 (ck_A G s.heap.size)) (F0 m 29 ls [.int s0, .ref (ck_ad G 10 0)]) := by
  obtain ⟨hx, hb, hr, hml, hown, hts, hlocks⟩ := id X
  have inX7 : ∀ w ∈ wsX70, w ∈ wsX7_reply := fun _ h => List.mem_cons_of_mem _ (List.mem_append_right _ (h))
  unfold sp_X7_reply_29 at h
  refine ck_puti hx hb hts inX7 tyX7 tyX7_ok nmX7 hown hw (hM 10 (by decide) (by decide)) rfl rfl 0 (by decide) (hts _ (List.mem_of_getElem? (i := 3) rfl)) rfl rfl rfl (Nat.le_of_ble_eq_true rfl) rfl dX7_reply_29 (fun H locs hw => ?_)
  obtain ⟨σ1, eσ1⟩ : ∃ z : ck_S, z = ck_ui σ 10 0 0 s0 := ⟨_, rfl⟩
  rw [← eσ1] at hw
  have h := h σ1 eσ1
  refine lv_aload_n hx hb dX7_reply_32 rfl (lv_at hl 0 rfl) ?_
  refine ck_get hx hb hts inX7 hown hw (hM 10 (by decide) (by decide)) rfl rfl 0 (by decide) (hts _ (List.mem_of_getElem? (i := 3) rfl)) rfl dX7_reply_33 ?_
  obtain ⟨hA, hB⟩ := h
  refine lv_if_gt (tgt := 56) hx hb dX7_reply_36 (by decide) (fun c2 => ?_) (fun c2 => ?_)
  · have h := hA c2
    refine lv_iconst (v := 0) hx hb dX7_reply_56 (by decide) ?_
    exact ck_zret X hw h dX7_reply_57
  · have h := hB c2
    refine lv_lload_n hx hb dX7_reply_39 rfl (lv_at hl 2 rfl) ?_
    refine lv_lload hx hb dX7_reply_40 (lv_at hl 3 rfl) ?_
    refine lv_bipush (v := 7) hx hb dX7_reply_42 (by decide) ?_
    refine ck_callSi (rest := []) ⟨hx, hb, hml, hown, hts⟩ hw (ct_X7_two l G h) (va_cwS 3 hts gX7_reply_X7_two rfl rfl rfl (by decide +kernel) ⟨(Nat.le_of_ble_eq_true rfl), (Nat.le_of_ble_eq_true rfl)⟩) rfl hl.1 rfl (Nat.le_of_ble_eq_true rfl) dX7_reply_44 ⟨(Nat.le_of_ble_eq_true rfl), (Nat.le_of_ble_eq_true rfl)⟩ (fun x_4 σ3 H locs h hw => ?_)
    refine lv_lload_n hx hb dX7_reply_47 rfl (lv_at hl 2 rfl) ?_
    refine lv_lload hx hb dX7_reply_48 (lv_at hl 3 rfl) ?_
    refine ck_callSi (rest := [.int x_4]) ⟨hx, hb, hml, hown, hts⟩ hw (ct_X7_sealOf l G h) (va_cwS 2 hts gX7_reply_X7_sealOf rfl rfl rfl (by decide +kernel) ⟨(Nat.le_of_ble_eq_true rfl), (Nat.le_of_ble_eq_true rfl)⟩) rfl hl.1 rfl (Nat.le_of_ble_eq_true rfl) dX7_reply_50 ⟨(Nat.le_of_ble_eq_true rfl), (Nat.le_of_ble_eq_true rfl)⟩ (fun x_6 σ5 H locs h hw => ?_)
    obtain ⟨hA, hB⟩ := h
    refine lv_icmp_eq (tgt := 58) hx hb dX7_reply_53 (by decide) (fun c7 => ?_) (fun c7 => ?_)
    · have h := hA c7
      refine lv_aload_n hx hb dX7_reply_58 rfl (lv_at hl 0 rfl) ?_
      refine ck_get hx hb hts inX7 hown hw (hM 10 (by decide) (by decide)) rfl rfl 21 (by decide) (hts _ (List.mem_of_getElem? (i := 4) rfl)) rfl dX7_reply_59 ?_
      refine lv_iload_n hx hb dX7_reply_62 rfl (lv_at hl 1 rfl) ?_
      obtain ⟨n8, h⟩ := h
      refine ck_iald hx hb hw (hM 17 (by decide) (by decide)) rfl n8 dX7_reply_63 ?_
      refine lv_topi (fun x_9 ex_9 => ?_)
      have h := h x_9 ex_9
      refine lv_bipush (v := 8) hx hb dX7_reply_64 (by decide) ?_
      refine lv_irem hx hb dX7_reply_66 (by decide) ?_
      refine lv_topi (fun x_10 ex_10 => ?_)
      have h := h x_10 ex_10
      refine lv_istore (lv' := [(6, .int x_10), (0, .ref (ck_ad G 10 0)), (1, .int x1), (2, .long x2), (4, .long x4)]) hx hb dX7_reply_67 hl (by decide) rfl (fun ls hl => ?_)
      refine lv_iconst (v := 0) hx hb dX7_reply_69 (by decide) ?_
      refine lv_istore (lv' := [(7, .int 0), (6, .int x_10), (0, .ref (ck_ad G 10 0)), (1, .int x1), (2, .long x2), (4, .long x4)]) hx hb dX7_reply_70 hl (by decide) rfl (fun ls hl => ?_)
      obtain ⟨fu, h⟩ := h
      exact wk_X7_reply_72 X hM fu _ _ _ _ _ _ _ _ _ h hw (lv_sub hl [2, 3, 4, 5, 1, 0] rfl)
    · have h := hB c7
      refine lv_iconst (v := 0) hx hb dX7_reply_56 (by decide) ?_
      exact ck_zret X hw h dX7_reply_57
set_option maxHeartbeats 4000000 in
set_option maxRecDepth 100000 in
theorem wk_X7_reply_13 {p : Program} {l : Launch} {e : Env} {s : State} {m : MethodId} {args : Array Value} {below : List Frame} {meth : Method} {c : Code} {G : ck_G} (X : ck_X p s m meth c args cX7_reply 8 (some .boolean) RX7 wsX7_reply) (hM : ck_inM G) {post : Int32 → ck_S → Prop} {σ : ck_S} {x1 : Int32} {x2 : Int64} {x4 : Int64} {H : Heap} {locs : List Loc} {ls : Array Slot} (h : sp_X7_reply_13 (ck_nc G) (ck_nb G) post σ x1 x2 x4) (hw : ck_H G s H locs σ) (hl : lv_has ls 8 [(0, .ref (ck_ad G 10 0)), (1, .int x1), (2, .long x2), (4, .long x4)]) : W p l e ({ frames := 2, cells := 0, slots := 0, locals := 49 } : Room) s m args below meth c H locs 0 0 (MQ below (va_Qi post (ck_Q G) (ck_A G s.heap.size)) args s 0 0 (ck_A G s.heap.size)) (F0 m 13 ls [.ref (ck_ad G 10 0)]) := by
  obtain ⟨hx, hb, hr, hml, hown, hts, hlocks⟩ := id X
  have inX7 : ∀ w ∈ wsX70, w ∈ wsX7_reply := fun _ h => List.mem_cons_of_mem _ (List.mem_append_right _ (h))
  unfold sp_X7_reply_13 at h
  refine lv_iconst (v := 1) hx hb dX7_reply_13 (by decide) ?_
  refine lv_goto (tgt := 29) hx hb dX7_reply_14 (by decide) ?_
  exact wk_X7_reply_29 X hM h hw (lv_sub hl [0, 1, 2, 3] rfl)
set_option maxHeartbeats 4000000 in
set_option maxRecDepth 100000 in
theorem wk_X7_reply_0 {p : Program} {l : Launch} {e : Env} {s : State} {m : MethodId} {args : Array Value} {below : List Frame} {meth : Method} {c : Code} {G : ck_G} (X : ck_X p s m meth c args cX7_reply 8 (some .boolean) RX7 wsX7_reply) (hM : ck_inM G) {post : Int32 → ck_S → Prop} {σ : ck_S} {a0 : Int32} {a1 : Int64} {a2 : Int64} {H : Heap} {locs : List Loc} {ls : Array Slot} (h : sp_X7_reply (ck_nc G) (ck_nb G) σ a0 a1 a2 post) (hw : ck_H G s H locs σ) (hl : lv_has ls 8 [(0, .ref (ck_ad G 10 0)), (1, .int a0), (2, .long a1), (4, .long a2)]) : W p l e ({ frames := 2, cells := 0, slots := 0, locals := 49 } : Room) s m args below meth c H locs 0 0 (MQ below (va_Qi post (ck_Q G) (ck_A G s.heap.size)) args s 0 0 (ck_A G s.heap.size)) (F0 m 0 ls []) := by
  obtain ⟨hx, hb, hr, hml, hown, hts, hlocks⟩ := id X
  have inX7 : ∀ w ∈ wsX70, w ∈ wsX7_reply := fun _ h => List.mem_cons_of_mem _ (List.mem_append_right _ (h))
  unfold sp_X7_reply at h
  refine lv_aload_n hx hb dX7_reply_0 rfl (lv_at hl 0 rfl) ?_
  refine lv_iload_n hx hb dX7_reply_1 rfl (lv_at hl 1 rfl) ?_
  obtain ⟨hA, hB⟩ := h
  refine lv_if_lt (tgt := 13) hx hb dX7_reply_2 (by decide) (fun c1 => ?_) (fun c1 => ?_)
  · have h := hA c1
    exact wk_X7_reply_13 X hM h hw (lv_sub hl [0, 1, 2, 3] rfl)
  · have h := hB c1
    refine lv_iload_n hx hb dX7_reply_5 rfl (lv_at hl 1 rfl) ?_
    refine lv_aload_n hx hb dX7_reply_6 rfl (lv_at hl 0 rfl) ?_
    refine ck_get hx hb hts inX7 hown hw (hM 10 (by decide) (by decide)) rfl rfl 1 (by decide) (hts _ (List.mem_of_getElem? (i := 1) rfl)) rfl dX7_reply_7 ?_
    obtain ⟨hA, hB⟩ := h
    refine lv_icmp_lt (tgt := 17) hx hb dX7_reply_10 (by decide) (fun c2 => ?_) (fun c2 => ?_)
    · have h := hA c2
      refine lv_aload_n hx hb dX7_reply_17 rfl (lv_at hl 0 rfl) ?_
      refine ck_get hx hb hts inX7 hown hw (hM 10 (by decide) (by decide)) rfl rfl 9 (by decide) (hts _ (List.mem_of_getElem? (i := 2) rfl)) rfl dX7_reply_18 ?_
      obtain ⟨hA, hB⟩ := h
      refine lv_if_eq (tgt := 28) hx hb dX7_reply_21 (by decide) (fun c3 => ?_) (fun c3 => ?_)
      · have h := hA c3
        refine lv_iconst (v := 0) hx hb dX7_reply_28 (by decide) ?_
        exact wk_X7_reply_29 X hM h hw (lv_sub hl [0, 1, 2, 3] rfl)
      · have h := hB c3
        refine lv_iconst (v := 2) hx hb dX7_reply_24 (by decide) ?_
        refine lv_goto (tgt := 29) hx hb dX7_reply_25 (by decide) ?_
        exact wk_X7_reply_29 X hM h hw (lv_sub hl [0, 1, 2, 3] rfl)
    · have h := hB c2
      exact wk_X7_reply_13 X hM h hw (lv_sub hl [0, 1, 2, 3] rfl)
set_option maxHeartbeats 4000000 in
set_option maxRecDepth 100000 in
theorem ct_X7_reply (l : Launch) (G : ck_G) (hM : ck_inM G) {a0 : Int32} {a1 : Int64} {a2 : Int64} {σ : ck_S} {post : Int32 → ck_S → Prop} (h : sp_X7_reply (ck_nc G) (ck_nb G) σ a0 a1 a2 post) : ck_Mi l yX7_reply wsX7_reply ({ frames := 2, cells := 0, slots := 0, locals := 49 } : Room) G σ [.ref (ck_ad G 10 0), .int a0, .long a1, .long a2] post := by
  intro sz
  refine Met.ofW (cc := cX7_reply) (maxL := 8) (ret := (some .boolean)) (by decide) rfl ?_
  intro p e s m args below meth c s₁ B hml hv
  obtain ⟨rfl, rfl, hw⟩ := ck_enter hv
  have hl := lv_entry ([.ref (ck_ad G 10 0), .int a0, .long a1, .long a2]) (n := 8) (Nat.le_of_ble_eq_true rfl)
  rw [lg_entry_eq]
  generalize (lg_sl ([.ref (ck_ad G 10 0), .int a0, .long a1, .long a2]) ++ List.replicate (8 - (lg_sl ([.ref (ck_ad G 10 0), .int a0, .long a1, .long a2])).length) Slot.unset).toArray = ls at hl ⊢
  have hl : lv_has ls 8 [(0, .ref (ck_ad G 10 0)), (1, .int a0), (2, .long a1), (4, .long a2)] := hl
  exact wk_X7_reply_0 ⟨B.exec, B.bytes, B.returns, hml, findClass_of_methodNamed B.named, atoms_spec (ws := wsX7_reply) B.pre, B.notSynchronized⟩ hM h hw hl
def sp_X7_current_33 (nc nb : Nat) (post : ck_S → Prop) (σ : ck_S) (x1 : UInt64) (s0 : Int32) : Prop := ∀ σ1, σ1 = ck_ui σ 10 0 0 s0 → (((ck_gi σ1 10 0 0) ≤ 0 → ((vf_n64 (FP.dmul x1 4620693217682128896)) ∧ ∀ σ4, σ4 = ck_uj σ1 10 0 13 (FP.d2l (FP.dmul x1 4620693217682128896)) → post σ4)) ∧ (¬ (ck_gi σ1 10 0 0) ≤ 0 → (∀ σ5, σ5 = ck_uj σ1 10 0 13 (ck_gj σ1 10 0 13) → post σ5)))
def sp_X7_current_17 (nc nb : Nat) (post : ck_S → Prop) (σ : ck_S) (x1 : UInt64) : Prop := sp_X7_current_33 nc nb post σ x1 1
def sp_X7_current (nc nb : Nat) (σ : ck_S) (a0 : UInt64) (post : ck_S → Prop) : Prop := (((Op.cmpValue (FP.dcmp a0 13879882945323335680) .l) < 0 → (sp_X7_current_17 nc nb post σ a0)) ∧ (¬ (Op.cmpValue (FP.dcmp a0 13879882945323335680) .l) < 0 → ((((Op.cmpValue (FP.dcmp a0 4656510908468559872) .g) ≤ 0 → ((((ck_gi σ 10 0 9) = 0 → (sp_X7_current_33 nc nb post σ a0 0)) ∧ (¬ (ck_gi σ 10 0 9) = 0 → (sp_X7_current_33 nc nb post σ a0 2))))) ∧ (¬ (Op.cmpValue (FP.dcmp a0 4656510908468559872) .g) ≤ 0 → (sp_X7_current_17 nc nb post σ a0))))))
set_option maxHeartbeats 4000000 in
set_option maxRecDepth 100000 in
theorem wk_X7_current_33 {p : Program} {l : Launch} {e : Env} {s : State} {m : MethodId} {args : Array Value} {below : List Frame} {meth : Method} {c : Code} {G : ck_G} (X : ck_X p s m meth c args cX7_current 3 none RX7 wsX7_current) (hM : ck_inM G) {post : ck_S → Prop} {σ : ck_S} {x1 : UInt64} {s0 : Int32} {H : Heap} {locs : List Loc} {ls : Array Slot} (h : sp_X7_current_33 (ck_nc G) (ck_nb G) post σ x1 s0) (hw : ck_H G s H locs σ) (hl : lv_has ls 3 [(0, .ref (ck_ad G 10 0)), (1, .double x1)]) : W p l e ({ frames := 0, cells := 0, slots := 0, locals := 0 } : Room) s m args below meth c H locs 0 0 (MQ below (va_Qv post (ck_Q G) (ck_A G s.heap.size)) args s 0 0 (ck_A G s.heap.size)) (F0 m 33 ls [.int s0, .ref (ck_ad G 10 0)]) := by
  obtain ⟨hx, hb, hr, hml, hown, hts, hlocks⟩ := id X
  have inX7 : ∀ w ∈ wsX70, w ∈ wsX7_current := fun _ h => List.mem_cons_of_mem _ (List.mem_append_right _ (h))
  unfold sp_X7_current_33 at h
  refine ck_puti hx hb hts inX7 tyX7 tyX7_ok nmX7 hown hw (hM 10 (by decide) (by decide)) rfl rfl 0 (by decide) (hts _ (List.mem_of_getElem? (i := 4) rfl)) rfl rfl rfl (Nat.le_of_ble_eq_true rfl) rfl dX7_current_33 (fun H locs hw => ?_)
  obtain ⟨σ1, eσ1⟩ : ∃ z : ck_S, z = ck_ui σ 10 0 0 s0 := ⟨_, rfl⟩
  rw [← eσ1] at hw
  have h := h σ1 eσ1
  refine lv_aload_n hx hb dX7_current_36 rfl (lv_at hl 0 rfl) ?_
  refine lv_aload_n hx hb dX7_current_37 rfl (lv_at hl 0 rfl) ?_
  refine ck_get hx hb hts inX7 hown hw (hM 10 (by decide) (by decide)) rfl rfl 0 (by decide) (hts _ (List.mem_of_getElem? (i := 4) rfl)) rfl dX7_current_38 ?_
  obtain ⟨hA, hB⟩ := h
  refine lv_if_le (tgt := 51) hx hb dX7_current_41 (by decide) (fun c2 => ?_) (fun c2 => ?_)
  · have h := hA c2
    refine lv_dload_n hx hb dX7_current_51 rfl (lv_at hl 1 rfl) ?_
    refine lv_ldc2d hx hb hown (hts _ (List.mem_of_getElem? (i := 6) rfl)) dX7_current_52 ?_
    obtain ⟨n3, h⟩ := h
    refine lv_dmul hx hb dX7_current_55 n3 ?_
    refine lv_d2l hx hb dX7_current_56 ?_
    refine ck_putj hx hb hts inX7 tyX7 tyX7_ok nmX7 hown hw (hM 10 (by decide) (by decide)) rfl rfl 13 (by decide) (hts _ (List.mem_of_getElem? (i := 5) rfl)) rfl rfl rfl (Nat.le_of_ble_eq_true rfl) rfl dX7_current_57 (fun H locs hw => ?_)
    obtain ⟨σ4, eσ4⟩ : ∃ z : ck_S, z = ck_uj σ1 10 0 13 (FP.d2l (FP.dmul x1 4620693217682128896)) := ⟨_, rfl⟩
    rw [← eσ4] at hw
    have h := h σ4 eσ4
    exact ck_vret X hw h dX7_current_60
  · have h := hB c2
    refine lv_aload_n hx hb dX7_current_44 rfl (lv_at hl 0 rfl) ?_
    refine ck_get hx hb hts inX7 hown hw (hM 10 (by decide) (by decide)) rfl rfl 13 (by decide) (hts _ (List.mem_of_getElem? (i := 5) rfl)) rfl dX7_current_45 ?_
    refine lv_goto (tgt := 57) hx hb dX7_current_48 (by decide) ?_
    refine ck_putj hx hb hts inX7 tyX7 tyX7_ok nmX7 hown hw (hM 10 (by decide) (by decide)) rfl rfl 13 (by decide) (hts _ (List.mem_of_getElem? (i := 5) rfl)) rfl rfl rfl (Nat.le_of_ble_eq_true rfl) rfl dX7_current_57 (fun H locs hw => ?_)
    obtain ⟨σ5, eσ5⟩ : ∃ z : ck_S, z = ck_uj σ1 10 0 13 (ck_gj σ1 10 0 13) := ⟨_, rfl⟩
    rw [← eσ5] at hw
    have h := h σ5 eσ5
    exact ck_vret X hw h dX7_current_60
set_option maxHeartbeats 4000000 in
set_option maxRecDepth 100000 in
theorem wk_X7_current_17 {p : Program} {l : Launch} {e : Env} {s : State} {m : MethodId} {args : Array Value} {below : List Frame} {meth : Method} {c : Code} {G : ck_G} (X : ck_X p s m meth c args cX7_current 3 none RX7 wsX7_current) (hM : ck_inM G) {post : ck_S → Prop} {σ : ck_S} {x1 : UInt64} {H : Heap} {locs : List Loc} {ls : Array Slot} (h : sp_X7_current_17 (ck_nc G) (ck_nb G) post σ x1) (hw : ck_H G s H locs σ) (hl : lv_has ls 3 [(0, .ref (ck_ad G 10 0)), (1, .double x1)]) : W p l e ({ frames := 0, cells := 0, slots := 0, locals := 0 } : Room) s m args below meth c H locs 0 0 (MQ below (va_Qv post (ck_Q G) (ck_A G s.heap.size)) args s 0 0 (ck_A G s.heap.size)) (F0 m 17 ls [.ref (ck_ad G 10 0)]) := by
  obtain ⟨hx, hb, hr, hml, hown, hts, hlocks⟩ := id X
  have inX7 : ∀ w ∈ wsX70, w ∈ wsX7_current := fun _ h => List.mem_cons_of_mem _ (List.mem_append_right _ (h))
  unfold sp_X7_current_17 at h
  refine lv_iconst (v := 1) hx hb dX7_current_17 (by decide) ?_
  refine lv_goto (tgt := 33) hx hb dX7_current_18 (by decide) ?_
  exact wk_X7_current_33 X hM h hw (lv_sub hl [0, 1] rfl)
set_option maxHeartbeats 4000000 in
set_option maxRecDepth 100000 in
theorem wk_X7_current_0 {p : Program} {l : Launch} {e : Env} {s : State} {m : MethodId} {args : Array Value} {below : List Frame} {meth : Method} {c : Code} {G : ck_G} (X : ck_X p s m meth c args cX7_current 3 none RX7 wsX7_current) (hM : ck_inM G) {post : ck_S → Prop} {σ : ck_S} {a0 : UInt64} {H : Heap} {locs : List Loc} {ls : Array Slot} (h : sp_X7_current (ck_nc G) (ck_nb G) σ a0 post) (hw : ck_H G s H locs σ) (hl : lv_has ls 3 [(0, .ref (ck_ad G 10 0)), (1, .double a0)]) : W p l e ({ frames := 0, cells := 0, slots := 0, locals := 0 } : Room) s m args below meth c H locs 0 0 (MQ below (va_Qv post (ck_Q G) (ck_A G s.heap.size)) args s 0 0 (ck_A G s.heap.size)) (F0 m 0 ls []) := by
  obtain ⟨hx, hb, hr, hml, hown, hts, hlocks⟩ := id X
  have inX7 : ∀ w ∈ wsX70, w ∈ wsX7_current := fun _ h => List.mem_cons_of_mem _ (List.mem_append_right _ (h))
  unfold sp_X7_current at h
  refine lv_aload_n hx hb dX7_current_0 rfl (lv_at hl 0 rfl) ?_
  refine lv_dload_n hx hb dX7_current_1 rfl (lv_at hl 1 rfl) ?_
  refine lv_ldc2d hx hb hown (hts _ (List.mem_of_getElem? (i := 1) rfl)) dX7_current_2 ?_
  refine lv_dcmp hx hb dX7_current_5 ?_
  obtain ⟨hA, hB⟩ := h
  refine lv_if_lt (tgt := 17) hx hb dX7_current_6 (by decide) (fun c1 => ?_) (fun c1 => ?_)
  · have h := hA c1
    exact wk_X7_current_17 X hM h hw (lv_sub hl [0, 1] rfl)
  · have h := hB c1
    refine lv_dload_n hx hb dX7_current_9 rfl (lv_at hl 1 rfl) ?_
    refine lv_ldc2d hx hb hown (hts _ (List.mem_of_getElem? (i := 2) rfl)) dX7_current_10 ?_
    refine lv_dcmp hx hb dX7_current_13 ?_
    obtain ⟨hA, hB⟩ := h
    refine lv_if_le (tgt := 21) hx hb dX7_current_14 (by decide) (fun c2 => ?_) (fun c2 => ?_)
    · have h := hA c2
      refine lv_aload_n hx hb dX7_current_21 rfl (lv_at hl 0 rfl) ?_
      refine ck_get hx hb hts inX7 hown hw (hM 10 (by decide) (by decide)) rfl rfl 9 (by decide) (hts _ (List.mem_of_getElem? (i := 3) rfl)) rfl dX7_current_22 ?_
      obtain ⟨hA, hB⟩ := h
      refine lv_if_eq (tgt := 32) hx hb dX7_current_25 (by decide) (fun c3 => ?_) (fun c3 => ?_)
      · have h := hA c3
        refine lv_iconst (v := 0) hx hb dX7_current_32 (by decide) ?_
        exact wk_X7_current_33 X hM h hw (lv_sub hl [0, 1] rfl)
      · have h := hB c3
        refine lv_iconst (v := 2) hx hb dX7_current_28 (by decide) ?_
        refine lv_goto (tgt := 33) hx hb dX7_current_29 (by decide) ?_
        exact wk_X7_current_33 X hM h hw (lv_sub hl [0, 1] rfl)
    · have h := hB c2
      exact wk_X7_current_17 X hM h hw (lv_sub hl [0, 1] rfl)
set_option maxHeartbeats 4000000 in
set_option maxRecDepth 100000 in
theorem ct_X7_current (l : Launch) (G : ck_G) (hM : ck_inM G) {a0 : UInt64} {σ : ck_S} {post : ck_S → Prop} (h : sp_X7_current (ck_nc G) (ck_nb G) σ a0 post) : ck_Mv l yX7_current wsX7_current ({ frames := 0, cells := 0, slots := 0, locals := 0 } : Room) G σ [.ref (ck_ad G 10 0), .double a0] post := by
  intro sz
  refine Met.ofW (cc := cX7_current) (maxL := 3) (ret := none) (by decide) rfl ?_
  intro p e s m args below meth c s₁ B hml hv
  obtain ⟨rfl, rfl, hw⟩ := ck_enter hv
  have hl := lv_entry ([.ref (ck_ad G 10 0), .double a0]) (n := 3) (Nat.le_of_ble_eq_true rfl)
  rw [lg_entry_eq]
  generalize (lg_sl ([.ref (ck_ad G 10 0), .double a0]) ++ List.replicate (3 - (lg_sl ([.ref (ck_ad G 10 0), .double a0])).length) Slot.unset).toArray = ls at hl ⊢
  have hl : lv_has ls 3 [(0, .ref (ck_ad G 10 0)), (1, .double a0)] := hl
  exact wk_X7_current_0 ⟨B.exec, B.bytes, B.returns, hml, findClass_of_methodNamed B.named, atoms_spec (ws := wsX7_current) B.pre, B.notSynchronized⟩ hM h hw hl
def sp_X7_warm_49 (nc nb : Nat) (post : ck_S → Prop) (σ : ck_S) (x1 : Int32) (x2 : UInt64) (s0 : Int32) : Prop := ∀ σ1, σ1 = ck_ui σ 10 0 0 s0 → ((¬ (ck_gi σ1 10 0 0) = 0 → (post σ1)) ∧ ((ck_gi σ1 10 0 0) = 0 → ((vf_n64 (FP.dmul x2 4620693217682128896)) ∧ (vp_in x1 4) ∧ ∀ σ5, σ5 = ck_uj σ1 13 0 (Int32.toNatClampNeg x1) (FP.d2l (FP.dmul x2 4620693217682128896)) → post σ5)))
def sp_X7_warm_13 (nc nb : Nat) (post : ck_S → Prop) (σ : ck_S) (x1 : Int32) (x2 : UInt64) : Prop := sp_X7_warm_49 nc nb post σ x1 x2 1
def sp_X7_warm_33 (nc nb : Nat) (post : ck_S → Prop) (σ : ck_S) (x1 : Int32) (x2 : UInt64) : Prop := sp_X7_warm_49 nc nb post σ x1 x2 2
def sp_X7_warm (nc nb : Nat) (σ : ck_S) (a0 : Int32) (a1 : UInt64) (post : ck_S → Prop) : Prop := ((a0 < 0 → (sp_X7_warm_13 nc nb post σ a0 a1)) ∧ (¬ a0 < 0 → (((a0 < (ck_gi σ 10 0 1) → ((((Op.cmpValue (FP.dcmp a1 13860109328209412096) .l) < 0 → (sp_X7_warm_33 nc nb post σ a0 a1)) ∧ (¬ (Op.cmpValue (FP.dcmp a1 13860109328209412096) .l) < 0 → ((((Op.cmpValue (FP.dcmp a1 4641240890982006784) .g) ≤ 0 → ((((ck_gi σ 10 0 9) = 0 → (sp_X7_warm_49 nc nb post σ a0 a1 0)) ∧ (¬ (ck_gi σ 10 0 9) = 0 → (sp_X7_warm_49 nc nb post σ a0 a1 3))))) ∧ (¬ (Op.cmpValue (FP.dcmp a1 4641240890982006784) .g) ≤ 0 → (sp_X7_warm_33 nc nb post σ a0 a1)))))))) ∧ (¬ a0 < (ck_gi σ 10 0 1) → (sp_X7_warm_13 nc nb post σ a0 a1))))))
set_option maxHeartbeats 4000000 in
set_option maxRecDepth 100000 in
theorem wk_X7_warm_49 {p : Program} {l : Launch} {e : Env} {s : State} {m : MethodId} {args : Array Value} {below : List Frame} {meth : Method} {c : Code} {G : ck_G} (X : ck_X p s m meth c args cX7_warm 4 none RX7 wsX7_warm) (hM : ck_inM G) {post : ck_S → Prop} {σ : ck_S} {x1 : Int32} {x2 : UInt64} {s0 : Int32} {H : Heap} {locs : List Loc} {ls : Array Slot} (h : sp_X7_warm_49 (ck_nc G) (ck_nb G) post σ x1 x2 s0) (hw : ck_H G s H locs σ) (hl : lv_has ls 4 [(0, .ref (ck_ad G 10 0)), (1, .int x1), (2, .double x2)]) : W p l e ({ frames := 0, cells := 0, slots := 0, locals := 0 } : Room) s m args below meth c H locs 0 0 (MQ below (va_Qv post (ck_Q G) (ck_A G s.heap.size)) args s 0 0 (ck_A G s.heap.size)) (F0 m 49 ls [.int s0, .ref (ck_ad G 10 0)]) := by
  obtain ⟨hx, hb, hr, hml, hown, hts, hlocks⟩ := id X
  have inX7 : ∀ w ∈ wsX70, w ∈ wsX7_warm := fun _ h => List.mem_cons_of_mem _ (List.mem_append_right _ (h))
  unfold sp_X7_warm_49 at h
  refine ck_puti hx hb hts inX7 tyX7 tyX7_ok nmX7 hown hw (hM 10 (by decide) (by decide)) rfl rfl 0 (by decide) (hts _ (List.mem_of_getElem? (i := 5) rfl)) rfl rfl rfl (Nat.le_of_ble_eq_true rfl) rfl dX7_warm_49 (fun H locs hw => ?_)
  obtain ⟨σ1, eσ1⟩ : ∃ z : ck_S, z = ck_ui σ 10 0 0 s0 := ⟨_, rfl⟩
  rw [← eσ1] at hw
  have h := h σ1 eσ1
  refine lv_aload_n hx hb dX7_warm_52 rfl (lv_at hl 0 rfl) ?_
  refine ck_get hx hb hts inX7 hown hw (hM 10 (by decide) (by decide)) rfl rfl 0 (by decide) (hts _ (List.mem_of_getElem? (i := 5) rfl)) rfl dX7_warm_53 ?_
  obtain ⟨hA, hB⟩ := h
  refine lv_if_ne (tgt := 71) hx hb dX7_warm_56 (by decide) (fun c2 => ?_) (fun c2 => ?_)
  · have h := hA c2
    exact ck_vret X hw h dX7_warm_71
  · have h := hB c2
    refine lv_aload_n hx hb dX7_warm_59 rfl (lv_at hl 0 rfl) ?_
    refine ck_get hx hb hts inX7 hown hw (hM 10 (by decide) (by decide)) rfl rfl 14 (by decide) (hts _ (List.mem_of_getElem? (i := 6) rfl)) rfl dX7_warm_60 ?_
    refine lv_iload_n hx hb dX7_warm_63 rfl (lv_at hl 1 rfl) ?_
    refine lv_dload_n hx hb dX7_warm_64 rfl (lv_at hl 2 rfl) ?_
    refine lv_ldc2d hx hb hown (hts _ (List.mem_of_getElem? (i := 7) rfl)) dX7_warm_65 ?_
    obtain ⟨n3, h⟩ := h
    refine lv_dmul hx hb dX7_warm_68 n3 ?_
    refine lv_d2l hx hb dX7_warm_69 ?_
    obtain ⟨n4, h⟩ := h
    refine ck_last hx hb hw (hM 13 (by decide) (by decide)) (fun _ => rfl) n4 dX7_warm_70 (fun H locs hw => ?_)
    obtain ⟨σ5, eσ5⟩ : ∃ z : ck_S, z = ck_uj σ1 13 0 (Int32.toNatClampNeg x1) (FP.d2l (FP.dmul x2 4620693217682128896)) := ⟨_, rfl⟩
    rw [← eσ5] at hw
    have h := h σ5 eσ5
    exact ck_vret X hw h dX7_warm_71
set_option maxHeartbeats 4000000 in
set_option maxRecDepth 100000 in
theorem wk_X7_warm_13 {p : Program} {l : Launch} {e : Env} {s : State} {m : MethodId} {args : Array Value} {below : List Frame} {meth : Method} {c : Code} {G : ck_G} (X : ck_X p s m meth c args cX7_warm 4 none RX7 wsX7_warm) (hM : ck_inM G) {post : ck_S → Prop} {σ : ck_S} {x1 : Int32} {x2 : UInt64} {H : Heap} {locs : List Loc} {ls : Array Slot} (h : sp_X7_warm_13 (ck_nc G) (ck_nb G) post σ x1 x2) (hw : ck_H G s H locs σ) (hl : lv_has ls 4 [(0, .ref (ck_ad G 10 0)), (1, .int x1), (2, .double x2)]) : W p l e ({ frames := 0, cells := 0, slots := 0, locals := 0 } : Room) s m args below meth c H locs 0 0 (MQ below (va_Qv post (ck_Q G) (ck_A G s.heap.size)) args s 0 0 (ck_A G s.heap.size)) (F0 m 13 ls [.ref (ck_ad G 10 0)]) := by
  obtain ⟨hx, hb, hr, hml, hown, hts, hlocks⟩ := id X
  have inX7 : ∀ w ∈ wsX70, w ∈ wsX7_warm := fun _ h => List.mem_cons_of_mem _ (List.mem_append_right _ (h))
  unfold sp_X7_warm_13 at h
  refine lv_iconst (v := 1) hx hb dX7_warm_13 (by decide) ?_
  refine lv_goto (tgt := 49) hx hb dX7_warm_14 (by decide) ?_
  exact wk_X7_warm_49 X hM h hw (lv_sub hl [0, 1, 2] rfl)
set_option maxHeartbeats 4000000 in
set_option maxRecDepth 100000 in
theorem wk_X7_warm_33 {p : Program} {l : Launch} {e : Env} {s : State} {m : MethodId} {args : Array Value} {below : List Frame} {meth : Method} {c : Code} {G : ck_G} (X : ck_X p s m meth c args cX7_warm 4 none RX7 wsX7_warm) (hM : ck_inM G) {post : ck_S → Prop} {σ : ck_S} {x1 : Int32} {x2 : UInt64} {H : Heap} {locs : List Loc} {ls : Array Slot} (h : sp_X7_warm_33 (ck_nc G) (ck_nb G) post σ x1 x2) (hw : ck_H G s H locs σ) (hl : lv_has ls 4 [(0, .ref (ck_ad G 10 0)), (1, .int x1), (2, .double x2)]) : W p l e ({ frames := 0, cells := 0, slots := 0, locals := 0 } : Room) s m args below meth c H locs 0 0 (MQ below (va_Qv post (ck_Q G) (ck_A G s.heap.size)) args s 0 0 (ck_A G s.heap.size)) (F0 m 33 ls [.ref (ck_ad G 10 0)]) := by
  obtain ⟨hx, hb, hr, hml, hown, hts, hlocks⟩ := id X
  have inX7 : ∀ w ∈ wsX70, w ∈ wsX7_warm := fun _ h => List.mem_cons_of_mem _ (List.mem_append_right _ (h))
  unfold sp_X7_warm_33 at h
  refine lv_iconst (v := 2) hx hb dX7_warm_33 (by decide) ?_
  refine lv_goto (tgt := 49) hx hb dX7_warm_34 (by decide) ?_
  exact wk_X7_warm_49 X hM h hw (lv_sub hl [0, 1, 2] rfl)
set_option maxHeartbeats 4000000 in
set_option maxRecDepth 100000 in
theorem wk_X7_warm_0 {p : Program} {l : Launch} {e : Env} {s : State} {m : MethodId} {args : Array Value} {below : List Frame} {meth : Method} {c : Code} {G : ck_G} (X : ck_X p s m meth c args cX7_warm 4 none RX7 wsX7_warm) (hM : ck_inM G) {post : ck_S → Prop} {σ : ck_S} {a0 : Int32} {a1 : UInt64} {H : Heap} {locs : List Loc} {ls : Array Slot} (h : sp_X7_warm (ck_nc G) (ck_nb G) σ a0 a1 post) (hw : ck_H G s H locs σ) (hl : lv_has ls 4 [(0, .ref (ck_ad G 10 0)), (1, .int a0), (2, .double a1)]) : W p l e ({ frames := 0, cells := 0, slots := 0, locals := 0 } : Room) s m args below meth c H locs 0 0 (MQ below (va_Qv post (ck_Q G) (ck_A G s.heap.size)) args s 0 0 (ck_A G s.heap.size)) (F0 m 0 ls []) := by
  obtain ⟨hx, hb, hr, hml, hown, hts, hlocks⟩ := id X
  have inX7 : ∀ w ∈ wsX70, w ∈ wsX7_warm := fun _ h => List.mem_cons_of_mem _ (List.mem_append_right _ (h))
  unfold sp_X7_warm at h
  refine lv_aload_n hx hb dX7_warm_0 rfl (lv_at hl 0 rfl) ?_
  refine lv_iload_n hx hb dX7_warm_1 rfl (lv_at hl 1 rfl) ?_
  obtain ⟨hA, hB⟩ := h
  refine lv_if_lt (tgt := 13) hx hb dX7_warm_2 (by decide) (fun c1 => ?_) (fun c1 => ?_)
  · have h := hA c1
    exact wk_X7_warm_13 X hM h hw (lv_sub hl [0, 1, 2] rfl)
  · have h := hB c1
    refine lv_iload_n hx hb dX7_warm_5 rfl (lv_at hl 1 rfl) ?_
    refine lv_aload_n hx hb dX7_warm_6 rfl (lv_at hl 0 rfl) ?_
    refine ck_get hx hb hts inX7 hown hw (hM 10 (by decide) (by decide)) rfl rfl 1 (by decide) (hts _ (List.mem_of_getElem? (i := 1) rfl)) rfl dX7_warm_7 ?_
    obtain ⟨hA, hB⟩ := h
    refine lv_icmp_lt (tgt := 17) hx hb dX7_warm_10 (by decide) (fun c2 => ?_) (fun c2 => ?_)
    · have h := hA c2
      refine lv_dload_n hx hb dX7_warm_17 rfl (lv_at hl 2 rfl) ?_
      refine lv_ldc2d hx hb hown (hts _ (List.mem_of_getElem? (i := 2) rfl)) dX7_warm_18 ?_
      refine lv_dcmp hx hb dX7_warm_21 ?_
      obtain ⟨hA, hB⟩ := h
      refine lv_if_lt (tgt := 33) hx hb dX7_warm_22 (by decide) (fun c3 => ?_) (fun c3 => ?_)
      · have h := hA c3
        exact wk_X7_warm_33 X hM h hw (lv_sub hl [0, 1, 2] rfl)
      · have h := hB c3
        refine lv_dload_n hx hb dX7_warm_25 rfl (lv_at hl 2 rfl) ?_
        refine lv_ldc2d hx hb hown (hts _ (List.mem_of_getElem? (i := 3) rfl)) dX7_warm_26 ?_
        refine lv_dcmp hx hb dX7_warm_29 ?_
        obtain ⟨hA, hB⟩ := h
        refine lv_if_le (tgt := 37) hx hb dX7_warm_30 (by decide) (fun c4 => ?_) (fun c4 => ?_)
        · have h := hA c4
          refine lv_aload_n hx hb dX7_warm_37 rfl (lv_at hl 0 rfl) ?_
          refine ck_get hx hb hts inX7 hown hw (hM 10 (by decide) (by decide)) rfl rfl 9 (by decide) (hts _ (List.mem_of_getElem? (i := 4) rfl)) rfl dX7_warm_38 ?_
          obtain ⟨hA, hB⟩ := h
          refine lv_if_eq (tgt := 48) hx hb dX7_warm_41 (by decide) (fun c5 => ?_) (fun c5 => ?_)
          · have h := hA c5
            refine lv_iconst (v := 0) hx hb dX7_warm_48 (by decide) ?_
            exact wk_X7_warm_49 X hM h hw (lv_sub hl [0, 1, 2] rfl)
          · have h := hB c5
            refine lv_iconst (v := 3) hx hb dX7_warm_44 (by decide) ?_
            refine lv_goto (tgt := 49) hx hb dX7_warm_45 (by decide) ?_
            exact wk_X7_warm_49 X hM h hw (lv_sub hl [0, 1, 2] rfl)
        · have h := hB c4
          exact wk_X7_warm_33 X hM h hw (lv_sub hl [0, 1, 2] rfl)
    · have h := hB c2
      exact wk_X7_warm_13 X hM h hw (lv_sub hl [0, 1, 2] rfl)
set_option maxHeartbeats 4000000 in
set_option maxRecDepth 100000 in
theorem ct_X7_warm (l : Launch) (G : ck_G) (hM : ck_inM G) {a0 : Int32} {a1 : UInt64} {σ : ck_S} {post : ck_S → Prop} (h : sp_X7_warm (ck_nc G) (ck_nb G) σ a0 a1 post) : ck_Mv l yX7_warm wsX7_warm ({ frames := 0, cells := 0, slots := 0, locals := 0 } : Room) G σ [.ref (ck_ad G 10 0), .int a0, .double a1] post := by
  intro sz
  refine Met.ofW (cc := cX7_warm) (maxL := 4) (ret := none) (by decide) rfl ?_
  intro p e s m args below meth c s₁ B hml hv
  obtain ⟨rfl, rfl, hw⟩ := ck_enter hv
  have hl := lv_entry ([.ref (ck_ad G 10 0), .int a0, .double a1]) (n := 4) (Nat.le_of_ble_eq_true rfl)
  rw [lg_entry_eq]
  generalize (lg_sl ([.ref (ck_ad G 10 0), .int a0, .double a1]) ++ List.replicate (4 - (lg_sl ([.ref (ck_ad G 10 0), .int a0, .double a1])).length) Slot.unset).toArray = ls at hl ⊢
  have hl : lv_has ls 4 [(0, .ref (ck_ad G 10 0)), (1, .int a0), (2, .double a1)] := hl
  exact wk_X7_warm_0 ⟨B.exec, B.bytes, B.returns, hml, findClass_of_methodNamed B.named, atoms_spec (ws := wsX7_warm) B.pre, B.notSynchronized⟩ hM h hw hl
def sp_X7_bus_27 (nc nb : Nat) (post : ck_S → Prop) (σ : ck_S) (x1 : Int32) (s0 : Int32) : Prop := ∀ σ1, σ1 = ck_ui σ 10 0 0 s0 → (((ck_gi σ1 10 0 0) ≤ 0 → (∀ σ3, σ3 = ck_ui σ1 10 0 15 x1 → post σ3)) ∧ (¬ (ck_gi σ1 10 0 0) ≤ 0 → (∀ σ4, σ4 = ck_ui σ1 10 0 15 (ck_gi σ1 10 0 15) → post σ4)))
def sp_X7_bus_11 (nc nb : Nat) (post : ck_S → Prop) (σ : ck_S) (x1 : Int32) : Prop := sp_X7_bus_27 nc nb post σ x1 1
def sp_X7_bus (nc nb : Nat) (σ : ck_S) (a0 : Int32) (post : ck_S → Prop) : Prop := ((a0 < 0 → (sp_X7_bus_11 nc nb post σ a0)) ∧ (¬ a0 < 0 → (((a0 ≤ 1000000 → ((((ck_gi σ 10 0 9) = 0 → (sp_X7_bus_27 nc nb post σ a0 0)) ∧ (¬ (ck_gi σ 10 0 9) = 0 → (sp_X7_bus_27 nc nb post σ a0 2))))) ∧ (¬ a0 ≤ 1000000 → (sp_X7_bus_11 nc nb post σ a0))))))
set_option maxHeartbeats 4000000 in
set_option maxRecDepth 100000 in
theorem wk_X7_bus_27 {p : Program} {l : Launch} {e : Env} {s : State} {m : MethodId} {args : Array Value} {below : List Frame} {meth : Method} {c : Code} {G : ck_G} (X : ck_X p s m meth c args cX7_bus 2 none RX7 wsX7_bus) (hM : ck_inM G) {post : ck_S → Prop} {σ : ck_S} {x1 : Int32} {s0 : Int32} {H : Heap} {locs : List Loc} {ls : Array Slot} (h : sp_X7_bus_27 (ck_nc G) (ck_nb G) post σ x1 s0) (hw : ck_H G s H locs σ) (hl : lv_has ls 2 [(0, .ref (ck_ad G 10 0)), (1, .int x1)]) : W p l e ({ frames := 0, cells := 0, slots := 0, locals := 0 } : Room) s m args below meth c H locs 0 0 (MQ below (va_Qv post (ck_Q G) (ck_A G s.heap.size)) args s 0 0 (ck_A G s.heap.size)) (F0 m 27 ls [.int s0, .ref (ck_ad G 10 0)]) := by
  obtain ⟨hx, hb, hr, hml, hown, hts, hlocks⟩ := id X
  have inX7 : ∀ w ∈ wsX70, w ∈ wsX7_bus := fun _ h => List.mem_cons_of_mem _ (List.mem_append_right _ (h))
  unfold sp_X7_bus_27 at h
  refine ck_puti hx hb hts inX7 tyX7 tyX7_ok nmX7 hown hw (hM 10 (by decide) (by decide)) rfl rfl 0 (by decide) (hts _ (List.mem_of_getElem? (i := 3) rfl)) rfl rfl rfl (Nat.le_of_ble_eq_true rfl) rfl dX7_bus_27 (fun H locs hw => ?_)
  obtain ⟨σ1, eσ1⟩ : ∃ z : ck_S, z = ck_ui σ 10 0 0 s0 := ⟨_, rfl⟩
  rw [← eσ1] at hw
  have h := h σ1 eσ1
  refine lv_aload_n hx hb dX7_bus_30 rfl (lv_at hl 0 rfl) ?_
  refine lv_aload_n hx hb dX7_bus_31 rfl (lv_at hl 0 rfl) ?_
  refine ck_get hx hb hts inX7 hown hw (hM 10 (by decide) (by decide)) rfl rfl 0 (by decide) (hts _ (List.mem_of_getElem? (i := 3) rfl)) rfl dX7_bus_32 ?_
  obtain ⟨hA, hB⟩ := h
  refine lv_if_le (tgt := 45) hx hb dX7_bus_35 (by decide) (fun c2 => ?_) (fun c2 => ?_)
  · have h := hA c2
    refine lv_iload_n hx hb dX7_bus_45 rfl (lv_at hl 1 rfl) ?_
    refine ck_puti hx hb hts inX7 tyX7 tyX7_ok nmX7 hown hw (hM 10 (by decide) (by decide)) rfl rfl 15 (by decide) (hts _ (List.mem_of_getElem? (i := 4) rfl)) rfl rfl rfl (Nat.le_of_ble_eq_true rfl) rfl dX7_bus_46 (fun H locs hw => ?_)
    obtain ⟨σ3, eσ3⟩ : ∃ z : ck_S, z = ck_ui σ1 10 0 15 x1 := ⟨_, rfl⟩
    rw [← eσ3] at hw
    have h := h σ3 eσ3
    exact ck_vret X hw h dX7_bus_49
  · have h := hB c2
    refine lv_aload_n hx hb dX7_bus_38 rfl (lv_at hl 0 rfl) ?_
    refine ck_get hx hb hts inX7 hown hw (hM 10 (by decide) (by decide)) rfl rfl 15 (by decide) (hts _ (List.mem_of_getElem? (i := 4) rfl)) rfl dX7_bus_39 ?_
    refine lv_goto (tgt := 46) hx hb dX7_bus_42 (by decide) ?_
    refine ck_puti hx hb hts inX7 tyX7 tyX7_ok nmX7 hown hw (hM 10 (by decide) (by decide)) rfl rfl 15 (by decide) (hts _ (List.mem_of_getElem? (i := 4) rfl)) rfl rfl rfl (Nat.le_of_ble_eq_true rfl) rfl dX7_bus_46 (fun H locs hw => ?_)
    obtain ⟨σ4, eσ4⟩ : ∃ z : ck_S, z = ck_ui σ1 10 0 15 (ck_gi σ1 10 0 15) := ⟨_, rfl⟩
    rw [← eσ4] at hw
    have h := h σ4 eσ4
    exact ck_vret X hw h dX7_bus_49
set_option maxHeartbeats 4000000 in
set_option maxRecDepth 100000 in
theorem wk_X7_bus_11 {p : Program} {l : Launch} {e : Env} {s : State} {m : MethodId} {args : Array Value} {below : List Frame} {meth : Method} {c : Code} {G : ck_G} (X : ck_X p s m meth c args cX7_bus 2 none RX7 wsX7_bus) (hM : ck_inM G) {post : ck_S → Prop} {σ : ck_S} {x1 : Int32} {H : Heap} {locs : List Loc} {ls : Array Slot} (h : sp_X7_bus_11 (ck_nc G) (ck_nb G) post σ x1) (hw : ck_H G s H locs σ) (hl : lv_has ls 2 [(0, .ref (ck_ad G 10 0)), (1, .int x1)]) : W p l e ({ frames := 0, cells := 0, slots := 0, locals := 0 } : Room) s m args below meth c H locs 0 0 (MQ below (va_Qv post (ck_Q G) (ck_A G s.heap.size)) args s 0 0 (ck_A G s.heap.size)) (F0 m 11 ls [.ref (ck_ad G 10 0)]) := by
  obtain ⟨hx, hb, hr, hml, hown, hts, hlocks⟩ := id X
  have inX7 : ∀ w ∈ wsX70, w ∈ wsX7_bus := fun _ h => List.mem_cons_of_mem _ (List.mem_append_right _ (h))
  unfold sp_X7_bus_11 at h
  refine lv_iconst (v := 1) hx hb dX7_bus_11 (by decide) ?_
  refine lv_goto (tgt := 27) hx hb dX7_bus_12 (by decide) ?_
  exact wk_X7_bus_27 X hM h hw (lv_sub hl [0, 1] rfl)
set_option maxHeartbeats 4000000 in
set_option maxRecDepth 100000 in
theorem wk_X7_bus_0 {p : Program} {l : Launch} {e : Env} {s : State} {m : MethodId} {args : Array Value} {below : List Frame} {meth : Method} {c : Code} {G : ck_G} (X : ck_X p s m meth c args cX7_bus 2 none RX7 wsX7_bus) (hM : ck_inM G) {post : ck_S → Prop} {σ : ck_S} {a0 : Int32} {H : Heap} {locs : List Loc} {ls : Array Slot} (h : sp_X7_bus (ck_nc G) (ck_nb G) σ a0 post) (hw : ck_H G s H locs σ) (hl : lv_has ls 2 [(0, .ref (ck_ad G 10 0)), (1, .int a0)]) : W p l e ({ frames := 0, cells := 0, slots := 0, locals := 0 } : Room) s m args below meth c H locs 0 0 (MQ below (va_Qv post (ck_Q G) (ck_A G s.heap.size)) args s 0 0 (ck_A G s.heap.size)) (F0 m 0 ls []) := by
  obtain ⟨hx, hb, hr, hml, hown, hts, hlocks⟩ := id X
  have inX7 : ∀ w ∈ wsX70, w ∈ wsX7_bus := fun _ h => List.mem_cons_of_mem _ (List.mem_append_right _ (h))
  unfold sp_X7_bus at h
  refine lv_aload_n hx hb dX7_bus_0 rfl (lv_at hl 0 rfl) ?_
  refine lv_iload_n hx hb dX7_bus_1 rfl (lv_at hl 1 rfl) ?_
  obtain ⟨hA, hB⟩ := h
  refine lv_if_lt (tgt := 11) hx hb dX7_bus_2 (by decide) (fun c1 => ?_) (fun c1 => ?_)
  · have h := hA c1
    exact wk_X7_bus_11 X hM h hw (lv_sub hl [0, 1] rfl)
  · have h := hB c1
    refine lv_iload_n hx hb dX7_bus_5 rfl (lv_at hl 1 rfl) ?_
    refine lv_ldc hx hb hown (hts _ (List.mem_of_getElem? (i := 1) rfl)) dX7_bus_6 ?_
    obtain ⟨hA, hB⟩ := h
    refine lv_icmp_le (tgt := 15) hx hb dX7_bus_8 (by decide) (fun c2 => ?_) (fun c2 => ?_)
    · have h := hA c2
      refine lv_aload_n hx hb dX7_bus_15 rfl (lv_at hl 0 rfl) ?_
      refine ck_get hx hb hts inX7 hown hw (hM 10 (by decide) (by decide)) rfl rfl 9 (by decide) (hts _ (List.mem_of_getElem? (i := 2) rfl)) rfl dX7_bus_16 ?_
      obtain ⟨hA, hB⟩ := h
      refine lv_if_eq (tgt := 26) hx hb dX7_bus_19 (by decide) (fun c3 => ?_) (fun c3 => ?_)
      · have h := hA c3
        refine lv_iconst (v := 0) hx hb dX7_bus_26 (by decide) ?_
        exact wk_X7_bus_27 X hM h hw (lv_sub hl [0, 1] rfl)
      · have h := hB c3
        refine lv_iconst (v := 2) hx hb dX7_bus_22 (by decide) ?_
        refine lv_goto (tgt := 27) hx hb dX7_bus_23 (by decide) ?_
        exact wk_X7_bus_27 X hM h hw (lv_sub hl [0, 1] rfl)
    · have h := hB c2
      exact wk_X7_bus_11 X hM h hw (lv_sub hl [0, 1] rfl)
set_option maxHeartbeats 4000000 in
set_option maxRecDepth 100000 in
theorem ct_X7_bus (l : Launch) (G : ck_G) (hM : ck_inM G) {a0 : Int32} {σ : ck_S} {post : ck_S → Prop} (h : sp_X7_bus (ck_nc G) (ck_nb G) σ a0 post) : ck_Mv l yX7_bus wsX7_bus ({ frames := 0, cells := 0, slots := 0, locals := 0 } : Room) G σ [.ref (ck_ad G 10 0), .int a0] post := by
  intro sz
  refine Met.ofW (cc := cX7_bus) (maxL := 2) (ret := none) (by decide) rfl ?_
  intro p e s m args below meth c s₁ B hml hv
  obtain ⟨rfl, rfl, hw⟩ := ck_enter hv
  have hl := lv_entry ([.ref (ck_ad G 10 0), .int a0]) (n := 2) (Nat.le_of_ble_eq_true rfl)
  rw [lg_entry_eq]
  generalize (lg_sl ([.ref (ck_ad G 10 0), .int a0]) ++ List.replicate (2 - (lg_sl ([.ref (ck_ad G 10 0), .int a0])).length) Slot.unset).toArray = ls at hl ⊢
  have hl : lv_has ls 2 [(0, .ref (ck_ad G 10 0)), (1, .int a0)] := hl
  exact wk_X7_bus_0 ⟨B.exec, B.bytes, B.returns, hml, findClass_of_methodNamed B.named, atoms_spec (ws := wsX7_bus) B.pre, B.notSynchronized⟩ hM h hw hl
def sp_X7_want_13 (nc nb : Nat) (post : ck_S → Prop) (σ : ck_S) (x1 : Int32) (s0 : Int32) : Prop := ∀ σ1, σ1 = ck_ui σ 10 0 0 s0 → (((ck_gi σ1 10 0 0) ≤ 0 → ((ck_b x1) ∧ ∀ σ4, σ4 = ck_ui σ1 10 0 16 x1 → post σ4)) ∧ (¬ (ck_gi σ1 10 0 0) ≤ 0 → ((ck_b (ck_gi σ1 10 0 16)) ∧ ∀ σ6, σ6 = ck_ui σ1 10 0 16 (ck_gi σ1 10 0 16) → post σ6)))
def sp_X7_want (nc nb : Nat) (σ : ck_S) (a0 : Int32) (post : ck_S → Prop) : Prop := (((ck_gi σ 10 0 9) = 0 → (sp_X7_want_13 nc nb post σ a0 0)) ∧ (¬ (ck_gi σ 10 0 9) = 0 → (sp_X7_want_13 nc nb post σ a0 1)))
set_option maxHeartbeats 4000000 in
set_option maxRecDepth 100000 in
theorem wk_X7_want_13 {p : Program} {l : Launch} {e : Env} {s : State} {m : MethodId} {args : Array Value} {below : List Frame} {meth : Method} {c : Code} {G : ck_G} (X : ck_X p s m meth c args cX7_want 2 none RX7 wsX7_want) (hM : ck_inM G) {post : ck_S → Prop} {σ : ck_S} {x1 : Int32} {s0 : Int32} {H : Heap} {locs : List Loc} {ls : Array Slot} (h : sp_X7_want_13 (ck_nc G) (ck_nb G) post σ x1 s0) (hw : ck_H G s H locs σ) (hl : lv_has ls 2 [(0, .ref (ck_ad G 10 0)), (1, .int x1)]) : W p l e ({ frames := 0, cells := 0, slots := 0, locals := 0 } : Room) s m args below meth c H locs 0 0 (MQ below (va_Qv post (ck_Q G) (ck_A G s.heap.size)) args s 0 0 (ck_A G s.heap.size)) (F0 m 13 ls [.int s0, .ref (ck_ad G 10 0)]) := by
  obtain ⟨hx, hb, hr, hml, hown, hts, hlocks⟩ := id X
  have inX7 : ∀ w ∈ wsX70, w ∈ wsX7_want := fun _ h => List.mem_cons_of_mem _ (List.mem_append_right _ (h))
  unfold sp_X7_want_13 at h
  refine ck_puti hx hb hts inX7 tyX7 tyX7_ok nmX7 hown hw (hM 10 (by decide) (by decide)) rfl rfl 0 (by decide) (hts _ (List.mem_of_getElem? (i := 2) rfl)) rfl rfl rfl (Nat.le_of_ble_eq_true rfl) rfl dX7_want_13 (fun H locs hw => ?_)
  obtain ⟨σ1, eσ1⟩ : ∃ z : ck_S, z = ck_ui σ 10 0 0 s0 := ⟨_, rfl⟩
  rw [← eσ1] at hw
  have h := h σ1 eσ1
  refine lv_aload_n hx hb dX7_want_16 rfl (lv_at hl 0 rfl) ?_
  refine lv_aload_n hx hb dX7_want_17 rfl (lv_at hl 0 rfl) ?_
  refine ck_get hx hb hts inX7 hown hw (hM 10 (by decide) (by decide)) rfl rfl 0 (by decide) (hts _ (List.mem_of_getElem? (i := 2) rfl)) rfl dX7_want_18 ?_
  obtain ⟨hA, hB⟩ := h
  refine lv_if_le (tgt := 31) hx hb dX7_want_21 (by decide) (fun c2 => ?_) (fun c2 => ?_)
  · have h := hA c2
    refine lv_iload_n hx hb dX7_want_31 rfl (lv_at hl 1 rfl) ?_
    obtain ⟨n3, h⟩ := h
    refine ck_puti hx hb hts inX7 tyX7 tyX7_ok nmX7 hown hw (hM 10 (by decide) (by decide)) rfl rfl 16 (by decide) (hts _ (List.mem_of_getElem? (i := 3) rfl)) rfl (ck_b_n n3) (ck_b_f n3) (Nat.le_of_ble_eq_true rfl) rfl dX7_want_32 (fun H locs hw => ?_)
    obtain ⟨σ4, eσ4⟩ : ∃ z : ck_S, z = ck_ui σ1 10 0 16 x1 := ⟨_, rfl⟩
    rw [← eσ4] at hw
    have h := h σ4 eσ4
    exact ck_vret X hw h dX7_want_35
  · have h := hB c2
    refine lv_aload_n hx hb dX7_want_24 rfl (lv_at hl 0 rfl) ?_
    refine ck_get hx hb hts inX7 hown hw (hM 10 (by decide) (by decide)) rfl rfl 16 (by decide) (hts _ (List.mem_of_getElem? (i := 3) rfl)) rfl dX7_want_25 ?_
    refine lv_goto (tgt := 32) hx hb dX7_want_28 (by decide) ?_
    obtain ⟨n5, h⟩ := h
    refine ck_puti hx hb hts inX7 tyX7 tyX7_ok nmX7 hown hw (hM 10 (by decide) (by decide)) rfl rfl 16 (by decide) (hts _ (List.mem_of_getElem? (i := 3) rfl)) rfl (ck_b_n n5) (ck_b_f n5) (Nat.le_of_ble_eq_true rfl) rfl dX7_want_32 (fun H locs hw => ?_)
    obtain ⟨σ6, eσ6⟩ : ∃ z : ck_S, z = ck_ui σ1 10 0 16 (ck_gi σ1 10 0 16) := ⟨_, rfl⟩
    rw [← eσ6] at hw
    have h := h σ6 eσ6
    exact ck_vret X hw h dX7_want_35
set_option maxHeartbeats 4000000 in
set_option maxRecDepth 100000 in
theorem wk_X7_want_0 {p : Program} {l : Launch} {e : Env} {s : State} {m : MethodId} {args : Array Value} {below : List Frame} {meth : Method} {c : Code} {G : ck_G} (X : ck_X p s m meth c args cX7_want 2 none RX7 wsX7_want) (hM : ck_inM G) {post : ck_S → Prop} {σ : ck_S} {a0 : Int32} {H : Heap} {locs : List Loc} {ls : Array Slot} (h : sp_X7_want (ck_nc G) (ck_nb G) σ a0 post) (hw : ck_H G s H locs σ) (hl : lv_has ls 2 [(0, .ref (ck_ad G 10 0)), (1, .int a0)]) : W p l e ({ frames := 0, cells := 0, slots := 0, locals := 0 } : Room) s m args below meth c H locs 0 0 (MQ below (va_Qv post (ck_Q G) (ck_A G s.heap.size)) args s 0 0 (ck_A G s.heap.size)) (F0 m 0 ls []) := by
  obtain ⟨hx, hb, hr, hml, hown, hts, hlocks⟩ := id X
  have inX7 : ∀ w ∈ wsX70, w ∈ wsX7_want := fun _ h => List.mem_cons_of_mem _ (List.mem_append_right _ (h))
  unfold sp_X7_want at h
  refine lv_aload_n hx hb dX7_want_0 rfl (lv_at hl 0 rfl) ?_
  refine lv_aload_n hx hb dX7_want_1 rfl (lv_at hl 0 rfl) ?_
  refine ck_get hx hb hts inX7 hown hw (hM 10 (by decide) (by decide)) rfl rfl 9 (by decide) (hts _ (List.mem_of_getElem? (i := 1) rfl)) rfl dX7_want_2 ?_
  obtain ⟨hA, hB⟩ := h
  refine lv_if_eq (tgt := 12) hx hb dX7_want_5 (by decide) (fun c1 => ?_) (fun c1 => ?_)
  · have h := hA c1
    refine lv_iconst (v := 0) hx hb dX7_want_12 (by decide) ?_
    exact wk_X7_want_13 X hM h hw (lv_sub hl [0, 1] rfl)
  · have h := hB c1
    refine lv_iconst (v := 1) hx hb dX7_want_8 (by decide) ?_
    refine lv_goto (tgt := 13) hx hb dX7_want_9 (by decide) ?_
    exact wk_X7_want_13 X hM h hw (lv_sub hl [0, 1] rfl)
set_option maxHeartbeats 4000000 in
set_option maxRecDepth 100000 in
theorem ct_X7_want (l : Launch) (G : ck_G) (hM : ck_inM G) {a0 : Int32} {σ : ck_S} {post : ck_S → Prop} (h : sp_X7_want (ck_nc G) (ck_nb G) σ a0 post) : ck_Mv l yX7_want wsX7_want ({ frames := 0, cells := 0, slots := 0, locals := 0 } : Room) G σ [.ref (ck_ad G 10 0), .int a0] post := by
  intro sz
  refine Met.ofW (cc := cX7_want) (maxL := 2) (ret := none) (by decide) rfl ?_
  intro p e s m args below meth c s₁ B hml hv
  obtain ⟨rfl, rfl, hw⟩ := ck_enter hv
  have hl := lv_entry ([.ref (ck_ad G 10 0), .int a0]) (n := 2) (Nat.le_of_ble_eq_true rfl)
  rw [lg_entry_eq]
  generalize (lg_sl ([.ref (ck_ad G 10 0), .int a0]) ++ List.replicate (2 - (lg_sl ([.ref (ck_ad G 10 0), .int a0])).length) Slot.unset).toArray = ls at hl ⊢
  have hl : lv_has ls 2 [(0, .ref (ck_ad G 10 0)), (1, .int a0)] := hl
  exact wk_X7_want_0 ⟨B.exec, B.bytes, B.returns, hml, findClass_of_methodNamed B.named, atoms_spec (ws := wsX7_want) B.pre, B.notSynchronized⟩ hM h hw hl
def sp_X7_set_33 (nc nb : Nat) (post : ck_S → Prop) (σ : ck_S) (x1 : UInt64) (s0 : Int32) : Prop := ∀ σ1, σ1 = ck_ui σ 10 0 0 s0 → (((ck_gi σ1 10 0 0) ≤ 0 → ((vf_n64 (FP.dmul x1 4665729213955833856)) ∧ ∀ σ4, σ4 = ck_uj σ1 10 0 11 (FP.d2l (FP.dmul x1 4665729213955833856)) → post σ4)) ∧ (¬ (ck_gi σ1 10 0 0) ≤ 0 → (∀ σ5, σ5 = ck_uj σ1 10 0 11 (ck_gj σ1 10 0 11) → post σ5)))
def sp_X7_set_17 (nc nb : Nat) (post : ck_S → Prop) (σ : ck_S) (x1 : UInt64) : Prop := sp_X7_set_33 nc nb post σ x1 1
def sp_X7_set (nc nb : Nat) (σ : ck_S) (a0 : UInt64) (post : ck_S → Prop) : Prop := (((Op.cmpValue (FP.dcmp a0 FP.dconst0) .l) < 0 → (sp_X7_set_17 nc nb post σ a0)) ∧ (¬ (Op.cmpValue (FP.dcmp a0 FP.dconst0) .l) < 0 → ((((Op.cmpValue (FP.dcmp a0 (FP.l2d (ck_gj σ 10 0 3))) .g) ≤ 0 → ((((ck_gi σ 10 0 9) = 0 → (sp_X7_set_33 nc nb post σ a0 0)) ∧ (¬ (ck_gi σ 10 0 9) = 0 → (sp_X7_set_33 nc nb post σ a0 2))))) ∧ (¬ (Op.cmpValue (FP.dcmp a0 (FP.l2d (ck_gj σ 10 0 3))) .g) ≤ 0 → (sp_X7_set_17 nc nb post σ a0))))))
set_option maxHeartbeats 4000000 in
set_option maxRecDepth 100000 in
theorem wk_X7_set_33 {p : Program} {l : Launch} {e : Env} {s : State} {m : MethodId} {args : Array Value} {below : List Frame} {meth : Method} {c : Code} {G : ck_G} (X : ck_X p s m meth c args cX7_set 3 none RX7 wsX7_set) (hM : ck_inM G) {post : ck_S → Prop} {σ : ck_S} {x1 : UInt64} {s0 : Int32} {H : Heap} {locs : List Loc} {ls : Array Slot} (h : sp_X7_set_33 (ck_nc G) (ck_nb G) post σ x1 s0) (hw : ck_H G s H locs σ) (hl : lv_has ls 3 [(0, .ref (ck_ad G 10 0)), (1, .double x1)]) : W p l e ({ frames := 0, cells := 0, slots := 0, locals := 0 } : Room) s m args below meth c H locs 0 0 (MQ below (va_Qv post (ck_Q G) (ck_A G s.heap.size)) args s 0 0 (ck_A G s.heap.size)) (F0 m 33 ls [.int s0, .ref (ck_ad G 10 0)]) := by
  obtain ⟨hx, hb, hr, hml, hown, hts, hlocks⟩ := id X
  have inX7 : ∀ w ∈ wsX70, w ∈ wsX7_set := fun _ h => List.mem_cons_of_mem _ (List.mem_append_right _ (h))
  unfold sp_X7_set_33 at h
  refine ck_puti hx hb hts inX7 tyX7 tyX7_ok nmX7 hown hw (hM 10 (by decide) (by decide)) rfl rfl 0 (by decide) (hts _ (List.mem_of_getElem? (i := 3) rfl)) rfl rfl rfl (Nat.le_of_ble_eq_true rfl) rfl dX7_set_33 (fun H locs hw => ?_)
  obtain ⟨σ1, eσ1⟩ : ∃ z : ck_S, z = ck_ui σ 10 0 0 s0 := ⟨_, rfl⟩
  rw [← eσ1] at hw
  have h := h σ1 eσ1
  refine lv_aload_n hx hb dX7_set_36 rfl (lv_at hl 0 rfl) ?_
  refine lv_aload_n hx hb dX7_set_37 rfl (lv_at hl 0 rfl) ?_
  refine ck_get hx hb hts inX7 hown hw (hM 10 (by decide) (by decide)) rfl rfl 0 (by decide) (hts _ (List.mem_of_getElem? (i := 3) rfl)) rfl dX7_set_38 ?_
  obtain ⟨hA, hB⟩ := h
  refine lv_if_le (tgt := 51) hx hb dX7_set_41 (by decide) (fun c2 => ?_) (fun c2 => ?_)
  · have h := hA c2
    refine lv_dload_n hx hb dX7_set_51 rfl (lv_at hl 1 rfl) ?_
    refine lv_ldc2d hx hb hown (hts _ (List.mem_of_getElem? (i := 5) rfl)) dX7_set_52 ?_
    obtain ⟨n3, h⟩ := h
    refine lv_dmul hx hb dX7_set_55 n3 ?_
    refine lv_d2l hx hb dX7_set_56 ?_
    refine ck_putj hx hb hts inX7 tyX7 tyX7_ok nmX7 hown hw (hM 10 (by decide) (by decide)) rfl rfl 11 (by decide) (hts _ (List.mem_of_getElem? (i := 4) rfl)) rfl rfl rfl (Nat.le_of_ble_eq_true rfl) rfl dX7_set_57 (fun H locs hw => ?_)
    obtain ⟨σ4, eσ4⟩ : ∃ z : ck_S, z = ck_uj σ1 10 0 11 (FP.d2l (FP.dmul x1 4665729213955833856)) := ⟨_, rfl⟩
    rw [← eσ4] at hw
    have h := h σ4 eσ4
    exact ck_vret X hw h dX7_set_60
  · have h := hB c2
    refine lv_aload_n hx hb dX7_set_44 rfl (lv_at hl 0 rfl) ?_
    refine ck_get hx hb hts inX7 hown hw (hM 10 (by decide) (by decide)) rfl rfl 11 (by decide) (hts _ (List.mem_of_getElem? (i := 4) rfl)) rfl dX7_set_45 ?_
    refine lv_goto (tgt := 57) hx hb dX7_set_48 (by decide) ?_
    refine ck_putj hx hb hts inX7 tyX7 tyX7_ok nmX7 hown hw (hM 10 (by decide) (by decide)) rfl rfl 11 (by decide) (hts _ (List.mem_of_getElem? (i := 4) rfl)) rfl rfl rfl (Nat.le_of_ble_eq_true rfl) rfl dX7_set_57 (fun H locs hw => ?_)
    obtain ⟨σ5, eσ5⟩ : ∃ z : ck_S, z = ck_uj σ1 10 0 11 (ck_gj σ1 10 0 11) := ⟨_, rfl⟩
    rw [← eσ5] at hw
    have h := h σ5 eσ5
    exact ck_vret X hw h dX7_set_60
set_option maxHeartbeats 4000000 in
set_option maxRecDepth 100000 in
theorem wk_X7_set_17 {p : Program} {l : Launch} {e : Env} {s : State} {m : MethodId} {args : Array Value} {below : List Frame} {meth : Method} {c : Code} {G : ck_G} (X : ck_X p s m meth c args cX7_set 3 none RX7 wsX7_set) (hM : ck_inM G) {post : ck_S → Prop} {σ : ck_S} {x1 : UInt64} {H : Heap} {locs : List Loc} {ls : Array Slot} (h : sp_X7_set_17 (ck_nc G) (ck_nb G) post σ x1) (hw : ck_H G s H locs σ) (hl : lv_has ls 3 [(0, .ref (ck_ad G 10 0)), (1, .double x1)]) : W p l e ({ frames := 0, cells := 0, slots := 0, locals := 0 } : Room) s m args below meth c H locs 0 0 (MQ below (va_Qv post (ck_Q G) (ck_A G s.heap.size)) args s 0 0 (ck_A G s.heap.size)) (F0 m 17 ls [.ref (ck_ad G 10 0)]) := by
  obtain ⟨hx, hb, hr, hml, hown, hts, hlocks⟩ := id X
  have inX7 : ∀ w ∈ wsX70, w ∈ wsX7_set := fun _ h => List.mem_cons_of_mem _ (List.mem_append_right _ (h))
  unfold sp_X7_set_17 at h
  refine lv_iconst (v := 1) hx hb dX7_set_17 (by decide) ?_
  refine lv_goto (tgt := 33) hx hb dX7_set_18 (by decide) ?_
  exact wk_X7_set_33 X hM h hw (lv_sub hl [0, 1] rfl)
set_option maxHeartbeats 4000000 in
set_option maxRecDepth 100000 in
theorem wk_X7_set_0 {p : Program} {l : Launch} {e : Env} {s : State} {m : MethodId} {args : Array Value} {below : List Frame} {meth : Method} {c : Code} {G : ck_G} (X : ck_X p s m meth c args cX7_set 3 none RX7 wsX7_set) (hM : ck_inM G) {post : ck_S → Prop} {σ : ck_S} {a0 : UInt64} {H : Heap} {locs : List Loc} {ls : Array Slot} (h : sp_X7_set (ck_nc G) (ck_nb G) σ a0 post) (hw : ck_H G s H locs σ) (hl : lv_has ls 3 [(0, .ref (ck_ad G 10 0)), (1, .double a0)]) : W p l e ({ frames := 0, cells := 0, slots := 0, locals := 0 } : Room) s m args below meth c H locs 0 0 (MQ below (va_Qv post (ck_Q G) (ck_A G s.heap.size)) args s 0 0 (ck_A G s.heap.size)) (F0 m 0 ls []) := by
  obtain ⟨hx, hb, hr, hml, hown, hts, hlocks⟩ := id X
  have inX7 : ∀ w ∈ wsX70, w ∈ wsX7_set := fun _ h => List.mem_cons_of_mem _ (List.mem_append_right _ (h))
  unfold sp_X7_set at h
  refine lv_aload_n hx hb dX7_set_0 rfl (lv_at hl 0 rfl) ?_
  refine lv_dload_n hx hb dX7_set_1 rfl (lv_at hl 1 rfl) ?_
  refine lv_dconst0 hx hb dX7_set_2 ?_
  refine lv_dcmp hx hb dX7_set_3 ?_
  obtain ⟨hA, hB⟩ := h
  refine lv_if_lt (tgt := 17) hx hb dX7_set_4 (by decide) (fun c1 => ?_) (fun c1 => ?_)
  · have h := hA c1
    exact wk_X7_set_17 X hM h hw (lv_sub hl [0, 1] rfl)
  · have h := hB c1
    refine lv_dload_n hx hb dX7_set_7 rfl (lv_at hl 1 rfl) ?_
    refine lv_aload_n hx hb dX7_set_8 rfl (lv_at hl 0 rfl) ?_
    refine ck_get hx hb hts inX7 hown hw (hM 10 (by decide) (by decide)) rfl rfl 3 (by decide) (hts _ (List.mem_of_getElem? (i := 1) rfl)) rfl dX7_set_9 ?_
    refine lv_l2d hx hb dX7_set_12 ?_
    refine lv_dcmp hx hb dX7_set_13 ?_
    obtain ⟨hA, hB⟩ := h
    refine lv_if_le (tgt := 21) hx hb dX7_set_14 (by decide) (fun c2 => ?_) (fun c2 => ?_)
    · have h := hA c2
      refine lv_aload_n hx hb dX7_set_21 rfl (lv_at hl 0 rfl) ?_
      refine ck_get hx hb hts inX7 hown hw (hM 10 (by decide) (by decide)) rfl rfl 9 (by decide) (hts _ (List.mem_of_getElem? (i := 2) rfl)) rfl dX7_set_22 ?_
      obtain ⟨hA, hB⟩ := h
      refine lv_if_eq (tgt := 32) hx hb dX7_set_25 (by decide) (fun c3 => ?_) (fun c3 => ?_)
      · have h := hA c3
        refine lv_iconst (v := 0) hx hb dX7_set_32 (by decide) ?_
        exact wk_X7_set_33 X hM h hw (lv_sub hl [0, 1] rfl)
      · have h := hB c3
        refine lv_iconst (v := 2) hx hb dX7_set_28 (by decide) ?_
        refine lv_goto (tgt := 33) hx hb dX7_set_29 (by decide) ?_
        exact wk_X7_set_33 X hM h hw (lv_sub hl [0, 1] rfl)
    · have h := hB c2
      exact wk_X7_set_17 X hM h hw (lv_sub hl [0, 1] rfl)
set_option maxHeartbeats 4000000 in
set_option maxRecDepth 100000 in
theorem ct_X7_set (l : Launch) (G : ck_G) (hM : ck_inM G) {a0 : UInt64} {σ : ck_S} {post : ck_S → Prop} (h : sp_X7_set (ck_nc G) (ck_nb G) σ a0 post) : ck_Mv l yX7_set wsX7_set ({ frames := 0, cells := 0, slots := 0, locals := 0 } : Room) G σ [.ref (ck_ad G 10 0), .double a0] post := by
  intro sz
  refine Met.ofW (cc := cX7_set) (maxL := 3) (ret := none) (by decide) rfl ?_
  intro p e s m args below meth c s₁ B hml hv
  obtain ⟨rfl, rfl, hw⟩ := ck_enter hv
  have hl := lv_entry ([.ref (ck_ad G 10 0), .double a0]) (n := 3) (Nat.le_of_ble_eq_true rfl)
  rw [lg_entry_eq]
  generalize (lg_sl ([.ref (ck_ad G 10 0), .double a0]) ++ List.replicate (3 - (lg_sl ([.ref (ck_ad G 10 0), .double a0])).length) Slot.unset).toArray = ls at hl ⊢
  have hl : lv_has ls 3 [(0, .ref (ck_ad G 10 0)), (1, .double a0)] := hl
  exact wk_X7_set_0 ⟨B.exec, B.bytes, B.returns, hml, findClass_of_methodNamed B.named, atoms_spec (ws := wsX7_set) B.pre, B.notSynchronized⟩ hM h hw hl
def sp_X7_isStale (nc nb : Nat) (σ : ck_S) (a0 : Int32) (post : Int32 → ck_S → Prop) : Prop := (vp_in a0 4) ∧ (((ck_gi σ 17 0 (Int32.toNatClampNeg a0)) = 0 → ((ck_b 1 ∧ post 1 σ))) ∧ (¬ (ck_gi σ 17 0 (Int32.toNatClampNeg a0)) = 0 → ((vp_in a0 4) ∧ (((ck_gi σ 18 0 (Int32.toNatClampNeg a0)) ≤ 10 → ((ck_b 0 ∧ post 0 σ))) ∧ (¬ (ck_gi σ 18 0 (Int32.toNatClampNeg a0)) ≤ 10 → ((ck_b 1 ∧ post 1 σ)))))))
set_option maxHeartbeats 4000000 in
set_option maxRecDepth 100000 in
theorem wk_X7_isStale_0 {p : Program} {l : Launch} {e : Env} {s : State} {m : MethodId} {args : Array Value} {below : List Frame} {meth : Method} {c : Code} {G : ck_G} (X : ck_X p s m meth c args cX7_isStale 2 (some .boolean) RX7 wsX7_isStale) (hM : ck_inM G) {post : Int32 → ck_S → Prop} {σ : ck_S} {a0 : Int32} {H : Heap} {locs : List Loc} {ls : Array Slot} (h : sp_X7_isStale (ck_nc G) (ck_nb G) σ a0 post) (hw : ck_H G s H locs σ) (hl : lv_has ls 2 [(0, .ref (ck_ad G 10 0)), (1, .int a0)]) : W p l e ({ frames := 0, cells := 0, slots := 0, locals := 0 } : Room) s m args below meth c H locs 0 0 (MQ below (va_Qi post (ck_Q G) (ck_A G s.heap.size)) args s 0 0 (ck_A G s.heap.size)) (F0 m 0 ls []) := by
  obtain ⟨hx, hb, hr, hml, hown, hts, hlocks⟩ := id X
  have inX7 : ∀ w ∈ wsX70, w ∈ wsX7_isStale := fun _ h => List.mem_cons_of_mem _ (List.mem_append_right _ (h))
  unfold sp_X7_isStale at h
  refine lv_aload_n hx hb dX7_isStale_0 rfl (lv_at hl 0 rfl) ?_
  refine ck_get hx hb hts inX7 hown hw (hM 10 (by decide) (by decide)) rfl rfl 21 (by decide) (hts _ (List.mem_of_getElem? (i := 1) rfl)) rfl dX7_isStale_1 ?_
  refine lv_iload_n hx hb dX7_isStale_4 rfl (lv_at hl 1 rfl) ?_
  obtain ⟨n1, h⟩ := h
  refine ck_iald hx hb hw (hM 17 (by decide) (by decide)) rfl n1 dX7_isStale_5 ?_
  obtain ⟨hA, hB⟩ := h
  refine lv_if_eq (tgt := 20) hx hb dX7_isStale_6 (by decide) (fun c2 => ?_) (fun c2 => ?_)
  · have h := hA c2
    refine lv_iconst (v := 1) hx hb dX7_isStale_20 (by decide) ?_
    refine lv_goto (tgt := 25) hx hb dX7_isStale_21 (by decide) ?_
    exact ck_zret X hw h dX7_isStale_25
  · have h := hB c2
    refine lv_aload_n hx hb dX7_isStale_9 rfl (lv_at hl 0 rfl) ?_
    refine ck_get hx hb hts inX7 hown hw (hM 10 (by decide) (by decide)) rfl rfl 22 (by decide) (hts _ (List.mem_of_getElem? (i := 2) rfl)) rfl dX7_isStale_10 ?_
    refine lv_iload_n hx hb dX7_isStale_13 rfl (lv_at hl 1 rfl) ?_
    obtain ⟨n3, h⟩ := h
    refine ck_iald hx hb hw (hM 18 (by decide) (by decide)) rfl n3 dX7_isStale_14 ?_
    refine lv_bipush (v := 10) hx hb dX7_isStale_15 (by decide) ?_
    obtain ⟨hA, hB⟩ := h
    refine lv_icmp_le (tgt := 24) hx hb dX7_isStale_17 (by decide) (fun c4 => ?_) (fun c4 => ?_)
    · have h := hA c4
      refine lv_iconst (v := 0) hx hb dX7_isStale_24 (by decide) ?_
      exact ck_zret X hw h dX7_isStale_25
    · have h := hB c4
      refine lv_iconst (v := 1) hx hb dX7_isStale_20 (by decide) ?_
      refine lv_goto (tgt := 25) hx hb dX7_isStale_21 (by decide) ?_
      exact ck_zret X hw h dX7_isStale_25
set_option maxHeartbeats 4000000 in
set_option maxRecDepth 100000 in
theorem ct_X7_isStale (l : Launch) (G : ck_G) (hM : ck_inM G) {a0 : Int32} {σ : ck_S} {post : Int32 → ck_S → Prop} (h : sp_X7_isStale (ck_nc G) (ck_nb G) σ a0 post) : ck_Mi l yX7_isStale wsX7_isStale ({ frames := 0, cells := 0, slots := 0, locals := 0 } : Room) G σ [.ref (ck_ad G 10 0), .int a0] post := by
  intro sz
  refine Met.ofW (cc := cX7_isStale) (maxL := 2) (ret := (some .boolean)) (by decide) rfl ?_
  intro p e s m args below meth c s₁ B hml hv
  obtain ⟨rfl, rfl, hw⟩ := ck_enter hv
  have hl := lv_entry ([.ref (ck_ad G 10 0), .int a0]) (n := 2) (Nat.le_of_ble_eq_true rfl)
  rw [lg_entry_eq]
  generalize (lg_sl ([.ref (ck_ad G 10 0), .int a0]) ++ List.replicate (2 - (lg_sl ([.ref (ck_ad G 10 0), .int a0])).length) Slot.unset).toArray = ls at hl ⊢
  have hl : lv_has ls 2 [(0, .ref (ck_ad G 10 0)), (1, .int a0)] := hl
  exact wk_X7_isStale_0 ⟨B.exec, B.bytes, B.returns, hml, findClass_of_methodNamed B.named, atoms_spec (ws := wsX7_isStale) B.pre, B.notSynchronized⟩ hM h hw hl
def sp_X7_numberOf (nc nb : Nat) (σ : ck_S) (a0 : Int32) (a1 : Int32) (a2 : Int32) (post : Int32 → ck_S → Prop) : Prop := (vp_in a0 4) ∧ ∀ x_2, x_2 = (((ck_gi σ 17 0 (Int32.toNatClampNeg a0)) - 1) - a2) → ∀ x_3, x_3 = (x_2 - x_2 / 8 * 8) → ∀ x_4, x_4 = ((6 * ((8 * a0) + x_3)) + a1) → (vp_in x_4 192) ∧ post (ck_gi σ 14 0 (Int32.toNatClampNeg x_4)) σ
set_option maxHeartbeats 4000000 in
set_option maxRecDepth 100000 in
theorem wk_X7_numberOf_0 {p : Program} {l : Launch} {e : Env} {s : State} {m : MethodId} {args : Array Value} {below : List Frame} {meth : Method} {c : Code} {G : ck_G} (X : ck_X p s m meth c args cX7_numberOf 5 (some .int) RX7 wsX7_numberOf) (hM : ck_inM G) {post : Int32 → ck_S → Prop} {σ : ck_S} {a0 : Int32} {a1 : Int32} {a2 : Int32} {H : Heap} {locs : List Loc} {ls : Array Slot} (h : sp_X7_numberOf (ck_nc G) (ck_nb G) σ a0 a1 a2 post) (hw : ck_H G s H locs σ) (hl : lv_has ls 5 [(0, .ref (ck_ad G 10 0)), (1, .int a0), (2, .int a1), (3, .int a2)]) : W p l e ({ frames := 0, cells := 0, slots := 0, locals := 0 } : Room) s m args below meth c H locs 0 0 (MQ below (va_Qi post (ck_Q G) (ck_A G s.heap.size)) args s 0 0 (ck_A G s.heap.size)) (F0 m 0 ls []) := by
  obtain ⟨hx, hb, hr, hml, hown, hts, hlocks⟩ := id X
  have inX7 : ∀ w ∈ wsX70, w ∈ wsX7_numberOf := fun _ h => List.mem_cons_of_mem _ (List.mem_append_right _ (h))
  unfold sp_X7_numberOf at h
  refine lv_aload_n hx hb dX7_numberOf_0 rfl (lv_at hl 0 rfl) ?_
  refine ck_get hx hb hts inX7 hown hw (hM 10 (by decide) (by decide)) rfl rfl 21 (by decide) (hts _ (List.mem_of_getElem? (i := 1) rfl)) rfl dX7_numberOf_1 ?_
  refine lv_iload_n hx hb dX7_numberOf_4 rfl (lv_at hl 1 rfl) ?_
  obtain ⟨n1, h⟩ := h
  refine ck_iald hx hb hw (hM 17 (by decide) (by decide)) rfl n1 dX7_numberOf_5 ?_
  refine lv_iconst (v := 1) hx hb dX7_numberOf_6 (by decide) ?_
  refine lv_isub hx hb dX7_numberOf_7 ?_
  refine lv_iload_n hx hb dX7_numberOf_8 rfl (lv_at hl 3 rfl) ?_
  refine lv_isub hx hb dX7_numberOf_9 ?_
  refine lv_topi (fun x_2 ex_2 => ?_)
  have h := h x_2 ex_2
  refine lv_bipush (v := 8) hx hb dX7_numberOf_10 (by decide) ?_
  refine lv_irem hx hb dX7_numberOf_12 (by decide) ?_
  refine lv_topi (fun x_3 ex_3 => ?_)
  have h := h x_3 ex_3
  refine lv_istore (lv' := [(4, .int x_3), (0, .ref (ck_ad G 10 0)), (1, .int a0), (2, .int a1), (3, .int a2)]) hx hb dX7_numberOf_13 hl (by decide) rfl (fun ls hl => ?_)
  refine lv_aload_n hx hb dX7_numberOf_15 rfl (lv_at hl 1 rfl) ?_
  refine ck_get hx hb hts inX7 hown hw (hM 10 (by decide) (by decide)) rfl rfl 18 (by decide) (hts _ (List.mem_of_getElem? (i := 2) rfl)) rfl dX7_numberOf_16 ?_
  refine lv_bipush (v := 6) hx hb dX7_numberOf_19 (by decide) ?_
  refine lv_bipush (v := 8) hx hb dX7_numberOf_21 (by decide) ?_
  refine lv_iload_n hx hb dX7_numberOf_23 rfl (lv_at hl 2 rfl) ?_
  refine lv_imul hx hb dX7_numberOf_24 ?_
  refine lv_iload hx hb dX7_numberOf_25 (lv_at hl 0 rfl) ?_
  refine lv_iadd hx hb dX7_numberOf_27 ?_
  refine lv_imul hx hb dX7_numberOf_28 ?_
  refine lv_iload_n hx hb dX7_numberOf_29 rfl (lv_at hl 3 rfl) ?_
  refine lv_iadd hx hb dX7_numberOf_30 ?_
  refine lv_topi (fun x_4 ex_4 => ?_)
  have h := h x_4 ex_4
  obtain ⟨n5, h⟩ := h
  refine ck_iald hx hb hw (hM 14 (by decide) (by decide)) rfl n5 dX7_numberOf_31 ?_
  exact ck_iret X hw h dX7_numberOf_32
set_option maxHeartbeats 4000000 in
set_option maxRecDepth 100000 in
theorem ct_X7_numberOf (l : Launch) (G : ck_G) (hM : ck_inM G) {a0 : Int32} {a1 : Int32} {a2 : Int32} {σ : ck_S} {post : Int32 → ck_S → Prop} (h : sp_X7_numberOf (ck_nc G) (ck_nb G) σ a0 a1 a2 post) : ck_Mi l yX7_numberOf wsX7_numberOf ({ frames := 0, cells := 0, slots := 0, locals := 0 } : Room) G σ [.ref (ck_ad G 10 0), .int a0, .int a1, .int a2] post := by
  intro sz
  refine Met.ofW (cc := cX7_numberOf) (maxL := 5) (ret := (some .int)) (by decide) rfl ?_
  intro p e s m args below meth c s₁ B hml hv
  obtain ⟨rfl, rfl, hw⟩ := ck_enter hv
  have hl := lv_entry ([.ref (ck_ad G 10 0), .int a0, .int a1, .int a2]) (n := 5) (Nat.le_of_ble_eq_true rfl)
  rw [lg_entry_eq]
  generalize (lg_sl ([.ref (ck_ad G 10 0), .int a0, .int a1, .int a2]) ++ List.replicate (5 - (lg_sl ([.ref (ck_ad G 10 0), .int a0, .int a1, .int a2])).length) Slot.unset).toArray = ls at hl ⊢
  have hl : lv_has ls 5 [(0, .ref (ck_ad G 10 0)), (1, .int a0), (2, .int a1), (3, .int a2)] := hl
  exact wk_X7_numberOf_0 ⟨B.exec, B.bytes, B.returns, hml, findClass_of_methodNamed B.named, atoms_spec (ws := wsX7_numberOf) B.pre, B.notSynchronized⟩ hM h hw hl
def sp_X7_isStuck_114 (nc nb : Nat) (post : Int32 → ck_S → Prop) (K33 : ck_S → Int32 → Int32 → Int32 → Int64 → Int64 → Int32 → Prop) (σ : ck_S) (x1 : Int32) (x2 : Int32) (x3 : Int32) (x4 : Int64) (x8 : Int32) (s0 : Int64) : Prop := ∀ x_1, x_1 = x8 + 1 → K33 σ x1 x2 x3 x4 s0 x_1
def sp_X7_isStuck_97 (nc nb : Nat) (post : Int32 → ck_S → Prop) (K33 : ck_S → Int32 → Int32 → Int32 → Int64 → Int64 → Int32 → Prop) (σ : ck_S) (x1 : Int32) (x2 : Int32) (x3 : Int32) (x6 : Int64) (x8 : Int32) (x9 : Int64) (s0 : Int64) : Prop := (((lg_cmp x9 x6) ≤ 0 → (sp_X7_isStuck_114 nc nb post K33 σ x1 x2 x3 s0 x8 x6)) ∧ (¬ (lg_cmp x9 x6) ≤ 0 → (sp_X7_isStuck_114 nc nb post K33 σ x1 x2 x3 s0 x8 x9)))
def sp_X7_isStuck_67 (nc nb : Nat) (post : Int32 → ck_S → Prop) (K33 : ck_S → Int32 → Int32 → Int32 → Int64 → Int64 → Int32 → Prop) (σ : ck_S) (x1 : Int32) (x2 : Int32) (x4 : Int64) (x6 : Int64) (x8 : Int32) (s0 : Int32) : Prop := ∀ x_1, x_1 = ((8 * x1) + x8) → (vp_in x_1 32) ∧ ∀ y_3, y_3 = (ck_gj σ 15 0 (Int32.toNatClampNeg x_1)) → ((0 ≤ (lg_cmp y_3 x4) → (sp_X7_isStuck_97 nc nb post K33 σ x1 x2 s0 x6 x8 y_3 x4)) ∧ (¬ 0 ≤ (lg_cmp y_3 x4) → (sp_X7_isStuck_97 nc nb post K33 σ x1 x2 s0 x6 x8 y_3 y_3)))
def sp_X7_isStuck_66 (nc nb : Nat) (post : Int32 → ck_S → Prop) (K33 : ck_S → Int32 → Int32 → Int32 → Int64 → Int64 → Int32 → Prop) (σ : ck_S) (x1 : Int32) (x2 : Int32) (x4 : Int64) (x6 : Int64) (x8 : Int32) : Prop := sp_X7_isStuck_67 nc nb post K33 σ x1 x2 x4 x6 x8 0
def bd_X7_isStuck_33 (nc nb : Nat) (post : Int32 → ck_S → Prop) (K33 : ck_S → Int32 → Int32 → Int32 → Int64 → Int64 → Int32 → Prop) (σ : ck_S) (x1 : Int32) (x2 : Int32) (x3 : Int32) (x4 : Int64) (x6 : Int64) (x8 : Int32) : Prop := ((8 ≤ x8 → (((x3 = 0 → ((ck_b 0 ∧ post 0 σ))) ∧ (¬ x3 = 0 → ((((lg_cmp (x6 - x4) (64 : Int64)) ≤ 0 → ((ck_b 0 ∧ post 0 σ))) ∧ (¬ (lg_cmp (x6 - x4) (64 : Int64)) ≤ 0 → ((ck_b 1 ∧ post 1 σ))))))))) ∧ (¬ 8 ≤ x8 → (((x3 = 0 → (sp_X7_isStuck_66 nc nb post K33 σ x1 x2 x4 x6 x8)) ∧ (¬ x3 = 0 → (sp_X7_numberOf nc nb σ x1 x2 x8 (fun x_6 σ5 => sp_X7_numberOf nc nb σ5 x1 x2 0 (fun x_8 σ7 => ((¬ x_6 = x_8 → (sp_X7_isStuck_66 nc nb post K33 σ7 x1 x2 x4 x6 x8)) ∧ (x_6 = x_8 → (sp_X7_isStuck_67 nc nb post K33 σ7 x1 x2 x4 x6 x8 1)))))))))))
def sp_X7_isStuck (nc nb : Nat) (σ : ck_S) (a0 : Int32) (a1 : Int32) (post : Int32 → ck_S → Prop) : Prop := (vp_in a0 4) ∧ ((8 ≤ (ck_gi σ 17 0 (Int32.toNatClampNeg a0)) → (∀ x_3, x_3 = (8 * a0) → (vp_in x_3 32) ∧ ∀ y_5, y_5 = (ck_gj σ 15 0 (Int32.toNatClampNeg x_3)) → lx_7 (bd_X7_isStuck_33 nc nb post) σ a0 a1 1 y_5 y_5 0)) ∧ (¬ 8 ≤ (ck_gi σ 17 0 (Int32.toNatClampNeg a0)) → ((ck_b 0 ∧ post 0 σ))))
set_option maxHeartbeats 4000000 in
set_option maxRecDepth 100000 in
theorem wk_X7_isStuck_114 {p : Program} {l : Launch} {e : Env} {s : State} {m : MethodId} {args : Array Value} {below : List Frame} {meth : Method} {c : Code} {G : ck_G} (X : ck_X p s m meth c args cX7_isStuck 11 (some .boolean) RX7 wsX7_isStuck) (hM : ck_inM G) {post : Int32 → ck_S → Prop} {K33 : ck_S → Int32 → Int32 → Int32 → Int64 → Int64 → Int32 → Prop} (hK33 : ∀ (σ : ck_S) (x1 : Int32) (x2 : Int32) (x3 : Int32) (x4 : Int64) (x6 : Int64) (x8 : Int32) (H : Heap) (locs : List Loc) (ls : Array Slot), K33 σ x1 x2 x3 x4 x6 x8 → ck_H G s H locs σ → lv_has ls 11 [(0, .ref (ck_ad G 10 0)), (1, .int x1), (2, .int x2), (3, .int x3), (4, .long x4), (6, .long x6), (8, .int x8)] → W p l e ({ frames := 1, cells := 0, slots := 0, locals := 24 } : Room) s m args below meth c H locs 0 0 (MQ below (va_Qi post (ck_Q G) (ck_A G s.heap.size)) args s 0 0 (ck_A G s.heap.size)) (F0 m 33 ls [])) {σ : ck_S} {x1 : Int32} {x2 : Int32} {x3 : Int32} {x4 : Int64} {x8 : Int32} {s0 : Int64} {H : Heap} {locs : List Loc} {ls : Array Slot} (h : sp_X7_isStuck_114 (ck_nc G) (ck_nb G) post K33 σ x1 x2 x3 x4 x8 s0) (hw : ck_H G s H locs σ) (hl : lv_has ls 11 [(0, .ref (ck_ad G 10 0)), (1, .int x1), (2, .int x2), (3, .int x3), (4, .long x4), (8, .int x8)]) : W p l e ({ frames := 1, cells := 0, slots := 0, locals := 24 } : Room) s m args below meth c H locs 0 0 (MQ below (va_Qi post (ck_Q G) (ck_A G s.heap.size)) args s 0 0 (ck_A G s.heap.size)) (F0 m 114 ls [.long s0]) := by
  obtain ⟨hx, hb, hr, hml, hown, hts, hlocks⟩ := id X
  have inX7 : ∀ w ∈ wsX70, w ∈ wsX7_isStuck := fun _ h => List.mem_cons_of_mem _ (List.mem_append_right _ (h))
  unfold sp_X7_isStuck_114 at h
  refine lv_lstore (lv' := [(6, .long s0), (0, .ref (ck_ad G 10 0)), (1, .int x1), (2, .int x2), (3, .int x3), (4, .long x4), (8, .int x8)]) hx hb dX7_isStuck_114 hl (by decide) rfl (fun ls hl => ?_)
  obtain ⟨x_1, ex_1⟩ : ∃ z : Int32, z = x8 + 1 := ⟨_, rfl⟩
  have h := h x_1 ex_1
  refine lv_iinc (v := x_1) (lv' := [(8, .int x_1), (6, .long s0), (0, .ref (ck_ad G 10 0)), (1, .int x1), (2, .int x2), (3, .int x3), (4, .long x4)]) hx hb dX7_isStuck_116 hl (k := 6) rfl (by rw [ex_1]; rfl) (by decide) rfl (fun ls hl => ?_)
  refine lv_goto (tgt := 33) hx hb dX7_isStuck_119 (by decide) ?_
  exact hK33 _ _ _ _ _ _ _ _ _ _ h hw (lv_sub hl [2, 3, 4, 5, 6, 1, 0] rfl)
set_option maxHeartbeats 4000000 in
set_option maxRecDepth 100000 in
theorem wk_X7_isStuck_97 {p : Program} {l : Launch} {e : Env} {s : State} {m : MethodId} {args : Array Value} {below : List Frame} {meth : Method} {c : Code} {G : ck_G} (X : ck_X p s m meth c args cX7_isStuck 11 (some .boolean) RX7 wsX7_isStuck) (hM : ck_inM G) {post : Int32 → ck_S → Prop} {K33 : ck_S → Int32 → Int32 → Int32 → Int64 → Int64 → Int32 → Prop} (hK33 : ∀ (σ : ck_S) (x1 : Int32) (x2 : Int32) (x3 : Int32) (x4 : Int64) (x6 : Int64) (x8 : Int32) (H : Heap) (locs : List Loc) (ls : Array Slot), K33 σ x1 x2 x3 x4 x6 x8 → ck_H G s H locs σ → lv_has ls 11 [(0, .ref (ck_ad G 10 0)), (1, .int x1), (2, .int x2), (3, .int x3), (4, .long x4), (6, .long x6), (8, .int x8)] → W p l e ({ frames := 1, cells := 0, slots := 0, locals := 24 } : Room) s m args below meth c H locs 0 0 (MQ below (va_Qi post (ck_Q G) (ck_A G s.heap.size)) args s 0 0 (ck_A G s.heap.size)) (F0 m 33 ls [])) {σ : ck_S} {x1 : Int32} {x2 : Int32} {x3 : Int32} {x6 : Int64} {x8 : Int32} {x9 : Int64} {s0 : Int64} {H : Heap} {locs : List Loc} {ls : Array Slot} (h : sp_X7_isStuck_97 (ck_nc G) (ck_nb G) post K33 σ x1 x2 x3 x6 x8 x9 s0) (hw : ck_H G s H locs σ) (hl : lv_has ls 11 [(0, .ref (ck_ad G 10 0)), (1, .int x1), (2, .int x2), (3, .int x3), (6, .long x6), (8, .int x8), (9, .long x9)]) : W p l e ({ frames := 1, cells := 0, slots := 0, locals := 24 } : Room) s m args below meth c H locs 0 0 (MQ below (va_Qi post (ck_Q G) (ck_A G s.heap.size)) args s 0 0 (ck_A G s.heap.size)) (F0 m 97 ls [.long s0]) := by
  obtain ⟨hx, hb, hr, hml, hown, hts, hlocks⟩ := id X
  have inX7 : ∀ w ∈ wsX70, w ∈ wsX7_isStuck := fun _ h => List.mem_cons_of_mem _ (List.mem_append_right _ (h))
  unfold sp_X7_isStuck_97 at h
  refine lv_lstore (lv' := [(4, .long s0), (0, .ref (ck_ad G 10 0)), (1, .int x1), (2, .int x2), (3, .int x3), (6, .long x6), (8, .int x8), (9, .long x9)]) hx hb dX7_isStuck_97 hl (by decide) rfl (fun ls hl => ?_)
  refine lv_lload hx hb dX7_isStuck_99 (lv_at hl 7 rfl) ?_
  refine lv_lload hx hb dX7_isStuck_101 (lv_at hl 5 rfl) ?_
  refine W.lcmp hx hb dX7_isStuck_103 ?_
  obtain ⟨hA, hB⟩ := h
  refine lv_if_le (tgt := 112) hx hb dX7_isStuck_104 (by decide) (fun c1 => ?_) (fun c1 => ?_)
  · have h := hA c1
    refine lv_lload hx hb dX7_isStuck_112 (lv_at hl 5 rfl) ?_
    exact wk_X7_isStuck_114 X hM hK33 h hw (lv_sub hl [1, 2, 3, 4, 0, 6] rfl)
  · have h := hB c1
    refine lv_lload hx hb dX7_isStuck_107 (lv_at hl 7 rfl) ?_
    refine lv_goto (tgt := 114) hx hb dX7_isStuck_109 (by decide) ?_
    exact wk_X7_isStuck_114 X hM hK33 h hw (lv_sub hl [1, 2, 3, 4, 0, 6] rfl)
set_option maxHeartbeats 4000000 in
set_option maxRecDepth 100000 in
theorem wk_X7_isStuck_67 {p : Program} {l : Launch} {e : Env} {s : State} {m : MethodId} {args : Array Value} {below : List Frame} {meth : Method} {c : Code} {G : ck_G} (X : ck_X p s m meth c args cX7_isStuck 11 (some .boolean) RX7 wsX7_isStuck) (hM : ck_inM G) {post : Int32 → ck_S → Prop} {K33 : ck_S → Int32 → Int32 → Int32 → Int64 → Int64 → Int32 → Prop} (hK33 : ∀ (σ : ck_S) (x1 : Int32) (x2 : Int32) (x3 : Int32) (x4 : Int64) (x6 : Int64) (x8 : Int32) (H : Heap) (locs : List Loc) (ls : Array Slot), K33 σ x1 x2 x3 x4 x6 x8 → ck_H G s H locs σ → lv_has ls 11 [(0, .ref (ck_ad G 10 0)), (1, .int x1), (2, .int x2), (3, .int x3), (4, .long x4), (6, .long x6), (8, .int x8)] → W p l e ({ frames := 1, cells := 0, slots := 0, locals := 24 } : Room) s m args below meth c H locs 0 0 (MQ below (va_Qi post (ck_Q G) (ck_A G s.heap.size)) args s 0 0 (ck_A G s.heap.size)) (F0 m 33 ls [])) {σ : ck_S} {x1 : Int32} {x2 : Int32} {x4 : Int64} {x6 : Int64} {x8 : Int32} {s0 : Int32} {H : Heap} {locs : List Loc} {ls : Array Slot} (h : sp_X7_isStuck_67 (ck_nc G) (ck_nb G) post K33 σ x1 x2 x4 x6 x8 s0) (hw : ck_H G s H locs σ) (hl : lv_has ls 11 [(0, .ref (ck_ad G 10 0)), (1, .int x1), (2, .int x2), (4, .long x4), (6, .long x6), (8, .int x8)]) : W p l e ({ frames := 1, cells := 0, slots := 0, locals := 24 } : Room) s m args below meth c H locs 0 0 (MQ below (va_Qi post (ck_Q G) (ck_A G s.heap.size)) args s 0 0 (ck_A G s.heap.size)) (F0 m 67 ls [.int s0]) := by
  obtain ⟨hx, hb, hr, hml, hown, hts, hlocks⟩ := id X
  have inX7 : ∀ w ∈ wsX70, w ∈ wsX7_isStuck := fun _ h => List.mem_cons_of_mem _ (List.mem_append_right _ (h))
  unfold sp_X7_isStuck_67 at h
  refine lv_istore_n (lv' := [(3, .int s0), (0, .ref (ck_ad G 10 0)), (1, .int x1), (2, .int x2), (4, .long x4), (6, .long x6), (8, .int x8)]) hx hb dX7_isStuck_67 rfl hl (by decide) rfl (fun ls hl => ?_)
  refine lv_aload_n hx hb dX7_isStuck_68 rfl (lv_at hl 1 rfl) ?_
  refine ck_get hx hb hts inX7 hown hw (hM 10 (by decide) (by decide)) rfl rfl 19 (by decide) (hts _ (List.mem_of_getElem? (i := 2) rfl)) rfl dX7_isStuck_69 ?_
  refine lv_bipush (v := 8) hx hb dX7_isStuck_72 (by decide) ?_
  refine lv_iload_n hx hb dX7_isStuck_74 rfl (lv_at hl 2 rfl) ?_
  refine lv_imul hx hb dX7_isStuck_75 ?_
  refine lv_iload hx hb dX7_isStuck_76 (lv_at hl 6 rfl) ?_
  refine lv_iadd hx hb dX7_isStuck_78 ?_
  refine lv_topi (fun x_1 ex_1 => ?_)
  have h := h x_1 ex_1
  obtain ⟨n2, h⟩ := h
  refine ck_lald hx hb hw (hM 15 (by decide) (by decide)) rfl n2 dX7_isStuck_79 ?_
  refine lv_topl (fun y_3 ey_3 => ?_)
  have h := h y_3 ey_3
  refine lv_lstore (lv' := [(9, .long y_3), (3, .int s0), (0, .ref (ck_ad G 10 0)), (1, .int x1), (2, .int x2), (4, .long x4), (6, .long x6), (8, .int x8)]) hx hb dX7_isStuck_80 hl (by decide) rfl (fun ls hl => ?_)
  refine lv_lload hx hb dX7_isStuck_82 (lv_at hl 0 rfl) ?_
  refine lv_lload hx hb dX7_isStuck_84 (lv_at hl 5 rfl) ?_
  refine W.lcmp hx hb dX7_isStuck_86 ?_
  obtain ⟨hA, hB⟩ := h
  refine lv_if_ge (tgt := 95) hx hb dX7_isStuck_87 (by decide) (fun c4 => ?_) (fun c4 => ?_)
  · have h := hA c4
    refine lv_lload hx hb dX7_isStuck_95 (lv_at hl 5 rfl) ?_
    exact wk_X7_isStuck_97 X hM hK33 h hw (lv_sub hl [2, 3, 4, 1, 6, 7, 0] rfl)
  · have h := hB c4
    refine lv_lload hx hb dX7_isStuck_90 (lv_at hl 0 rfl) ?_
    refine lv_goto (tgt := 97) hx hb dX7_isStuck_92 (by decide) ?_
    exact wk_X7_isStuck_97 X hM hK33 h hw (lv_sub hl [2, 3, 4, 1, 6, 7, 0] rfl)
set_option maxHeartbeats 4000000 in
set_option maxRecDepth 100000 in
theorem wk_X7_isStuck_66 {p : Program} {l : Launch} {e : Env} {s : State} {m : MethodId} {args : Array Value} {below : List Frame} {meth : Method} {c : Code} {G : ck_G} (X : ck_X p s m meth c args cX7_isStuck 11 (some .boolean) RX7 wsX7_isStuck) (hM : ck_inM G) {post : Int32 → ck_S → Prop} {K33 : ck_S → Int32 → Int32 → Int32 → Int64 → Int64 → Int32 → Prop} (hK33 : ∀ (σ : ck_S) (x1 : Int32) (x2 : Int32) (x3 : Int32) (x4 : Int64) (x6 : Int64) (x8 : Int32) (H : Heap) (locs : List Loc) (ls : Array Slot), K33 σ x1 x2 x3 x4 x6 x8 → ck_H G s H locs σ → lv_has ls 11 [(0, .ref (ck_ad G 10 0)), (1, .int x1), (2, .int x2), (3, .int x3), (4, .long x4), (6, .long x6), (8, .int x8)] → W p l e ({ frames := 1, cells := 0, slots := 0, locals := 24 } : Room) s m args below meth c H locs 0 0 (MQ below (va_Qi post (ck_Q G) (ck_A G s.heap.size)) args s 0 0 (ck_A G s.heap.size)) (F0 m 33 ls [])) {σ : ck_S} {x1 : Int32} {x2 : Int32} {x4 : Int64} {x6 : Int64} {x8 : Int32} {H : Heap} {locs : List Loc} {ls : Array Slot} (h : sp_X7_isStuck_66 (ck_nc G) (ck_nb G) post K33 σ x1 x2 x4 x6 x8) (hw : ck_H G s H locs σ) (hl : lv_has ls 11 [(0, .ref (ck_ad G 10 0)), (1, .int x1), (2, .int x2), (4, .long x4), (6, .long x6), (8, .int x8)]) : W p l e ({ frames := 1, cells := 0, slots := 0, locals := 24 } : Room) s m args below meth c H locs 0 0 (MQ below (va_Qi post (ck_Q G) (ck_A G s.heap.size)) args s 0 0 (ck_A G s.heap.size)) (F0 m 66 ls []) := by
  obtain ⟨hx, hb, hr, hml, hown, hts, hlocks⟩ := id X
  have inX7 : ∀ w ∈ wsX70, w ∈ wsX7_isStuck := fun _ h => List.mem_cons_of_mem _ (List.mem_append_right _ (h))
  unfold sp_X7_isStuck_66 at h
  refine lv_iconst (v := 0) hx hb dX7_isStuck_66 (by decide) ?_
  exact wk_X7_isStuck_67 X hM hK33 h hw (lv_sub hl [0, 1, 2, 3, 4, 5] rfl)
set_option maxHeartbeats 4000000 in
set_option maxRecDepth 100000 in
theorem wk_X7_isStuck_33 {p : Program} {l : Launch} {e : Env} {s : State} {m : MethodId} {args : Array Value} {below : List Frame} {meth : Method} {c : Code} {G : ck_G} (X : ck_X p s m meth c args cX7_isStuck 11 (some .boolean) RX7 wsX7_isStuck) (hM : ck_inM G) {post : Int32 → ck_S → Prop} : ∀ (fu : Nat) (σ : ck_S) (x1 : Int32) (x2 : Int32) (x3 : Int32) (x4 : Int64) (x6 : Int64) (x8 : Int32) (H : Heap) (locs : List Loc) (ls : Array Slot), lk_7 (bd_X7_isStuck_33 (ck_nc G) (ck_nb G) post) fu σ x1 x2 x3 x4 x6 x8 → ck_H G s H locs σ → lv_has ls 11 [(0, .ref (ck_ad G 10 0)), (1, .int x1), (2, .int x2), (3, .int x3), (4, .long x4), (6, .long x6), (8, .int x8)] → W p l e ({ frames := 1, cells := 0, slots := 0, locals := 24 } : Room) s m args below meth c H locs 0 0 (MQ below (va_Qi post (ck_Q G) (ck_A G s.heap.size)) args s 0 0 (ck_A G s.heap.size)) (F0 m 33 ls []) := by
  obtain ⟨hx, hb, hr, hml, hown, hts, hlocks⟩ := id X
  have inX7 : ∀ w ∈ wsX70, w ∈ wsX7_isStuck := fun _ h => List.mem_cons_of_mem _ (List.mem_append_right _ (h))
  intro fu
  induction fu with
  | zero => intro σ x1 x2 x3 x4 x6 x8 H locs ls h hw hl; exact h.elim
  | succ fu hK33 =>
    intro σ x1 x2 x3 x4 x6 x8 H locs ls h hw hl
    have h : bd_X7_isStuck_33 (ck_nc G) (ck_nb G) post (lk_7 (bd_X7_isStuck_33 (ck_nc G) (ck_nb G) post) fu) σ x1 x2 x3 x4 x6 x8 := h
    unfold bd_X7_isStuck_33 at h
    refine lv_iload hx hb dX7_isStuck_33 (lv_at hl 6 rfl) ?_
    refine lv_bipush (v := 8) hx hb dX7_isStuck_35 (by decide) ?_
    obtain ⟨hA, hB⟩ := h
    refine lv_icmp_ge (tgt := 122) hx hb dX7_isStuck_37 (by decide) (fun c1 => ?_) (fun c1 => ?_)
    · have h := hA c1
      refine lv_iload_n hx hb dX7_isStuck_122 rfl (lv_at hl 3 rfl) ?_
      obtain ⟨hA, hB⟩ := h
      refine lv_if_eq (tgt := 142) hx hb dX7_isStuck_123 (by decide) (fun c2 => ?_) (fun c2 => ?_)
      · have h := hA c2
        refine lv_iconst (v := 0) hx hb dX7_isStuck_142 (by decide) ?_
        exact ck_zret X hw h dX7_isStuck_143
      · have h := hB c2
        refine lv_lload hx hb dX7_isStuck_126 (lv_at hl 5 rfl) ?_
        refine lv_lload hx hb dX7_isStuck_128 (lv_at hl 4 rfl) ?_
        refine lv_lsub hx hb dX7_isStuck_130 ?_
        refine lv_ldc2 hx hb hown (hts _ (List.mem_of_getElem? (i := 3) rfl)) dX7_isStuck_131 ?_
        refine W.lcmp hx hb dX7_isStuck_134 ?_
        obtain ⟨hA, hB⟩ := h
        refine lv_if_le (tgt := 142) hx hb dX7_isStuck_135 (by decide) (fun c3 => ?_) (fun c3 => ?_)
        · have h := hA c3
          refine lv_iconst (v := 0) hx hb dX7_isStuck_142 (by decide) ?_
          exact ck_zret X hw h dX7_isStuck_143
        · have h := hB c3
          refine lv_iconst (v := 1) hx hb dX7_isStuck_138 (by decide) ?_
          refine lv_goto (tgt := 143) hx hb dX7_isStuck_139 (by decide) ?_
          exact ck_zret X hw h dX7_isStuck_143
    · have h := hB c1
      refine lv_iload_n hx hb dX7_isStuck_40 rfl (lv_at hl 3 rfl) ?_
      obtain ⟨hA, hB⟩ := h
      refine lv_if_eq (tgt := 66) hx hb dX7_isStuck_41 (by decide) (fun c4 => ?_) (fun c4 => ?_)
      · have h := hA c4
        exact wk_X7_isStuck_66 X hM hK33 h hw (lv_sub hl [0, 1, 2, 4, 5, 6] rfl)
      · have h := hB c4
        refine lv_aload_n hx hb dX7_isStuck_44 rfl (lv_at hl 0 rfl) ?_
        refine lv_iload_n hx hb dX7_isStuck_45 rfl (lv_at hl 1 rfl) ?_
        refine lv_iload_n hx hb dX7_isStuck_46 rfl (lv_at hl 2 rfl) ?_
        refine lv_iload hx hb dX7_isStuck_47 (lv_at hl 6 rfl) ?_
        refine ck_callVi (rest := []) ⟨hx, hb, hml, hown, hts⟩ hw (hM 10 (by decide) (by decide)) rfl rfl (ct_X7_numberOf l G hM h) (cwV 3 hts gX7_isStuck_X7_numberOf rfl rfl rfl (by decide +kernel) ⟨(Nat.le_of_ble_eq_true rfl), (Nat.le_of_ble_eq_true rfl)⟩) rfl hl.1 rfl (Nat.le_of_ble_eq_true rfl) dX7_isStuck_49 ⟨(Nat.le_of_ble_eq_true rfl), (Nat.le_of_ble_eq_true rfl)⟩ (fun x_6 σ5 H locs h hw => ?_)
        refine lv_aload_n hx hb dX7_isStuck_52 rfl (lv_at hl 0 rfl) ?_
        refine lv_iload_n hx hb dX7_isStuck_53 rfl (lv_at hl 1 rfl) ?_
        refine lv_iload_n hx hb dX7_isStuck_54 rfl (lv_at hl 2 rfl) ?_
        refine lv_iconst (v := 0) hx hb dX7_isStuck_55 (by decide) ?_
        refine ck_callVi (rest := [.int x_6]) ⟨hx, hb, hml, hown, hts⟩ hw (hM 10 (by decide) (by decide)) rfl rfl (ct_X7_numberOf l G hM h) (cwV 3 hts gX7_isStuck_X7_numberOf rfl rfl rfl (by decide +kernel) ⟨(Nat.le_of_ble_eq_true rfl), (Nat.le_of_ble_eq_true rfl)⟩) rfl hl.1 rfl (Nat.le_of_ble_eq_true rfl) dX7_isStuck_56 ⟨(Nat.le_of_ble_eq_true rfl), (Nat.le_of_ble_eq_true rfl)⟩ (fun x_8 σ7 H locs h hw => ?_)
        obtain ⟨hA, hB⟩ := h
        refine lv_icmp_ne (tgt := 66) hx hb dX7_isStuck_59 (by decide) (fun c9 => ?_) (fun c9 => ?_)
        · have h := hA c9
          exact wk_X7_isStuck_66 X hM hK33 h hw (lv_sub hl [0, 1, 2, 4, 5, 6] rfl)
        · have h := hB c9
          refine lv_iconst (v := 1) hx hb dX7_isStuck_62 (by decide) ?_
          refine lv_goto (tgt := 67) hx hb dX7_isStuck_63 (by decide) ?_
          exact wk_X7_isStuck_67 X hM hK33 h hw (lv_sub hl [0, 1, 2, 4, 5, 6] rfl)
set_option maxHeartbeats 4000000 in
set_option maxRecDepth 100000 in
theorem wk_X7_isStuck_0 {p : Program} {l : Launch} {e : Env} {s : State} {m : MethodId} {args : Array Value} {below : List Frame} {meth : Method} {c : Code} {G : ck_G} (X : ck_X p s m meth c args cX7_isStuck 11 (some .boolean) RX7 wsX7_isStuck) (hM : ck_inM G) {post : Int32 → ck_S → Prop} {σ : ck_S} {a0 : Int32} {a1 : Int32} {H : Heap} {locs : List Loc} {ls : Array Slot} (h : sp_X7_isStuck (ck_nc G) (ck_nb G) σ a0 a1 post) (hw : ck_H G s H locs σ) (hl : lv_has ls 11 [(0, .ref (ck_ad G 10 0)), (1, .int a0), (2, .int a1)]) : W p l e ({ frames := 1, cells := 0, slots := 0, locals := 24 } : Room) s m args below meth c H locs 0 0 (MQ below (va_Qi post (ck_Q G) (ck_A G s.heap.size)) args s 0 0 (ck_A G s.heap.size)) (F0 m 0 ls []) := by
  obtain ⟨hx, hb, hr, hml, hown, hts, hlocks⟩ := id X
  have inX7 : ∀ w ∈ wsX70, w ∈ wsX7_isStuck := fun _ h => List.mem_cons_of_mem _ (List.mem_append_right _ (h))
  unfold sp_X7_isStuck at h
  refine lv_aload_n hx hb dX7_isStuck_0 rfl (lv_at hl 0 rfl) ?_
  refine ck_get hx hb hts inX7 hown hw (hM 10 (by decide) (by decide)) rfl rfl 21 (by decide) (hts _ (List.mem_of_getElem? (i := 1) rfl)) rfl dX7_isStuck_1 ?_
  refine lv_iload_n hx hb dX7_isStuck_4 rfl (lv_at hl 1 rfl) ?_
  obtain ⟨n1, h⟩ := h
  refine ck_iald hx hb hw (hM 17 (by decide) (by decide)) rfl n1 dX7_isStuck_5 ?_
  refine lv_bipush (v := 8) hx hb dX7_isStuck_6 (by decide) ?_
  obtain ⟨hA, hB⟩ := h
  refine lv_icmp_ge (tgt := 13) hx hb dX7_isStuck_8 (by decide) (fun c2 => ?_) (fun c2 => ?_)
  · have h := hA c2
    refine lv_iconst (v := 1) hx hb dX7_isStuck_13 (by decide) ?_
    refine lv_istore_n (lv' := [(3, .int 1), (0, .ref (ck_ad G 10 0)), (1, .int a0), (2, .int a1)]) hx hb dX7_isStuck_14 rfl hl (by decide) rfl (fun ls hl => ?_)
    refine lv_aload_n hx hb dX7_isStuck_15 rfl (lv_at hl 1 rfl) ?_
    refine ck_get hx hb hts inX7 hown hw (hM 10 (by decide) (by decide)) rfl rfl 19 (by decide) (hts _ (List.mem_of_getElem? (i := 2) rfl)) rfl dX7_isStuck_16 ?_
    refine lv_bipush (v := 8) hx hb dX7_isStuck_19 (by decide) ?_
    refine lv_iload_n hx hb dX7_isStuck_21 rfl (lv_at hl 2 rfl) ?_
    refine lv_imul hx hb dX7_isStuck_22 ?_
    refine lv_topi (fun x_3 ex_3 => ?_)
    have h := h x_3 ex_3
    obtain ⟨n4, h⟩ := h
    refine ck_lald hx hb hw (hM 15 (by decide) (by decide)) rfl n4 dX7_isStuck_23 ?_
    refine lv_topl (fun y_5 ey_5 => ?_)
    have h := h y_5 ey_5
    refine lv_lstore (lv' := [(4, .long y_5), (3, .int 1), (0, .ref (ck_ad G 10 0)), (1, .int a0), (2, .int a1)]) hx hb dX7_isStuck_24 hl (by decide) rfl (fun ls hl => ?_)
    refine lv_lload hx hb dX7_isStuck_26 (lv_at hl 0 rfl) ?_
    refine lv_lstore (lv' := [(6, .long y_5), (4, .long y_5), (3, .int 1), (0, .ref (ck_ad G 10 0)), (1, .int a0), (2, .int a1)]) hx hb dX7_isStuck_28 hl (by decide) rfl (fun ls hl => ?_)
    refine lv_iconst (v := 0) hx hb dX7_isStuck_30 (by decide) ?_
    refine lv_istore (lv' := [(8, .int 0), (6, .long y_5), (4, .long y_5), (3, .int 1), (0, .ref (ck_ad G 10 0)), (1, .int a0), (2, .int a1)]) hx hb dX7_isStuck_31 hl (by decide) rfl (fun ls hl => ?_)
    obtain ⟨fu, h⟩ := h
    exact wk_X7_isStuck_33 X hM fu _ _ _ _ _ _ _ _ _ _ h hw (lv_sub hl [4, 5, 6, 3, 2, 1, 0] rfl)
  · have h := hB c2
    refine lv_iconst (v := 0) hx hb dX7_isStuck_11 (by decide) ?_
    exact ck_zret X hw h dX7_isStuck_12
set_option maxHeartbeats 4000000 in
set_option maxRecDepth 100000 in
theorem ct_X7_isStuck (l : Launch) (G : ck_G) (hM : ck_inM G) {a0 : Int32} {a1 : Int32} {σ : ck_S} {post : Int32 → ck_S → Prop} (h : sp_X7_isStuck (ck_nc G) (ck_nb G) σ a0 a1 post) : ck_Mi l yX7_isStuck wsX7_isStuck ({ frames := 1, cells := 0, slots := 0, locals := 24 } : Room) G σ [.ref (ck_ad G 10 0), .int a0, .int a1] post := by
  intro sz
  refine Met.ofW (cc := cX7_isStuck) (maxL := 11) (ret := (some .boolean)) (by decide) rfl ?_
  intro p e s m args below meth c s₁ B hml hv
  obtain ⟨rfl, rfl, hw⟩ := ck_enter hv
  have hl := lv_entry ([.ref (ck_ad G 10 0), .int a0, .int a1]) (n := 11) (Nat.le_of_ble_eq_true rfl)
  rw [lg_entry_eq]
  generalize (lg_sl ([.ref (ck_ad G 10 0), .int a0, .int a1]) ++ List.replicate (11 - (lg_sl ([.ref (ck_ad G 10 0), .int a0, .int a1])).length) Slot.unset).toArray = ls at hl ⊢
  have hl : lv_has ls 11 [(0, .ref (ck_ad G 10 0)), (1, .int a0), (2, .int a1)] := hl
  exact wk_X7_isStuck_0 ⟨B.exec, B.bytes, B.returns, hml, findClass_of_methodNamed B.named, atoms_spec (ws := wsX7_isStuck) B.pre, B.notSynchronized⟩ hM h hw hl
def sp_X7_isValid (nc nb : Nat) (σ : ck_S) (a0 : Int32) (a1 : Int32) (post : Int32 → ck_S → Prop) : Prop := sp_X7_isStale nc nb σ a0 (fun x_2 σ1 => ((x_2 = 0 → (sp_X7_numberOf nc nb σ1 a0 a1 0 (fun x_5 σ4 => ((x_5 < 500 → ((ck_b 0 ∧ post 0 σ4))) ∧ (¬ x_5 < 500 → (((4999 < x_5 → ((ck_b 0 ∧ post 0 σ4))) ∧ (¬ 4999 < x_5 → ((vp_in a0 4) ∧ ((¬ (((ck_gi σ4 16 0 (Int32.toNatClampNeg a0)) >>> (a1 &&& 31)) &&& 1) = 0 → ((ck_b 0 ∧ post 0 σ4))) ∧ ((((ck_gi σ4 16 0 (Int32.toNatClampNeg a0)) >>> (a1 &&& 31)) &&& 1) = 0 → (sp_X7_isStuck nc nb σ4 a0 a1 (fun x_11 σ10 => ((¬ x_11 = 0 → ((ck_b 0 ∧ post 0 σ10))) ∧ (x_11 = 0 → ((ck_b 1 ∧ post 1 σ10))))))))))))))))) ∧ (¬ x_2 = 0 → ((ck_b 0 ∧ post 0 σ1)))))
set_option maxHeartbeats 4000000 in
set_option maxRecDepth 100000 in
theorem wk_X7_isValid_0 {p : Program} {l : Launch} {e : Env} {s : State} {m : MethodId} {args : Array Value} {below : List Frame} {meth : Method} {c : Code} {G : ck_G} (X : ck_X p s m meth c args cX7_isValid 4 (some .boolean) RX7 wsX7_isValid) (hM : ck_inM G) {post : Int32 → ck_S → Prop} {σ : ck_S} {a0 : Int32} {a1 : Int32} {H : Heap} {locs : List Loc} {ls : Array Slot} (h : sp_X7_isValid (ck_nc G) (ck_nb G) σ a0 a1 post) (hw : ck_H G s H locs σ) (hl : lv_has ls 4 [(0, .ref (ck_ad G 10 0)), (1, .int a0), (2, .int a1)]) : W p l e ({ frames := 2, cells := 0, slots := 0, locals := 54 } : Room) s m args below meth c H locs 0 0 (MQ below (va_Qi post (ck_Q G) (ck_A G s.heap.size)) args s 0 0 (ck_A G s.heap.size)) (F0 m 0 ls []) := by
  obtain ⟨hx, hb, hr, hml, hown, hts, hlocks⟩ := id X
  have inX7 : ∀ w ∈ wsX70, w ∈ wsX7_isValid := fun _ h => List.mem_cons_of_mem _ (List.mem_append_right _ (h))
  unfold sp_X7_isValid at h
  refine lv_aload_n hx hb dX7_isValid_0 rfl (lv_at hl 0 rfl) ?_
  refine lv_iload_n hx hb dX7_isValid_1 rfl (lv_at hl 1 rfl) ?_
  refine ck_callVi (rest := []) ⟨hx, hb, hml, hown, hts⟩ hw (hM 10 (by decide) (by decide)) rfl rfl (ct_X7_isStale l G hM h) (cwV 1 hts gX7_isValid_X7_isStale rfl rfl rfl (by decide +kernel) ⟨(Nat.le_of_ble_eq_true rfl), (Nat.le_of_ble_eq_true rfl)⟩) rfl hl.1 rfl (Nat.le_of_ble_eq_true rfl) dX7_isValid_2 ⟨(Nat.le_of_ble_eq_true rfl), (Nat.le_of_ble_eq_true rfl)⟩ (fun x_2 σ1 H locs h hw => ?_)
  obtain ⟨hA, hB⟩ := h
  refine lv_if_eq (tgt := 10) hx hb dX7_isValid_5 (by decide) (fun c3 => ?_) (fun c3 => ?_)
  · have h := hA c3
    refine lv_aload_n hx hb dX7_isValid_10 rfl (lv_at hl 0 rfl) ?_
    refine lv_iload_n hx hb dX7_isValid_11 rfl (lv_at hl 1 rfl) ?_
    refine lv_iload_n hx hb dX7_isValid_12 rfl (lv_at hl 2 rfl) ?_
    refine lv_iconst (v := 0) hx hb dX7_isValid_13 (by decide) ?_
    refine ck_callVi (rest := []) ⟨hx, hb, hml, hown, hts⟩ hw (hM 10 (by decide) (by decide)) rfl rfl (ct_X7_numberOf l G hM h) (cwV 3 hts gX7_isValid_X7_numberOf rfl rfl rfl (by decide +kernel) ⟨(Nat.le_of_ble_eq_true rfl), (Nat.le_of_ble_eq_true rfl)⟩) rfl hl.1 rfl (Nat.le_of_ble_eq_true rfl) dX7_isValid_14 ⟨(Nat.le_of_ble_eq_true rfl), (Nat.le_of_ble_eq_true rfl)⟩ (fun x_5 σ4 H locs h hw => ?_)
    refine lv_istore_n (lv' := [(3, .int x_5), (0, .ref (ck_ad G 10 0)), (1, .int a0), (2, .int a1)]) hx hb dX7_isValid_17 rfl hl (by decide) rfl (fun ls hl => ?_)
    refine lv_iload_n hx hb dX7_isValid_18 rfl (lv_at hl 0 rfl) ?_
    refine lv_sipush (v := 500) hx hb dX7_isValid_19 (by decide) ?_
    obtain ⟨hA, hB⟩ := h
    refine lv_icmp_lt (tgt := 58) hx hb dX7_isValid_22 (by decide) (fun c6 => ?_) (fun c6 => ?_)
    · have h := hA c6
      refine lv_iconst (v := 0) hx hb dX7_isValid_58 (by decide) ?_
      exact ck_zret X hw h dX7_isValid_59
    · have h := hB c6
      refine lv_iload_n hx hb dX7_isValid_25 rfl (lv_at hl 0 rfl) ?_
      refine lv_sipush (v := 4999) hx hb dX7_isValid_26 (by decide) ?_
      obtain ⟨hA, hB⟩ := h
      refine lv_icmp_gt (tgt := 58) hx hb dX7_isValid_29 (by decide) (fun c7 => ?_) (fun c7 => ?_)
      · have h := hA c7
        refine lv_iconst (v := 0) hx hb dX7_isValid_58 (by decide) ?_
        exact ck_zret X hw h dX7_isValid_59
      · have h := hB c7
        refine lv_aload_n hx hb dX7_isValid_32 rfl (lv_at hl 1 rfl) ?_
        refine ck_get hx hb hts inX7 hown hw (hM 10 (by decide) (by decide)) rfl rfl 20 (by decide) (hts _ (List.mem_of_getElem? (i := 1) rfl)) rfl dX7_isValid_33 ?_
        refine lv_iload_n hx hb dX7_isValid_36 rfl (lv_at hl 2 rfl) ?_
        obtain ⟨n8, h⟩ := h
        refine ck_iald hx hb hw (hM 16 (by decide) (by decide)) rfl n8 dX7_isValid_37 ?_
        refine lv_iload_n hx hb dX7_isValid_38 rfl (lv_at hl 3 rfl) ?_
        refine lv_ishr hx hb dX7_isValid_39 ?_
        refine lv_iconst (v := 1) hx hb dX7_isValid_40 (by decide) ?_
        refine lv_iand hx hb dX7_isValid_41 ?_
        obtain ⟨hA, hB⟩ := h
        refine lv_if_ne (tgt := 58) hx hb dX7_isValid_42 (by decide) (fun c9 => ?_) (fun c9 => ?_)
        · have h := hA c9
          refine lv_iconst (v := 0) hx hb dX7_isValid_58 (by decide) ?_
          exact ck_zret X hw h dX7_isValid_59
        · have h := hB c9
          refine lv_aload_n hx hb dX7_isValid_45 rfl (lv_at hl 1 rfl) ?_
          refine lv_iload_n hx hb dX7_isValid_46 rfl (lv_at hl 2 rfl) ?_
          refine lv_iload_n hx hb dX7_isValid_47 rfl (lv_at hl 3 rfl) ?_
          refine ck_callVi (rest := []) ⟨hx, hb, hml, hown, hts⟩ hw (hM 10 (by decide) (by decide)) rfl rfl (ct_X7_isStuck l G hM h) (cwV 2 hts gX7_isValid_X7_isStuck rfl rfl rfl (by decide +kernel) ⟨(Nat.le_of_ble_eq_true rfl), (Nat.le_of_ble_eq_true rfl)⟩) rfl hl.1 rfl (Nat.le_of_ble_eq_true rfl) dX7_isValid_48 ⟨(Nat.le_of_ble_eq_true rfl), (Nat.le_of_ble_eq_true rfl)⟩ (fun x_11 σ10 H locs h hw => ?_)
          obtain ⟨hA, hB⟩ := h
          refine lv_if_ne (tgt := 58) hx hb dX7_isValid_51 (by decide) (fun c12 => ?_) (fun c12 => ?_)
          · have h := hA c12
            refine lv_iconst (v := 0) hx hb dX7_isValid_58 (by decide) ?_
            exact ck_zret X hw h dX7_isValid_59
          · have h := hB c12
            refine lv_iconst (v := 1) hx hb dX7_isValid_54 (by decide) ?_
            refine lv_goto (tgt := 59) hx hb dX7_isValid_55 (by decide) ?_
            exact ck_zret X hw h dX7_isValid_59
  · have h := hB c3
    refine lv_iconst (v := 0) hx hb dX7_isValid_8 (by decide) ?_
    exact ck_zret X hw h dX7_isValid_9
set_option maxHeartbeats 4000000 in
set_option maxRecDepth 100000 in
theorem ct_X7_isValid (l : Launch) (G : ck_G) (hM : ck_inM G) {a0 : Int32} {a1 : Int32} {σ : ck_S} {post : Int32 → ck_S → Prop} (h : sp_X7_isValid (ck_nc G) (ck_nb G) σ a0 a1 post) : ck_Mi l yX7_isValid wsX7_isValid ({ frames := 2, cells := 0, slots := 0, locals := 54 } : Room) G σ [.ref (ck_ad G 10 0), .int a0, .int a1] post := by
  intro sz
  refine Met.ofW (cc := cX7_isValid) (maxL := 4) (ret := (some .boolean)) (by decide) rfl ?_
  intro p e s m args below meth c s₁ B hml hv
  obtain ⟨rfl, rfl, hw⟩ := ck_enter hv
  have hl := lv_entry ([.ref (ck_ad G 10 0), .int a0, .int a1]) (n := 4) (Nat.le_of_ble_eq_true rfl)
  rw [lg_entry_eq]
  generalize (lg_sl ([.ref (ck_ad G 10 0), .int a0, .int a1]) ++ List.replicate (4 - (lg_sl ([.ref (ck_ad G 10 0), .int a0, .int a1])).length) Slot.unset).toArray = ls at hl ⊢
  have hl : lv_has ls 4 [(0, .ref (ck_ad G 10 0)), (1, .int a0), (2, .int a1)] := hl
  exact wk_X7_isValid_0 ⟨B.exec, B.bytes, B.returns, hml, findClass_of_methodNamed B.named, atoms_spec (ws := wsX7_isValid) B.pre, B.notSynchronized⟩ hM h hw hl
def sp_X7_areAllValid_39 (nc nb : Nat) (post : Int32 → ck_S → Prop) (K4 : ck_S → Int32 → Int32 → Prop) (σ : ck_S) (x2 : Int32) (s0 : Int32) : Prop := ∀ x_1, x_1 = x2 + 1 → K4 σ s0 x_1
def sp_X7_areAllValid_38 (nc nb : Nat) (post : Int32 → ck_S → Prop) (K4 : ck_S → Int32 → Int32 → Prop) (σ : ck_S) (x2 : Int32) : Prop := sp_X7_areAllValid_39 nc nb post K4 σ x2 0
def bd_X7_areAllValid_4 (nc nb : Nat) (post : Int32 → ck_S → Prop) (K4 : ck_S → Int32 → Int32 → Prop) (σ : ck_S) (x1 : Int32) (x2 : Int32) : Prop := (((6 * (ck_gi σ 10 0 1)) ≤ x2 → ((ck_b x1 ∧ post x1 σ))) ∧ (¬ (6 * (ck_gi σ 10 0 1)) ≤ x2 → (((x1 = 0 → (sp_X7_areAllValid_38 nc nb post K4 σ x2)) ∧ (¬ x1 = 0 → (sp_X7_isValid nc nb σ (x2 / 6) (x2 - x2 / 6 * 6) (fun x_4 σ3 => ((x_4 = 0 → (sp_X7_areAllValid_38 nc nb post K4 σ3 x2)) ∧ (¬ x_4 = 0 → (sp_X7_areAllValid_39 nc nb post K4 σ3 x2 1))))))))))
def sp_X7_areAllValid (nc nb : Nat) (σ : ck_S) (post : Int32 → ck_S → Prop) : Prop := lx_3 (bd_X7_areAllValid_4 nc nb post) σ 1 0
set_option maxHeartbeats 4000000 in
set_option maxRecDepth 100000 in
theorem wk_X7_areAllValid_39 {p : Program} {l : Launch} {e : Env} {s : State} {m : MethodId} {args : Array Value} {below : List Frame} {meth : Method} {c : Code} {G : ck_G} (X : ck_X p s m meth c args cX7_areAllValid 3 (some .boolean) RX7 wsX7_areAllValid) (hM : ck_inM G) {post : Int32 → ck_S → Prop} {K4 : ck_S → Int32 → Int32 → Prop} (hK4 : ∀ (σ : ck_S) (x1 : Int32) (x2 : Int32) (H : Heap) (locs : List Loc) (ls : Array Slot), K4 σ x1 x2 → ck_H G s H locs σ → lv_has ls 3 [(0, .ref (ck_ad G 10 0)), (1, .int x1), (2, .int x2)] → W p l e ({ frames := 3, cells := 0, slots := 0, locals := 77 } : Room) s m args below meth c H locs 0 0 (MQ below (va_Qi post (ck_Q G) (ck_A G s.heap.size)) args s 0 0 (ck_A G s.heap.size)) (F0 m 4 ls [])) {σ : ck_S} {x2 : Int32} {s0 : Int32} {H : Heap} {locs : List Loc} {ls : Array Slot} (h : sp_X7_areAllValid_39 (ck_nc G) (ck_nb G) post K4 σ x2 s0) (hw : ck_H G s H locs σ) (hl : lv_has ls 3 [(0, .ref (ck_ad G 10 0)), (2, .int x2)]) : W p l e ({ frames := 3, cells := 0, slots := 0, locals := 77 } : Room) s m args below meth c H locs 0 0 (MQ below (va_Qi post (ck_Q G) (ck_A G s.heap.size)) args s 0 0 (ck_A G s.heap.size)) (F0 m 39 ls [.int s0]) := by
  obtain ⟨hx, hb, hr, hml, hown, hts, hlocks⟩ := id X
  have inX7 : ∀ w ∈ wsX70, w ∈ wsX7_areAllValid := fun _ h => List.mem_cons_of_mem _ (List.mem_append_right _ (h))
  unfold sp_X7_areAllValid_39 at h
  refine lv_istore_n (lv' := [(1, .int s0), (0, .ref (ck_ad G 10 0)), (2, .int x2)]) hx hb dX7_areAllValid_39 rfl hl (by decide) rfl (fun ls hl => ?_)
  obtain ⟨x_1, ex_1⟩ : ∃ z : Int32, z = x2 + 1 := ⟨_, rfl⟩
  have h := h x_1 ex_1
  refine lv_iinc (v := x_1) (lv' := [(2, .int x_1), (1, .int s0), (0, .ref (ck_ad G 10 0))]) hx hb dX7_areAllValid_40 hl (k := 2) rfl (by rw [ex_1]; rfl) (by decide) rfl (fun ls hl => ?_)
  refine lv_goto (tgt := 4) hx hb dX7_areAllValid_43 (by decide) ?_
  exact hK4 _ _ _ _ _ _ h hw (lv_sub hl [2, 1, 0] rfl)
set_option maxHeartbeats 4000000 in
set_option maxRecDepth 100000 in
theorem wk_X7_areAllValid_38 {p : Program} {l : Launch} {e : Env} {s : State} {m : MethodId} {args : Array Value} {below : List Frame} {meth : Method} {c : Code} {G : ck_G} (X : ck_X p s m meth c args cX7_areAllValid 3 (some .boolean) RX7 wsX7_areAllValid) (hM : ck_inM G) {post : Int32 → ck_S → Prop} {K4 : ck_S → Int32 → Int32 → Prop} (hK4 : ∀ (σ : ck_S) (x1 : Int32) (x2 : Int32) (H : Heap) (locs : List Loc) (ls : Array Slot), K4 σ x1 x2 → ck_H G s H locs σ → lv_has ls 3 [(0, .ref (ck_ad G 10 0)), (1, .int x1), (2, .int x2)] → W p l e ({ frames := 3, cells := 0, slots := 0, locals := 77 } : Room) s m args below meth c H locs 0 0 (MQ below (va_Qi post (ck_Q G) (ck_A G s.heap.size)) args s 0 0 (ck_A G s.heap.size)) (F0 m 4 ls [])) {σ : ck_S} {x2 : Int32} {H : Heap} {locs : List Loc} {ls : Array Slot} (h : sp_X7_areAllValid_38 (ck_nc G) (ck_nb G) post K4 σ x2) (hw : ck_H G s H locs σ) (hl : lv_has ls 3 [(0, .ref (ck_ad G 10 0)), (2, .int x2)]) : W p l e ({ frames := 3, cells := 0, slots := 0, locals := 77 } : Room) s m args below meth c H locs 0 0 (MQ below (va_Qi post (ck_Q G) (ck_A G s.heap.size)) args s 0 0 (ck_A G s.heap.size)) (F0 m 38 ls []) := by
  obtain ⟨hx, hb, hr, hml, hown, hts, hlocks⟩ := id X
  have inX7 : ∀ w ∈ wsX70, w ∈ wsX7_areAllValid := fun _ h => List.mem_cons_of_mem _ (List.mem_append_right _ (h))
  unfold sp_X7_areAllValid_38 at h
  refine lv_iconst (v := 0) hx hb dX7_areAllValid_38 (by decide) ?_
  exact wk_X7_areAllValid_39 X hM hK4 h hw (lv_sub hl [0, 1] rfl)
set_option maxHeartbeats 4000000 in
set_option maxRecDepth 100000 in
theorem wk_X7_areAllValid_4 {p : Program} {l : Launch} {e : Env} {s : State} {m : MethodId} {args : Array Value} {below : List Frame} {meth : Method} {c : Code} {G : ck_G} (X : ck_X p s m meth c args cX7_areAllValid 3 (some .boolean) RX7 wsX7_areAllValid) (hM : ck_inM G) {post : Int32 → ck_S → Prop} : ∀ (fu : Nat) (σ : ck_S) (x1 : Int32) (x2 : Int32) (H : Heap) (locs : List Loc) (ls : Array Slot), lk_3 (bd_X7_areAllValid_4 (ck_nc G) (ck_nb G) post) fu σ x1 x2 → ck_H G s H locs σ → lv_has ls 3 [(0, .ref (ck_ad G 10 0)), (1, .int x1), (2, .int x2)] → W p l e ({ frames := 3, cells := 0, slots := 0, locals := 77 } : Room) s m args below meth c H locs 0 0 (MQ below (va_Qi post (ck_Q G) (ck_A G s.heap.size)) args s 0 0 (ck_A G s.heap.size)) (F0 m 4 ls []) := by
  obtain ⟨hx, hb, hr, hml, hown, hts, hlocks⟩ := id X
  have inX7 : ∀ w ∈ wsX70, w ∈ wsX7_areAllValid := fun _ h => List.mem_cons_of_mem _ (List.mem_append_right _ (h))
  intro fu
  induction fu with
  | zero => intro σ x1 x2 H locs ls h hw hl; exact h.elim
  | succ fu hK4 =>
    intro σ x1 x2 H locs ls h hw hl
    have h : bd_X7_areAllValid_4 (ck_nc G) (ck_nb G) post (lk_3 (bd_X7_areAllValid_4 (ck_nc G) (ck_nb G) post) fu) σ x1 x2 := h
    unfold bd_X7_areAllValid_4 at h
    refine lv_iload_n hx hb dX7_areAllValid_4 rfl (lv_at hl 2 rfl) ?_
    refine lv_bipush (v := 6) hx hb dX7_areAllValid_5 (by decide) ?_
    refine lv_aload_n hx hb dX7_areAllValid_7 rfl (lv_at hl 0 rfl) ?_
    refine ck_get hx hb hts inX7 hown hw (hM 10 (by decide) (by decide)) rfl rfl 1 (by decide) (hts _ (List.mem_of_getElem? (i := 1) rfl)) rfl dX7_areAllValid_8 ?_
    refine lv_imul hx hb dX7_areAllValid_11 ?_
    obtain ⟨hA, hB⟩ := h
    refine lv_icmp_ge (tgt := 46) hx hb dX7_areAllValid_12 (by decide) (fun c1 => ?_) (fun c1 => ?_)
    · have h := hA c1
      refine lv_iload_n hx hb dX7_areAllValid_46 rfl (lv_at hl 1 rfl) ?_
      exact ck_zret X hw h dX7_areAllValid_47
    · have h := hB c1
      refine lv_iload_n hx hb dX7_areAllValid_15 rfl (lv_at hl 1 rfl) ?_
      obtain ⟨hA, hB⟩ := h
      refine lv_if_eq (tgt := 38) hx hb dX7_areAllValid_16 (by decide) (fun c2 => ?_) (fun c2 => ?_)
      · have h := hA c2
        exact wk_X7_areAllValid_38 X hM hK4 h hw (lv_sub hl [0, 2] rfl)
      · have h := hB c2
        refine lv_aload_n hx hb dX7_areAllValid_19 rfl (lv_at hl 0 rfl) ?_
        refine lv_iload_n hx hb dX7_areAllValid_20 rfl (lv_at hl 2 rfl) ?_
        refine lv_bipush (v := 6) hx hb dX7_areAllValid_21 (by decide) ?_
        refine lv_idiv hx hb dX7_areAllValid_23 (by decide) ?_
        refine lv_iload_n hx hb dX7_areAllValid_24 rfl (lv_at hl 2 rfl) ?_
        refine lv_bipush (v := 6) hx hb dX7_areAllValid_25 (by decide) ?_
        refine lv_irem hx hb dX7_areAllValid_27 (by decide) ?_
        refine ck_callVi (rest := []) ⟨hx, hb, hml, hown, hts⟩ hw (hM 10 (by decide) (by decide)) rfl rfl (ct_X7_isValid l G hM h) (cwV 2 hts gX7_areAllValid_X7_isValid rfl rfl rfl (by decide +kernel) ⟨(Nat.le_of_ble_eq_true rfl), (Nat.le_of_ble_eq_true rfl)⟩) rfl hl.1 rfl (Nat.le_of_ble_eq_true rfl) dX7_areAllValid_28 ⟨(Nat.le_of_ble_eq_true rfl), (Nat.le_of_ble_eq_true rfl)⟩ (fun x_4 σ3 H locs h hw => ?_)
        obtain ⟨hA, hB⟩ := h
        refine lv_if_eq (tgt := 38) hx hb dX7_areAllValid_31 (by decide) (fun c5 => ?_) (fun c5 => ?_)
        · have h := hA c5
          exact wk_X7_areAllValid_38 X hM hK4 h hw (lv_sub hl [0, 2] rfl)
        · have h := hB c5
          refine lv_iconst (v := 1) hx hb dX7_areAllValid_34 (by decide) ?_
          refine lv_goto (tgt := 39) hx hb dX7_areAllValid_35 (by decide) ?_
          exact wk_X7_areAllValid_39 X hM hK4 h hw (lv_sub hl [0, 2] rfl)
set_option maxHeartbeats 4000000 in
set_option maxRecDepth 100000 in
theorem wk_X7_areAllValid_0 {p : Program} {l : Launch} {e : Env} {s : State} {m : MethodId} {args : Array Value} {below : List Frame} {meth : Method} {c : Code} {G : ck_G} (X : ck_X p s m meth c args cX7_areAllValid 3 (some .boolean) RX7 wsX7_areAllValid) (hM : ck_inM G) {post : Int32 → ck_S → Prop} {σ : ck_S} {H : Heap} {locs : List Loc} {ls : Array Slot} (h : sp_X7_areAllValid (ck_nc G) (ck_nb G) σ post) (hw : ck_H G s H locs σ) (hl : lv_has ls 3 [(0, .ref (ck_ad G 10 0))]) : W p l e ({ frames := 3, cells := 0, slots := 0, locals := 77 } : Room) s m args below meth c H locs 0 0 (MQ below (va_Qi post (ck_Q G) (ck_A G s.heap.size)) args s 0 0 (ck_A G s.heap.size)) (F0 m 0 ls []) := by
  obtain ⟨hx, hb, hr, hml, hown, hts, hlocks⟩ := id X
  have inX7 : ∀ w ∈ wsX70, w ∈ wsX7_areAllValid := fun _ h => List.mem_cons_of_mem _ (List.mem_append_right _ (h))
  unfold sp_X7_areAllValid at h
  refine lv_iconst (v := 1) hx hb dX7_areAllValid_0 (by decide) ?_
  refine lv_istore_n (lv' := [(1, .int 1), (0, .ref (ck_ad G 10 0))]) hx hb dX7_areAllValid_1 rfl hl (by decide) rfl (fun ls hl => ?_)
  refine lv_iconst (v := 0) hx hb dX7_areAllValid_2 (by decide) ?_
  refine lv_istore_n (lv' := [(2, .int 0), (1, .int 1), (0, .ref (ck_ad G 10 0))]) hx hb dX7_areAllValid_3 rfl hl (by decide) rfl (fun ls hl => ?_)
  obtain ⟨fu, h⟩ := h
  exact wk_X7_areAllValid_4 X hM fu _ _ _ _ _ _ h hw (lv_sub hl [2, 1, 0] rfl)
set_option maxHeartbeats 4000000 in
set_option maxRecDepth 100000 in
theorem ct_X7_areAllValid (l : Launch) (G : ck_G) (hM : ck_inM G) {σ : ck_S} {post : Int32 → ck_S → Prop} (h : sp_X7_areAllValid (ck_nc G) (ck_nb G) σ post) : ck_Mi l yX7_areAllValid wsX7_areAllValid ({ frames := 3, cells := 0, slots := 0, locals := 77 } : Room) G σ [.ref (ck_ad G 10 0)] post := by
  intro sz
  refine Met.ofW (cc := cX7_areAllValid) (maxL := 3) (ret := (some .boolean)) (by decide) rfl ?_
  intro p e s m args below meth c s₁ B hml hv
  obtain ⟨rfl, rfl, hw⟩ := ck_enter hv
  have hl := lv_entry ([.ref (ck_ad G 10 0)]) (n := 3) (Nat.le_of_ble_eq_true rfl)
  rw [lg_entry_eq]
  generalize (lg_sl ([.ref (ck_ad G 10 0)]) ++ List.replicate (3 - (lg_sl ([.ref (ck_ad G 10 0)])).length) Slot.unset).toArray = ls at hl ⊢
  have hl : lv_has ls 3 [(0, .ref (ck_ad G 10 0))] := hl
  exact wk_X7_areAllValid_0 ⟨B.exec, B.bytes, B.returns, hml, findClass_of_methodNamed B.named, atoms_spec (ws := wsX7_areAllValid) B.pre, B.notSynchronized⟩ hM h hw hl
def sp_X7_sum_49 (nc nb : Nat) (post : Int32 → ck_S → Prop) (K4 : ck_S → Int32 → Int32 → Prop) (σ : ck_S) (x2 : Int32) (s0 : Int32) : Prop := ∀ x_1, x_1 = x2 + 1 → K4 σ s0 x_1
def bd_X7_sum_4 (nc nb : Nat) (post : Int32 → ck_S → Prop) (K4 : ck_S → Int32 → Int32 → Prop) (σ : ck_S) (x1 : Int32) (x2 : Int32) : Prop := (((6 * (ck_gi σ 10 0 1)) ≤ x2 → (post x1 σ)) ∧ (¬ (6 * (ck_gi σ 10 0 1)) ≤ x2 → (sp_X7_isValid nc nb σ (x2 / 6) (x2 - x2 / 6 * 6) (fun x_3 σ2 => ((x_3 = 0 → (sp_X7_sum_49 nc nb post K4 σ2 x2 x1)) ∧ (¬ x_3 = 0 → (sp_X7_numberOf nc nb σ2 (x2 / 6) (x2 - x2 / 6 * 6) 0 (fun x_6 σ5 => sp_X7_sum_49 nc nb post K4 σ5 x2 (x1 + x_6)))))))))
def sp_X7_sum (nc nb : Nat) (σ : ck_S) (post : Int32 → ck_S → Prop) : Prop := lx_3 (bd_X7_sum_4 nc nb post) σ 0 0
set_option maxHeartbeats 4000000 in
set_option maxRecDepth 100000 in
theorem wk_X7_sum_49 {p : Program} {l : Launch} {e : Env} {s : State} {m : MethodId} {args : Array Value} {below : List Frame} {meth : Method} {c : Code} {G : ck_G} (X : ck_X p s m meth c args cX7_sum 3 (some .int) RX7 wsX7_sum) (hM : ck_inM G) {post : Int32 → ck_S → Prop} {K4 : ck_S → Int32 → Int32 → Prop} (hK4 : ∀ (σ : ck_S) (x1 : Int32) (x2 : Int32) (H : Heap) (locs : List Loc) (ls : Array Slot), K4 σ x1 x2 → ck_H G s H locs σ → lv_has ls 3 [(0, .ref (ck_ad G 10 0)), (1, .int x1), (2, .int x2)] → W p l e ({ frames := 3, cells := 0, slots := 0, locals := 77 } : Room) s m args below meth c H locs 0 0 (MQ below (va_Qi post (ck_Q G) (ck_A G s.heap.size)) args s 0 0 (ck_A G s.heap.size)) (F0 m 4 ls [])) {σ : ck_S} {x2 : Int32} {s0 : Int32} {H : Heap} {locs : List Loc} {ls : Array Slot} (h : sp_X7_sum_49 (ck_nc G) (ck_nb G) post K4 σ x2 s0) (hw : ck_H G s H locs σ) (hl : lv_has ls 3 [(0, .ref (ck_ad G 10 0)), (2, .int x2)]) : W p l e ({ frames := 3, cells := 0, slots := 0, locals := 77 } : Room) s m args below meth c H locs 0 0 (MQ below (va_Qi post (ck_Q G) (ck_A G s.heap.size)) args s 0 0 (ck_A G s.heap.size)) (F0 m 49 ls [.int s0]) := by
  obtain ⟨hx, hb, hr, hml, hown, hts, hlocks⟩ := id X
  have inX7 : ∀ w ∈ wsX70, w ∈ wsX7_sum := fun _ h => List.mem_cons_of_mem _ (List.mem_append_right _ (h))
  unfold sp_X7_sum_49 at h
  refine lv_istore_n (lv' := [(1, .int s0), (0, .ref (ck_ad G 10 0)), (2, .int x2)]) hx hb dX7_sum_49 rfl hl (by decide) rfl (fun ls hl => ?_)
  obtain ⟨x_1, ex_1⟩ : ∃ z : Int32, z = x2 + 1 := ⟨_, rfl⟩
  have h := h x_1 ex_1
  refine lv_iinc (v := x_1) (lv' := [(2, .int x_1), (1, .int s0), (0, .ref (ck_ad G 10 0))]) hx hb dX7_sum_50 hl (k := 2) rfl (by rw [ex_1]; rfl) (by decide) rfl (fun ls hl => ?_)
  refine lv_goto (tgt := 4) hx hb dX7_sum_53 (by decide) ?_
  exact hK4 _ _ _ _ _ _ h hw (lv_sub hl [2, 1, 0] rfl)
set_option maxHeartbeats 4000000 in
set_option maxRecDepth 100000 in
theorem wk_X7_sum_4 {p : Program} {l : Launch} {e : Env} {s : State} {m : MethodId} {args : Array Value} {below : List Frame} {meth : Method} {c : Code} {G : ck_G} (X : ck_X p s m meth c args cX7_sum 3 (some .int) RX7 wsX7_sum) (hM : ck_inM G) {post : Int32 → ck_S → Prop} : ∀ (fu : Nat) (σ : ck_S) (x1 : Int32) (x2 : Int32) (H : Heap) (locs : List Loc) (ls : Array Slot), lk_3 (bd_X7_sum_4 (ck_nc G) (ck_nb G) post) fu σ x1 x2 → ck_H G s H locs σ → lv_has ls 3 [(0, .ref (ck_ad G 10 0)), (1, .int x1), (2, .int x2)] → W p l e ({ frames := 3, cells := 0, slots := 0, locals := 77 } : Room) s m args below meth c H locs 0 0 (MQ below (va_Qi post (ck_Q G) (ck_A G s.heap.size)) args s 0 0 (ck_A G s.heap.size)) (F0 m 4 ls []) := by
  obtain ⟨hx, hb, hr, hml, hown, hts, hlocks⟩ := id X
  have inX7 : ∀ w ∈ wsX70, w ∈ wsX7_sum := fun _ h => List.mem_cons_of_mem _ (List.mem_append_right _ (h))
  intro fu
  induction fu with
  | zero => intro σ x1 x2 H locs ls h hw hl; exact h.elim
  | succ fu hK4 =>
    intro σ x1 x2 H locs ls h hw hl
    have h : bd_X7_sum_4 (ck_nc G) (ck_nb G) post (lk_3 (bd_X7_sum_4 (ck_nc G) (ck_nb G) post) fu) σ x1 x2 := h
    unfold bd_X7_sum_4 at h
    refine lv_iload_n hx hb dX7_sum_4 rfl (lv_at hl 2 rfl) ?_
    refine lv_bipush (v := 6) hx hb dX7_sum_5 (by decide) ?_
    refine lv_aload_n hx hb dX7_sum_7 rfl (lv_at hl 0 rfl) ?_
    refine ck_get hx hb hts inX7 hown hw (hM 10 (by decide) (by decide)) rfl rfl 1 (by decide) (hts _ (List.mem_of_getElem? (i := 1) rfl)) rfl dX7_sum_8 ?_
    refine lv_imul hx hb dX7_sum_11 ?_
    obtain ⟨hA, hB⟩ := h
    refine lv_icmp_ge (tgt := 56) hx hb dX7_sum_12 (by decide) (fun c1 => ?_) (fun c1 => ?_)
    · have h := hA c1
      refine lv_iload_n hx hb dX7_sum_56 rfl (lv_at hl 1 rfl) ?_
      exact ck_iret X hw h dX7_sum_57
    · have h := hB c1
      refine lv_aload_n hx hb dX7_sum_15 rfl (lv_at hl 0 rfl) ?_
      refine lv_iload_n hx hb dX7_sum_16 rfl (lv_at hl 2 rfl) ?_
      refine lv_bipush (v := 6) hx hb dX7_sum_17 (by decide) ?_
      refine lv_idiv hx hb dX7_sum_19 (by decide) ?_
      refine lv_iload_n hx hb dX7_sum_20 rfl (lv_at hl 2 rfl) ?_
      refine lv_bipush (v := 6) hx hb dX7_sum_21 (by decide) ?_
      refine lv_irem hx hb dX7_sum_23 (by decide) ?_
      refine ck_callVi (rest := []) ⟨hx, hb, hml, hown, hts⟩ hw (hM 10 (by decide) (by decide)) rfl rfl (ct_X7_isValid l G hM h) (cwV 2 hts gX7_sum_X7_isValid rfl rfl rfl (by decide +kernel) ⟨(Nat.le_of_ble_eq_true rfl), (Nat.le_of_ble_eq_true rfl)⟩) rfl hl.1 rfl (Nat.le_of_ble_eq_true rfl) dX7_sum_24 ⟨(Nat.le_of_ble_eq_true rfl), (Nat.le_of_ble_eq_true rfl)⟩ (fun x_3 σ2 H locs h hw => ?_)
      obtain ⟨hA, hB⟩ := h
      refine lv_if_eq (tgt := 48) hx hb dX7_sum_27 (by decide) (fun c4 => ?_) (fun c4 => ?_)
      · have h := hA c4
        refine lv_iload_n hx hb dX7_sum_48 rfl (lv_at hl 1 rfl) ?_
        exact wk_X7_sum_49 X hM hK4 h hw (lv_sub hl [0, 2] rfl)
      · have h := hB c4
        refine lv_iload_n hx hb dX7_sum_30 rfl (lv_at hl 1 rfl) ?_
        refine lv_aload_n hx hb dX7_sum_31 rfl (lv_at hl 0 rfl) ?_
        refine lv_iload_n hx hb dX7_sum_32 rfl (lv_at hl 2 rfl) ?_
        refine lv_bipush (v := 6) hx hb dX7_sum_33 (by decide) ?_
        refine lv_idiv hx hb dX7_sum_35 (by decide) ?_
        refine lv_iload_n hx hb dX7_sum_36 rfl (lv_at hl 2 rfl) ?_
        refine lv_bipush (v := 6) hx hb dX7_sum_37 (by decide) ?_
        refine lv_irem hx hb dX7_sum_39 (by decide) ?_
        refine lv_iconst (v := 0) hx hb dX7_sum_40 (by decide) ?_
        refine ck_callVi (rest := [.int x1]) ⟨hx, hb, hml, hown, hts⟩ hw (hM 10 (by decide) (by decide)) rfl rfl (ct_X7_numberOf l G hM h) (cwV 3 hts gX7_sum_X7_numberOf rfl rfl rfl (by decide +kernel) ⟨(Nat.le_of_ble_eq_true rfl), (Nat.le_of_ble_eq_true rfl)⟩) rfl hl.1 rfl (Nat.le_of_ble_eq_true rfl) dX7_sum_41 ⟨(Nat.le_of_ble_eq_true rfl), (Nat.le_of_ble_eq_true rfl)⟩ (fun x_6 σ5 H locs h hw => ?_)
        refine lv_iadd hx hb dX7_sum_44 ?_
        refine lv_goto (tgt := 49) hx hb dX7_sum_45 (by decide) ?_
        exact wk_X7_sum_49 X hM hK4 h hw (lv_sub hl [0, 2] rfl)
set_option maxHeartbeats 4000000 in
set_option maxRecDepth 100000 in
theorem wk_X7_sum_0 {p : Program} {l : Launch} {e : Env} {s : State} {m : MethodId} {args : Array Value} {below : List Frame} {meth : Method} {c : Code} {G : ck_G} (X : ck_X p s m meth c args cX7_sum 3 (some .int) RX7 wsX7_sum) (hM : ck_inM G) {post : Int32 → ck_S → Prop} {σ : ck_S} {H : Heap} {locs : List Loc} {ls : Array Slot} (h : sp_X7_sum (ck_nc G) (ck_nb G) σ post) (hw : ck_H G s H locs σ) (hl : lv_has ls 3 [(0, .ref (ck_ad G 10 0))]) : W p l e ({ frames := 3, cells := 0, slots := 0, locals := 77 } : Room) s m args below meth c H locs 0 0 (MQ below (va_Qi post (ck_Q G) (ck_A G s.heap.size)) args s 0 0 (ck_A G s.heap.size)) (F0 m 0 ls []) := by
  obtain ⟨hx, hb, hr, hml, hown, hts, hlocks⟩ := id X
  have inX7 : ∀ w ∈ wsX70, w ∈ wsX7_sum := fun _ h => List.mem_cons_of_mem _ (List.mem_append_right _ (h))
  unfold sp_X7_sum at h
  refine lv_iconst (v := 0) hx hb dX7_sum_0 (by decide) ?_
  refine lv_istore_n (lv' := [(1, .int 0), (0, .ref (ck_ad G 10 0))]) hx hb dX7_sum_1 rfl hl (by decide) rfl (fun ls hl => ?_)
  refine lv_iconst (v := 0) hx hb dX7_sum_2 (by decide) ?_
  refine lv_istore_n (lv' := [(2, .int 0), (1, .int 0), (0, .ref (ck_ad G 10 0))]) hx hb dX7_sum_3 rfl hl (by decide) rfl (fun ls hl => ?_)
  obtain ⟨fu, h⟩ := h
  exact wk_X7_sum_4 X hM fu _ _ _ _ _ _ h hw (lv_sub hl [2, 1, 0] rfl)
set_option maxHeartbeats 4000000 in
set_option maxRecDepth 100000 in
theorem ct_X7_sum (l : Launch) (G : ck_G) (hM : ck_inM G) {σ : ck_S} {post : Int32 → ck_S → Prop} (h : sp_X7_sum (ck_nc G) (ck_nb G) σ post) : ck_Mi l yX7_sum wsX7_sum ({ frames := 3, cells := 0, slots := 0, locals := 77 } : Room) G σ [.ref (ck_ad G 10 0)] post := by
  intro sz
  refine Met.ofW (cc := cX7_sum) (maxL := 3) (ret := (some .int)) (by decide) rfl ?_
  intro p e s m args below meth c s₁ B hml hv
  obtain ⟨rfl, rfl, hw⟩ := ck_enter hv
  have hl := lv_entry ([.ref (ck_ad G 10 0)]) (n := 3) (Nat.le_of_ble_eq_true rfl)
  rw [lg_entry_eq]
  generalize (lg_sl ([.ref (ck_ad G 10 0)]) ++ List.replicate (3 - (lg_sl ([.ref (ck_ad G 10 0)])).length) Slot.unset).toArray = ls at hl ⊢
  have hl : lv_has ls 3 [(0, .ref (ck_ad G 10 0))] := hl
  exact wk_X7_sum_0 ⟨B.exec, B.bytes, B.returns, hml, findClass_of_methodNamed B.named, atoms_spec (ws := wsX7_sum) B.pre, B.notSynchronized⟩ hM h hw hl
def sp_X7_knot (nc nb : Nat) (σ : ck_S) (a0 : Int32) (post : Int32 → ck_S → Prop) : Prop := ((¬ a0 = 0 → (((¬ a0 = 1 → (((¬ a0 = 2 → (((¬ a0 = 3 → (((¬ a0 = 4 → (((¬ a0 = 5 → (post 4150 σ)) ∧ (a0 = 5 → (post 4000 σ))))) ∧ (a0 = 4 → (post 3800 σ))))) ∧ (a0 = 3 → (post 3650 σ))))) ∧ (a0 = 2 → (post 3500 σ))))) ∧ (a0 = 1 → (post 3300 σ))))) ∧ (a0 = 0 → (post 3000 σ)))
set_option maxHeartbeats 4000000 in
set_option maxRecDepth 100000 in
theorem wk_X7_knot_0 {p : Program} {l : Launch} {e : Env} {s : State} {m : MethodId} {args : Array Value} {below : List Frame} {meth : Method} {c : Code} {G : ck_G} (X : ck_X p s m meth c args cX7_knot 1 (some .int) RX7 wsX7_knot) {post : Int32 → ck_S → Prop} {σ : ck_S} {a0 : Int32} {H : Heap} {locs : List Loc} {ls : Array Slot} (h : sp_X7_knot (ck_nc G) (ck_nb G) σ a0 post) (hw : ck_H G s H locs σ) (hl : lv_has ls 1 [(0, .int a0)]) : W p l e ({ frames := 0, cells := 0, slots := 0, locals := 0 } : Room) s m args below meth c H locs 0 0 (MQ below (va_Qi post (ck_Q G) (ck_A G s.heap.size)) args s 0 0 (ck_A G s.heap.size)) (F0 m 0 ls []) := by
  obtain ⟨hx, hb, hr, hml, hown, hts, hlocks⟩ := id X
  unfold sp_X7_knot at h
  refine lv_iload_n hx hb dX7_knot_0 rfl (lv_at hl 0 rfl) ?_
  obtain ⟨hA, hB⟩ := h
  refine lv_if_ne (tgt := 10) hx hb dX7_knot_1 (by decide) (fun c1 => ?_) (fun c1 => ?_)
  · have h := hA c1
    refine lv_iload_n hx hb dX7_knot_10 rfl (lv_at hl 0 rfl) ?_
    refine lv_iconst (v := 1) hx hb dX7_knot_11 (by decide) ?_
    obtain ⟨hA, hB⟩ := h
    refine lv_icmp_ne (tgt := 21) hx hb dX7_knot_12 (by decide) (fun c2 => ?_) (fun c2 => ?_)
    · have h := hA c2
      refine lv_iload_n hx hb dX7_knot_21 rfl (lv_at hl 0 rfl) ?_
      refine lv_iconst (v := 2) hx hb dX7_knot_22 (by decide) ?_
      obtain ⟨hA, hB⟩ := h
      refine lv_icmp_ne (tgt := 32) hx hb dX7_knot_23 (by decide) (fun c3 => ?_) (fun c3 => ?_)
      · have h := hA c3
        refine lv_iload_n hx hb dX7_knot_32 rfl (lv_at hl 0 rfl) ?_
        refine lv_iconst (v := 3) hx hb dX7_knot_33 (by decide) ?_
        obtain ⟨hA, hB⟩ := h
        refine lv_icmp_ne (tgt := 43) hx hb dX7_knot_34 (by decide) (fun c4 => ?_) (fun c4 => ?_)
        · have h := hA c4
          refine lv_iload_n hx hb dX7_knot_43 rfl (lv_at hl 0 rfl) ?_
          refine lv_iconst (v := 4) hx hb dX7_knot_44 (by decide) ?_
          obtain ⟨hA, hB⟩ := h
          refine lv_icmp_ne (tgt := 54) hx hb dX7_knot_45 (by decide) (fun c5 => ?_) (fun c5 => ?_)
          · have h := hA c5
            refine lv_iload_n hx hb dX7_knot_54 rfl (lv_at hl 0 rfl) ?_
            refine lv_iconst (v := 5) hx hb dX7_knot_55 (by decide) ?_
            obtain ⟨hA, hB⟩ := h
            refine lv_icmp_ne (tgt := 65) hx hb dX7_knot_56 (by decide) (fun c6 => ?_) (fun c6 => ?_)
            · have h := hA c6
              refine lv_sipush (v := 4150) hx hb dX7_knot_65 (by decide) ?_
              exact ck_iret X hw h dX7_knot_68
            · have h := hB c6
              refine lv_sipush (v := 4000) hx hb dX7_knot_59 (by decide) ?_
              refine lv_goto (tgt := 68) hx hb dX7_knot_62 (by decide) ?_
              exact ck_iret X hw h dX7_knot_68
          · have h := hB c5
            refine lv_sipush (v := 3800) hx hb dX7_knot_48 (by decide) ?_
            refine lv_goto (tgt := 68) hx hb dX7_knot_51 (by decide) ?_
            exact ck_iret X hw h dX7_knot_68
        · have h := hB c4
          refine lv_sipush (v := 3650) hx hb dX7_knot_37 (by decide) ?_
          refine lv_goto (tgt := 68) hx hb dX7_knot_40 (by decide) ?_
          exact ck_iret X hw h dX7_knot_68
      · have h := hB c3
        refine lv_sipush (v := 3500) hx hb dX7_knot_26 (by decide) ?_
        refine lv_goto (tgt := 68) hx hb dX7_knot_29 (by decide) ?_
        exact ck_iret X hw h dX7_knot_68
    · have h := hB c2
      refine lv_sipush (v := 3300) hx hb dX7_knot_15 (by decide) ?_
      refine lv_goto (tgt := 68) hx hb dX7_knot_18 (by decide) ?_
      exact ck_iret X hw h dX7_knot_68
  · have h := hB c1
    refine lv_sipush (v := 3000) hx hb dX7_knot_4 (by decide) ?_
    refine lv_goto (tgt := 68) hx hb dX7_knot_7 (by decide) ?_
    exact ck_iret X hw h dX7_knot_68
set_option maxHeartbeats 4000000 in
set_option maxRecDepth 100000 in
theorem ct_X7_knot (l : Launch) (G : ck_G) {a0 : Int32} {σ : ck_S} {post : Int32 → ck_S → Prop} (h : sp_X7_knot (ck_nc G) (ck_nb G) σ a0 post) : ck_Mi l yX7_knot wsX7_knot ({ frames := 0, cells := 0, slots := 0, locals := 0 } : Room) G σ [.int a0] post := by
  intro sz
  refine Met.ofW (cc := cX7_knot) (maxL := 1) (ret := (some .int)) (by decide) rfl ?_
  intro p e s m args below meth c s₁ B hml hv
  obtain ⟨rfl, rfl, hw⟩ := ck_enter hv
  have hl := lv_entry ([.int a0]) (n := 1) (Nat.le_of_ble_eq_true rfl)
  rw [lg_entry_eq]
  generalize (lg_sl ([.int a0]) ++ List.replicate (1 - (lg_sl ([.int a0])).length) Slot.unset).toArray = ls at hl ⊢
  have hl : lv_has ls 1 [(0, .int a0)] := hl
  exact wk_X7_knot_0 ⟨B.exec, B.bytes, B.returns, hml, findClass_of_methodNamed B.named, atoms_spec (ws := wsX7_knot) B.pre, B.notSynchronized⟩ h hw hl
def sp_X7_share (nc nb : Nat) (σ : ck_S) (a0 : Int32) (post : Int32 → ck_S → Prop) : Prop := ((¬ a0 = 0 → (((¬ a0 = 1 → (((¬ a0 = 2 → (((¬ a0 = 3 → (((¬ a0 = 4 → (((¬ a0 = 5 → (post 1024 σ)) ∧ (a0 = 5 → (post 922 σ))))) ∧ (a0 = 4 → (post 717 σ))))) ∧ (a0 = 3 → (post 512 σ))))) ∧ (a0 = 2 → (post 256 σ))))) ∧ (a0 = 1 → (post 102 σ))))) ∧ (a0 = 0 → (post 0 σ)))
set_option maxHeartbeats 4000000 in
set_option maxRecDepth 100000 in
theorem wk_X7_share_0 {p : Program} {l : Launch} {e : Env} {s : State} {m : MethodId} {args : Array Value} {below : List Frame} {meth : Method} {c : Code} {G : ck_G} (X : ck_X p s m meth c args cX7_share 1 (some .int) RX7 wsX7_share) {post : Int32 → ck_S → Prop} {σ : ck_S} {a0 : Int32} {H : Heap} {locs : List Loc} {ls : Array Slot} (h : sp_X7_share (ck_nc G) (ck_nb G) σ a0 post) (hw : ck_H G s H locs σ) (hl : lv_has ls 1 [(0, .int a0)]) : W p l e ({ frames := 0, cells := 0, slots := 0, locals := 0 } : Room) s m args below meth c H locs 0 0 (MQ below (va_Qi post (ck_Q G) (ck_A G s.heap.size)) args s 0 0 (ck_A G s.heap.size)) (F0 m 0 ls []) := by
  obtain ⟨hx, hb, hr, hml, hown, hts, hlocks⟩ := id X
  unfold sp_X7_share at h
  refine lv_iload_n hx hb dX7_share_0 rfl (lv_at hl 0 rfl) ?_
  obtain ⟨hA, hB⟩ := h
  refine lv_if_ne (tgt := 8) hx hb dX7_share_1 (by decide) (fun c1 => ?_) (fun c1 => ?_)
  · have h := hA c1
    refine lv_iload_n hx hb dX7_share_8 rfl (lv_at hl 0 rfl) ?_
    refine lv_iconst (v := 1) hx hb dX7_share_9 (by decide) ?_
    obtain ⟨hA, hB⟩ := h
    refine lv_icmp_ne (tgt := 18) hx hb dX7_share_10 (by decide) (fun c2 => ?_) (fun c2 => ?_)
    · have h := hA c2
      refine lv_iload_n hx hb dX7_share_18 rfl (lv_at hl 0 rfl) ?_
      refine lv_iconst (v := 2) hx hb dX7_share_19 (by decide) ?_
      obtain ⟨hA, hB⟩ := h
      refine lv_icmp_ne (tgt := 29) hx hb dX7_share_20 (by decide) (fun c3 => ?_) (fun c3 => ?_)
      · have h := hA c3
        refine lv_iload_n hx hb dX7_share_29 rfl (lv_at hl 0 rfl) ?_
        refine lv_iconst (v := 3) hx hb dX7_share_30 (by decide) ?_
        obtain ⟨hA, hB⟩ := h
        refine lv_icmp_ne (tgt := 40) hx hb dX7_share_31 (by decide) (fun c4 => ?_) (fun c4 => ?_)
        · have h := hA c4
          refine lv_iload_n hx hb dX7_share_40 rfl (lv_at hl 0 rfl) ?_
          refine lv_iconst (v := 4) hx hb dX7_share_41 (by decide) ?_
          obtain ⟨hA, hB⟩ := h
          refine lv_icmp_ne (tgt := 51) hx hb dX7_share_42 (by decide) (fun c5 => ?_) (fun c5 => ?_)
          · have h := hA c5
            refine lv_iload_n hx hb dX7_share_51 rfl (lv_at hl 0 rfl) ?_
            refine lv_iconst (v := 5) hx hb dX7_share_52 (by decide) ?_
            obtain ⟨hA, hB⟩ := h
            refine lv_icmp_ne (tgt := 62) hx hb dX7_share_53 (by decide) (fun c6 => ?_) (fun c6 => ?_)
            · have h := hA c6
              refine lv_sipush (v := 1024) hx hb dX7_share_62 (by decide) ?_
              exact ck_iret X hw h dX7_share_65
            · have h := hB c6
              refine lv_sipush (v := 922) hx hb dX7_share_56 (by decide) ?_
              refine lv_goto (tgt := 65) hx hb dX7_share_59 (by decide) ?_
              exact ck_iret X hw h dX7_share_65
          · have h := hB c5
            refine lv_sipush (v := 717) hx hb dX7_share_45 (by decide) ?_
            refine lv_goto (tgt := 65) hx hb dX7_share_48 (by decide) ?_
            exact ck_iret X hw h dX7_share_65
        · have h := hB c4
          refine lv_sipush (v := 512) hx hb dX7_share_34 (by decide) ?_
          refine lv_goto (tgt := 65) hx hb dX7_share_37 (by decide) ?_
          exact ck_iret X hw h dX7_share_65
      · have h := hB c3
        refine lv_sipush (v := 256) hx hb dX7_share_23 (by decide) ?_
        refine lv_goto (tgt := 65) hx hb dX7_share_26 (by decide) ?_
        exact ck_iret X hw h dX7_share_65
    · have h := hB c2
      refine lv_bipush (v := 102) hx hb dX7_share_13 (by decide) ?_
      refine lv_goto (tgt := 65) hx hb dX7_share_15 (by decide) ?_
      exact ck_iret X hw h dX7_share_65
  · have h := hB c1
    refine lv_iconst (v := 0) hx hb dX7_share_4 (by decide) ?_
    refine lv_goto (tgt := 65) hx hb dX7_share_5 (by decide) ?_
    exact ck_iret X hw h dX7_share_65
set_option maxHeartbeats 4000000 in
set_option maxRecDepth 100000 in
theorem ct_X7_share (l : Launch) (G : ck_G) {a0 : Int32} {σ : ck_S} {post : Int32 → ck_S → Prop} (h : sp_X7_share (ck_nc G) (ck_nb G) σ a0 post) : ck_Mi l yX7_share wsX7_share ({ frames := 0, cells := 0, slots := 0, locals := 0 } : Room) G σ [.int a0] post := by
  intro sz
  refine Met.ofW (cc := cX7_share) (maxL := 1) (ret := (some .int)) (by decide) rfl ?_
  intro p e s m args below meth c s₁ B hml hv
  obtain ⟨rfl, rfl, hw⟩ := ck_enter hv
  have hl := lv_entry ([.int a0]) (n := 1) (Nat.le_of_ble_eq_true rfl)
  rw [lg_entry_eq]
  generalize (lg_sl ([.int a0]) ++ List.replicate (1 - (lg_sl ([.int a0])).length) Slot.unset).toArray = ls at hl ⊢
  have hl : lv_has ls 1 [(0, .int a0)] := hl
  exact wk_X7_share_0 ⟨B.exec, B.bytes, B.returns, hml, findClass_of_methodNamed B.named, atoms_spec (ws := wsX7_share) B.pre, B.notSynchronized⟩ h hw hl
def bd_X7_told_22 (nc nb : Nat) (post : Int32 → ck_S → Prop) (K22 : ck_S → Int32 → Int32 → Prop) (σ : ck_S) (x0 : Int32) (x1 : Int32) : Prop := sp_X7_knot nc nb σ (x1 + 1) (fun x_2 σ1 => ((x0 ≤ x_2 → (sp_X7_share nc nb σ1 x1 (fun x_5 σ4 => sp_X7_share nc nb σ4 (x1 + 1) (fun x_7 σ6 => sp_X7_share nc nb σ6 x1 (fun x_9 σ8 => sp_X7_knot nc nb σ8 x1 (fun x_11 σ10 => sp_X7_knot nc nb σ10 (x1 + 1) (fun x_13 σ12 => sp_X7_knot nc nb σ12 x1 (fun x_15 σ14 => (¬ (x_13 - x_15) = 0) ∧ post (x_5 + (((x_7 - x_9) * (x0 - x_11)) / (x_13 - x_15))) σ14)))))))) ∧ (¬ x0 ≤ x_2 → (∀ x_17, x_17 = x1 + 1 → K22 σ1 x0 x_17))))
def sp_X7_told (nc nb : Nat) (σ : ck_S) (a0 : Int32) (post : Int32 → ck_S → Prop) : Prop := ((3000 < a0 → (((a0 < 4150 → (lx_3 (bd_X7_told_22 nc nb post) σ a0 0)) ∧ (¬ a0 < 4150 → (post 1024 σ))))) ∧ (¬ 3000 < a0 → (post 0 σ)))
set_option maxHeartbeats 4000000 in
set_option maxRecDepth 100000 in
theorem wk_X7_told_22 {p : Program} {l : Launch} {e : Env} {s : State} {m : MethodId} {args : Array Value} {below : List Frame} {meth : Method} {c : Code} {G : ck_G} (X : ck_X p s m meth c args cX7_told 2 (some .int) RX7 wsX7_told) {post : Int32 → ck_S → Prop} : ∀ (fu : Nat) (σ : ck_S) (x0 : Int32) (x1 : Int32) (H : Heap) (locs : List Loc) (ls : Array Slot), lk_3 (bd_X7_told_22 (ck_nc G) (ck_nb G) post) fu σ x0 x1 → ck_H G s H locs σ → lv_has ls 2 [(0, .int x0), (1, .int x1)] → W p l e ({ frames := 1, cells := 0, slots := 0, locals := 20 } : Room) s m args below meth c H locs 0 0 (MQ below (va_Qi post (ck_Q G) (ck_A G s.heap.size)) args s 0 0 (ck_A G s.heap.size)) (F0 m 22 ls []) := by
  obtain ⟨hx, hb, hr, hml, hown, hts, hlocks⟩ := id X
  intro fu
  induction fu with
  | zero => intro σ x0 x1 H locs ls h hw hl; exact h.elim
  | succ fu hK22 =>
    intro σ x0 x1 H locs ls h hw hl
    have h : bd_X7_told_22 (ck_nc G) (ck_nb G) post (lk_3 (bd_X7_told_22 (ck_nc G) (ck_nb G) post) fu) σ x0 x1 := h
    unfold bd_X7_told_22 at h
    refine lv_iload_n hx hb dX7_told_22 rfl (lv_at hl 0 rfl) ?_
    refine lv_iload_n hx hb dX7_told_23 rfl (lv_at hl 1 rfl) ?_
    refine lv_iconst (v := 1) hx hb dX7_told_24 (by decide) ?_
    refine lv_iadd hx hb dX7_told_25 ?_
    refine ck_callSi (rest := [.int x0]) ⟨hx, hb, hml, hown, hts⟩ hw (ct_X7_knot l G h) (va_cwS 1 hts gX7_told_X7_knot rfl rfl rfl (by decide +kernel) ⟨(Nat.le_of_ble_eq_true rfl), (Nat.le_of_ble_eq_true rfl)⟩) rfl hl.1 rfl (Nat.le_of_ble_eq_true rfl) dX7_told_26 ⟨(Nat.le_of_ble_eq_true rfl), (Nat.le_of_ble_eq_true rfl)⟩ (fun x_2 σ1 H locs h hw => ?_)
    obtain ⟨hA, hB⟩ := h
    refine lv_icmp_le (tgt := 38) hx hb dX7_told_29 (by decide) (fun c3 => ?_) (fun c3 => ?_)
    · have h := hA c3
      refine lv_iload_n hx hb dX7_told_38 rfl (lv_at hl 1 rfl) ?_
      refine ck_callSi (rest := []) ⟨hx, hb, hml, hown, hts⟩ hw (ct_X7_share l G h) (va_cwS 1 hts gX7_told_X7_share rfl rfl rfl (by decide +kernel) ⟨(Nat.le_of_ble_eq_true rfl), (Nat.le_of_ble_eq_true rfl)⟩) rfl hl.1 rfl (Nat.le_of_ble_eq_true rfl) dX7_told_39 ⟨(Nat.le_of_ble_eq_true rfl), (Nat.le_of_ble_eq_true rfl)⟩ (fun x_5 σ4 H locs h hw => ?_)
      refine lv_iload_n hx hb dX7_told_42 rfl (lv_at hl 1 rfl) ?_
      refine lv_iconst (v := 1) hx hb dX7_told_43 (by decide) ?_
      refine lv_iadd hx hb dX7_told_44 ?_
      refine ck_callSi (rest := [.int x_5]) ⟨hx, hb, hml, hown, hts⟩ hw (ct_X7_share l G h) (va_cwS 1 hts gX7_told_X7_share rfl rfl rfl (by decide +kernel) ⟨(Nat.le_of_ble_eq_true rfl), (Nat.le_of_ble_eq_true rfl)⟩) rfl hl.1 rfl (Nat.le_of_ble_eq_true rfl) dX7_told_45 ⟨(Nat.le_of_ble_eq_true rfl), (Nat.le_of_ble_eq_true rfl)⟩ (fun x_7 σ6 H locs h hw => ?_)
      refine lv_iload_n hx hb dX7_told_48 rfl (lv_at hl 1 rfl) ?_
      refine ck_callSi (rest := [.int x_7, .int x_5]) ⟨hx, hb, hml, hown, hts⟩ hw (ct_X7_share l G h) (va_cwS 1 hts gX7_told_X7_share rfl rfl rfl (by decide +kernel) ⟨(Nat.le_of_ble_eq_true rfl), (Nat.le_of_ble_eq_true rfl)⟩) rfl hl.1 rfl (Nat.le_of_ble_eq_true rfl) dX7_told_49 ⟨(Nat.le_of_ble_eq_true rfl), (Nat.le_of_ble_eq_true rfl)⟩ (fun x_9 σ8 H locs h hw => ?_)
      refine lv_isub hx hb dX7_told_52 ?_
      refine lv_iload_n hx hb dX7_told_53 rfl (lv_at hl 0 rfl) ?_
      refine lv_iload_n hx hb dX7_told_54 rfl (lv_at hl 1 rfl) ?_
      refine ck_callSi (rest := [.int x0, .int (x_7 - x_9), .int x_5]) ⟨hx, hb, hml, hown, hts⟩ hw (ct_X7_knot l G h) (va_cwS 1 hts gX7_told_X7_knot rfl rfl rfl (by decide +kernel) ⟨(Nat.le_of_ble_eq_true rfl), (Nat.le_of_ble_eq_true rfl)⟩) rfl hl.1 rfl (Nat.le_of_ble_eq_true rfl) dX7_told_55 ⟨(Nat.le_of_ble_eq_true rfl), (Nat.le_of_ble_eq_true rfl)⟩ (fun x_11 σ10 H locs h hw => ?_)
      refine lv_isub hx hb dX7_told_58 ?_
      refine lv_imul hx hb dX7_told_59 ?_
      refine lv_iload_n hx hb dX7_told_60 rfl (lv_at hl 1 rfl) ?_
      refine lv_iconst (v := 1) hx hb dX7_told_61 (by decide) ?_
      refine lv_iadd hx hb dX7_told_62 ?_
      refine ck_callSi (rest := [.int ((x_7 - x_9) * (x0 - x_11)), .int x_5]) ⟨hx, hb, hml, hown, hts⟩ hw (ct_X7_knot l G h) (va_cwS 1 hts gX7_told_X7_knot rfl rfl rfl (by decide +kernel) ⟨(Nat.le_of_ble_eq_true rfl), (Nat.le_of_ble_eq_true rfl)⟩) rfl hl.1 rfl (Nat.le_of_ble_eq_true rfl) dX7_told_63 ⟨(Nat.le_of_ble_eq_true rfl), (Nat.le_of_ble_eq_true rfl)⟩ (fun x_13 σ12 H locs h hw => ?_)
      refine lv_iload_n hx hb dX7_told_66 rfl (lv_at hl 1 rfl) ?_
      refine ck_callSi (rest := [.int x_13, .int ((x_7 - x_9) * (x0 - x_11)), .int x_5]) ⟨hx, hb, hml, hown, hts⟩ hw (ct_X7_knot l G h) (va_cwS 1 hts gX7_told_X7_knot rfl rfl rfl (by decide +kernel) ⟨(Nat.le_of_ble_eq_true rfl), (Nat.le_of_ble_eq_true rfl)⟩) rfl hl.1 rfl (Nat.le_of_ble_eq_true rfl) dX7_told_67 ⟨(Nat.le_of_ble_eq_true rfl), (Nat.le_of_ble_eq_true rfl)⟩ (fun x_15 σ14 H locs h hw => ?_)
      refine lv_isub hx hb dX7_told_70 ?_
      obtain ⟨n16, h⟩ := h
      refine lv_idiv hx hb dX7_told_71 n16 ?_
      refine lv_iadd hx hb dX7_told_72 ?_
      exact ck_iret X hw h dX7_told_73
    · have h := hB c3
      obtain ⟨x_17, ex_17⟩ : ∃ z : Int32, z = x1 + 1 := ⟨_, rfl⟩
      have h := h x_17 ex_17
      refine lv_iinc (v := x_17) (lv' := [(1, .int x_17), (0, .int x0)]) hx hb dX7_told_32 hl (k := 1) rfl (by rw [ex_17]; rfl) (by decide) rfl (fun ls hl => ?_)
      refine lv_goto (tgt := 22) hx hb dX7_told_35 (by decide) ?_
      exact hK22 _ _ _ _ _ _ h hw (lv_sub hl [1, 0] rfl)
set_option maxHeartbeats 4000000 in
set_option maxRecDepth 100000 in
theorem wk_X7_told_0 {p : Program} {l : Launch} {e : Env} {s : State} {m : MethodId} {args : Array Value} {below : List Frame} {meth : Method} {c : Code} {G : ck_G} (X : ck_X p s m meth c args cX7_told 2 (some .int) RX7 wsX7_told) {post : Int32 → ck_S → Prop} {σ : ck_S} {a0 : Int32} {H : Heap} {locs : List Loc} {ls : Array Slot} (h : sp_X7_told (ck_nc G) (ck_nb G) σ a0 post) (hw : ck_H G s H locs σ) (hl : lv_has ls 2 [(0, .int a0)]) : W p l e ({ frames := 1, cells := 0, slots := 0, locals := 20 } : Room) s m args below meth c H locs 0 0 (MQ below (va_Qi post (ck_Q G) (ck_A G s.heap.size)) args s 0 0 (ck_A G s.heap.size)) (F0 m 0 ls []) := by
  obtain ⟨hx, hb, hr, hml, hown, hts, hlocks⟩ := id X
  unfold sp_X7_told at h
  refine lv_iload_n hx hb dX7_told_0 rfl (lv_at hl 0 rfl) ?_
  refine lv_sipush (v := 3000) hx hb dX7_told_1 (by decide) ?_
  obtain ⟨hA, hB⟩ := h
  refine lv_icmp_gt (tgt := 9) hx hb dX7_told_4 (by decide) (fun c1 => ?_) (fun c1 => ?_)
  · have h := hA c1
    refine lv_iload_n hx hb dX7_told_9 rfl (lv_at hl 0 rfl) ?_
    refine lv_sipush (v := 4150) hx hb dX7_told_10 (by decide) ?_
    obtain ⟨hA, hB⟩ := h
    refine lv_icmp_lt (tgt := 20) hx hb dX7_told_13 (by decide) (fun c2 => ?_) (fun c2 => ?_)
    · have h := hA c2
      refine lv_iconst (v := 0) hx hb dX7_told_20 (by decide) ?_
      refine lv_istore_n (lv' := [(1, .int 0), (0, .int a0)]) hx hb dX7_told_21 rfl hl (by decide) rfl (fun ls hl => ?_)
      obtain ⟨fu, h⟩ := h
      exact wk_X7_told_22 X fu _ _ _ _ _ _ h hw (lv_sub hl [1, 0] rfl)
    · have h := hB c2
      refine lv_sipush (v := 1024) hx hb dX7_told_16 (by decide) ?_
      exact ck_iret X hw h dX7_told_19
  · have h := hB c1
    refine lv_iconst (v := 0) hx hb dX7_told_7 (by decide) ?_
    exact ck_iret X hw h dX7_told_8
set_option maxHeartbeats 4000000 in
set_option maxRecDepth 100000 in
theorem ct_X7_told (l : Launch) (G : ck_G) {a0 : Int32} {σ : ck_S} {post : Int32 → ck_S → Prop} (h : sp_X7_told (ck_nc G) (ck_nb G) σ a0 post) : ck_Mi l yX7_told wsX7_told ({ frames := 1, cells := 0, slots := 0, locals := 20 } : Room) G σ [.int a0] post := by
  intro sz
  refine Met.ofW (cc := cX7_told) (maxL := 2) (ret := (some .int)) (by decide) rfl ?_
  intro p e s m args below meth c s₁ B hml hv
  obtain ⟨rfl, rfl, hw⟩ := ck_enter hv
  have hl := lv_entry ([.int a0]) (n := 2) (Nat.le_of_ble_eq_true rfl)
  rw [lg_entry_eq]
  generalize (lg_sl ([.int a0]) ++ List.replicate (2 - (lg_sl ([.int a0])).length) Slot.unset).toArray = ls at hl ⊢
  have hl : lv_has ls 2 [(0, .int a0)] := hl
  exact wk_X7_told_0 ⟨B.exec, B.bytes, B.returns, hml, findClass_of_methodNamed B.named, atoms_spec (ws := wsX7_told) B.pre, B.notSynchronized⟩ h hw hl
def sp_X7_sizeOf (nc nb : Nat) (σ : ck_S) (a0 : Int64) (post : Int64 → ck_S → Prop) : Prop := ((0 ≤ (lg_cmp a0 (0 : Int64)) → (post a0 σ)) ∧ (¬ 0 ≤ (lg_cmp a0 (0 : Int64)) → (post (-a0) σ)))
set_option maxHeartbeats 4000000 in
set_option maxRecDepth 100000 in
theorem wk_X7_sizeOf_0 {p : Program} {l : Launch} {e : Env} {s : State} {m : MethodId} {args : Array Value} {below : List Frame} {meth : Method} {c : Code} {G : ck_G} (X : ck_X p s m meth c args cX7_sizeOf 2 (some .long) RX7 wsX7_sizeOf) {post : Int64 → ck_S → Prop} {σ : ck_S} {a0 : Int64} {H : Heap} {locs : List Loc} {ls : Array Slot} (h : sp_X7_sizeOf (ck_nc G) (ck_nb G) σ a0 post) (hw : ck_H G s H locs σ) (hl : lv_has ls 2 [(0, .long a0)]) : W p l e ({ frames := 0, cells := 0, slots := 0, locals := 0 } : Room) s m args below meth c H locs 0 0 (MQ below (va_Ql post (ck_Q G) (ck_A G s.heap.size)) args s 0 0 (ck_A G s.heap.size)) (F0 m 0 ls []) := by
  obtain ⟨hx, hb, hr, hml, hown, hts, hlocks⟩ := id X
  unfold sp_X7_sizeOf at h
  refine lv_lload_n hx hb dX7_sizeOf_0 rfl (lv_at hl 0 rfl) ?_
  refine lv_lconst (v := 0) hx hb dX7_sizeOf_1 (by decide) ?_
  refine W.lcmp hx hb dX7_sizeOf_2 ?_
  obtain ⟨hA, hB⟩ := h
  refine lv_if_ge (tgt := 11) hx hb dX7_sizeOf_3 (by decide) (fun c1 => ?_) (fun c1 => ?_)
  · have h := hA c1
    refine lv_lload_n hx hb dX7_sizeOf_11 rfl (lv_at hl 0 rfl) ?_
    exact ck_lret X hw h dX7_sizeOf_12
  · have h := hB c1
    refine lv_lload_n hx hb dX7_sizeOf_6 rfl (lv_at hl 0 rfl) ?_
    refine lv_lneg hx hb dX7_sizeOf_7 ?_
    refine lv_goto (tgt := 12) hx hb dX7_sizeOf_8 (by decide) ?_
    exact ck_lret X hw h dX7_sizeOf_12
set_option maxHeartbeats 4000000 in
set_option maxRecDepth 100000 in
theorem ct_X7_sizeOf (l : Launch) (G : ck_G) {a0 : Int64} {σ : ck_S} {post : Int64 → ck_S → Prop} (h : sp_X7_sizeOf (ck_nc G) (ck_nb G) σ a0 post) : ck_Ml l yX7_sizeOf wsX7_sizeOf ({ frames := 0, cells := 0, slots := 0, locals := 0 } : Room) G σ [.long a0] post := by
  intro sz
  refine Met.ofW (cc := cX7_sizeOf) (maxL := 2) (ret := (some .long)) (by decide) rfl ?_
  intro p e s m args below meth c s₁ B hml hv
  obtain ⟨rfl, rfl, hw⟩ := ck_enter hv
  have hl := lv_entry ([.long a0]) (n := 2) (Nat.le_of_ble_eq_true rfl)
  rw [lg_entry_eq]
  generalize (lg_sl ([.long a0]) ++ List.replicate (2 - (lg_sl ([.long a0])).length) Slot.unset).toArray = ls at hl ⊢
  have hl : lv_has ls 2 [(0, .long a0)] := hl
  exact wk_X7_sizeOf_0 ⟨B.exec, B.bytes, B.returns, hml, findClass_of_methodNamed B.named, atoms_spec (ws := wsX7_sizeOf) B.pre, B.notSynchronized⟩ h hw hl
def sp_X7_countCharge_127 (nc nb : Nat) (post : ck_S → Prop) (σ : ck_S) (s0 : Int32) : Prop := ∀ σ1, σ1 = ck_ui σ 10 0 17 s0 → (((ck_gi σ1 10 0 17) < 60 → (post σ1)) ∧ (¬ (ck_gi σ1 10 0 17) < 60 → (sp_X7_areAllValid nc nb σ1 (fun x_4 σ3 => ((x_4 = 0 → (post σ3)) ∧ (¬ x_4 = 0 → (sp_X7_sum nc nb σ3 (fun x_7 σ6 => (¬ (6 * (ck_gi σ6 10 0 1)) = 0) ∧ sp_X7_told nc nb σ6 (x_7 / (6 * (ck_gi σ6 10 0 1))) (fun x_10 σ9 => ∀ σ11, σ11 = ck_uj σ9 10 0 11 ((8 * (ck_gj σ3 10 0 3)) * (x_10.toInt64)) → post σ11)))))))))
def bd_X7_countCharge_76 (nc nb : Nat) (post : ck_S → Prop) (K76 : ck_S → Prop) (σ : ck_S) : Prop := (((lg_cmp (ck_gj σ 10 0 12) (80000 : Int64)) < 0 → (sp_X7_sizeOf nc nb σ (ck_gj σ 10 0 13) (fun y_3 σ2 => ((0 ≤ (lg_cmp y_3 (4 : Int64)) → (sp_X7_countCharge_127 nc nb post σ2 0)) ∧ (¬ 0 ≤ (lg_cmp y_3 (4 : Int64)) → (sp_X7_countCharge_127 nc nb post σ2 ((ck_gi σ2 10 0 17) + 1))))))) ∧ (¬ (lg_cmp (ck_gj σ 10 0 12) (80000 : Int64)) < 0 → (∀ σ5, σ5 = ck_uj σ 10 0 12 ((ck_gj σ 10 0 12) - 80000) → K76 σ5)))
def sp_X7_countCharge_57 (nc nb : Nat) (post : ck_S → Prop) (σ : ck_S) (s0 : Int64) : Prop := ∀ σ1, σ1 = ck_uj σ 10 0 11 s0 → sp_X7_sizeOf nc nb σ1 (ck_gj σ1 10 0 13) (fun y_3 σ2 => ∀ σ4, σ4 = ck_uj σ2 10 0 12 ((ck_gj σ1 10 0 12) + y_3) → lx_1 (bd_X7_countCharge_76 nc nb post) σ4)
def sp_X7_countCharge (nc nb : Nat) (σ : ck_S) (post : ck_S → Prop) : Prop := ∀ y_1, y_1 = (8192 * (ck_gj σ 10 0 3)) → ∀ σ2, σ2 = ck_uj σ 10 0 11 ((ck_gj σ 10 0 11) - (1024 * (ck_gj σ 10 0 13))) → ((0 ≤ (lg_cmp (ck_gj σ2 10 0 11) (0 : Int64)) → ((((lg_cmp (ck_gj σ2 10 0 11) y_1) ≤ 0 → (sp_X7_countCharge_57 nc nb post σ2 (ck_gj σ2 10 0 11))) ∧ (¬ (lg_cmp (ck_gj σ2 10 0 11) y_1) ≤ 0 → (sp_X7_countCharge_57 nc nb post σ2 y_1))))) ∧ (¬ 0 ≤ (lg_cmp (ck_gj σ2 10 0 11) (0 : Int64)) → (sp_X7_countCharge_57 nc nb post σ2 0)))
set_option maxHeartbeats 4000000 in
set_option maxRecDepth 100000 in
theorem wk_X7_countCharge_127 {p : Program} {l : Launch} {e : Env} {s : State} {m : MethodId} {args : Array Value} {below : List Frame} {meth : Method} {c : Code} {G : ck_G} (X : ck_X p s m meth c args cX7_countCharge 3 none RX7 wsX7_countCharge) (hM : ck_inM G) {post : ck_S → Prop} {σ : ck_S} {s0 : Int32} {H : Heap} {locs : List Loc} {ls : Array Slot} (h : sp_X7_countCharge_127 (ck_nc G) (ck_nb G) post σ s0) (hw : ck_H G s H locs σ) (hl : lv_has ls 3 [(0, .ref (ck_ad G 10 0))]) : W p l e ({ frames := 4, cells := 0, slots := 0, locals := 99 } : Room) s m args below meth c H locs 0 0 (MQ below (va_Qv post (ck_Q G) (ck_A G s.heap.size)) args s 0 0 (ck_A G s.heap.size)) (F0 m 127 ls [.int s0, .ref (ck_ad G 10 0)]) := by
  obtain ⟨hx, hb, hr, hml, hown, hts, hlocks⟩ := id X
  have inX7 : ∀ w ∈ wsX70, w ∈ wsX7_countCharge := fun _ h => List.mem_cons_of_mem _ (List.mem_append_right _ (h))
  unfold sp_X7_countCharge_127 at h
  refine ck_puti hx hb hts inX7 tyX7 tyX7_ok nmX7 hown hw (hM 10 (by decide) (by decide)) rfl rfl 17 (by decide) (hts _ (List.mem_of_getElem? (i := 9) rfl)) rfl rfl rfl (Nat.le_of_ble_eq_true rfl) rfl dX7_countCharge_127 (fun H locs hw => ?_)
  obtain ⟨σ1, eσ1⟩ : ∃ z : ck_S, z = ck_ui σ 10 0 17 s0 := ⟨_, rfl⟩
  rw [← eσ1] at hw
  have h := h σ1 eσ1
  refine lv_aload_n hx hb dX7_countCharge_130 rfl (lv_at hl 0 rfl) ?_
  refine ck_get hx hb hts inX7 hown hw (hM 10 (by decide) (by decide)) rfl rfl 17 (by decide) (hts _ (List.mem_of_getElem? (i := 9) rfl)) rfl dX7_countCharge_131 ?_
  refine lv_bipush (v := 60) hx hb dX7_countCharge_134 (by decide) ?_
  obtain ⟨hA, hB⟩ := h
  refine lv_icmp_lt (tgt := 175) hx hb dX7_countCharge_136 (by decide) (fun c2 => ?_) (fun c2 => ?_)
  · have h := hA c2
    exact ck_vret X hw h dX7_countCharge_175
  · have h := hB c2
    refine lv_aload_n hx hb dX7_countCharge_139 rfl (lv_at hl 0 rfl) ?_
    refine ck_callVi (rest := []) ⟨hx, hb, hml, hown, hts⟩ hw (hM 10 (by decide) (by decide)) rfl rfl (ct_X7_areAllValid l G hM h) (cwV 0 hts gX7_countCharge_X7_areAllValid rfl rfl rfl (by decide +kernel) ⟨(Nat.le_of_ble_eq_true rfl), (Nat.le_of_ble_eq_true rfl)⟩) rfl hl.1 rfl (Nat.le_of_ble_eq_true rfl) dX7_countCharge_140 ⟨(Nat.le_of_ble_eq_true rfl), (Nat.le_of_ble_eq_true rfl)⟩ (fun x_4 σ3 H locs h hw => ?_)
    obtain ⟨hA, hB⟩ := h
    refine lv_if_eq (tgt := 175) hx hb dX7_countCharge_143 (by decide) (fun c5 => ?_) (fun c5 => ?_)
    · have h := hA c5
      exact ck_vret X hw h dX7_countCharge_175
    · have h := hB c5
      refine lv_aload_n hx hb dX7_countCharge_146 rfl (lv_at hl 0 rfl) ?_
      refine lv_ldc2 hx hb hown (hts _ (List.mem_of_getElem? (i := 10) rfl)) dX7_countCharge_147 ?_
      refine lv_aload_n hx hb dX7_countCharge_150 rfl (lv_at hl 0 rfl) ?_
      refine ck_get hx hb hts inX7 hown hw (hM 10 (by decide) (by decide)) rfl rfl 3 (by decide) (hts _ (List.mem_of_getElem? (i := 2) rfl)) rfl dX7_countCharge_151 ?_
      refine lv_lmul hx hb dX7_countCharge_154 ?_
      refine lv_aload_n hx hb dX7_countCharge_155 rfl (lv_at hl 0 rfl) ?_
      refine ck_callVi (rest := [.long (8 * (ck_gj σ3 10 0 3)), .ref (ck_ad G 10 0)]) ⟨hx, hb, hml, hown, hts⟩ hw (hM 10 (by decide) (by decide)) rfl rfl (ct_X7_sum l G hM h) (cwV 0 hts gX7_countCharge_X7_sum rfl rfl rfl (by decide +kernel) ⟨(Nat.le_of_ble_eq_true rfl), (Nat.le_of_ble_eq_true rfl)⟩) rfl hl.1 rfl (Nat.le_of_ble_eq_true rfl) dX7_countCharge_156 ⟨(Nat.le_of_ble_eq_true rfl), (Nat.le_of_ble_eq_true rfl)⟩ (fun x_7 σ6 H locs h hw => ?_)
      refine lv_bipush (v := 6) hx hb dX7_countCharge_159 (by decide) ?_
      refine lv_aload_n hx hb dX7_countCharge_161 rfl (lv_at hl 0 rfl) ?_
      refine ck_get hx hb hts inX7 hown hw (hM 10 (by decide) (by decide)) rfl rfl 1 (by decide) (hts _ (List.mem_of_getElem? (i := 11) rfl)) rfl dX7_countCharge_162 ?_
      refine lv_imul hx hb dX7_countCharge_165 ?_
      obtain ⟨n8, h⟩ := h
      refine lv_idiv hx hb dX7_countCharge_166 n8 ?_
      refine ck_callSi (rest := [.long (8 * (ck_gj σ3 10 0 3)), .ref (ck_ad G 10 0)]) ⟨hx, hb, hml, hown, hts⟩ hw (ct_X7_told l G h) (va_cwS 1 hts gX7_countCharge_X7_told rfl rfl rfl (by decide +kernel) ⟨(Nat.le_of_ble_eq_true rfl), (Nat.le_of_ble_eq_true rfl)⟩) rfl hl.1 rfl (Nat.le_of_ble_eq_true rfl) dX7_countCharge_167 ⟨(Nat.le_of_ble_eq_true rfl), (Nat.le_of_ble_eq_true rfl)⟩ (fun x_10 σ9 H locs h hw => ?_)
      refine lv_i2l hx hb dX7_countCharge_170 rfl ?_
      refine lv_lmul hx hb dX7_countCharge_171 ?_
      refine ck_putj hx hb hts inX7 tyX7 tyX7_ok nmX7 hown hw (hM 10 (by decide) (by decide)) rfl rfl 11 (by decide) (hts _ (List.mem_of_getElem? (i := 3) rfl)) rfl rfl rfl (Nat.le_of_ble_eq_true rfl) rfl dX7_countCharge_172 (fun H locs hw => ?_)
      obtain ⟨σ11, eσ11⟩ : ∃ z : ck_S, z = ck_uj σ9 10 0 11 ((8 * (ck_gj σ3 10 0 3)) * (x_10.toInt64)) := ⟨_, rfl⟩
      rw [← eσ11] at hw
      have h := h σ11 eσ11
      exact ck_vret X hw h dX7_countCharge_175
set_option maxHeartbeats 4000000 in
set_option maxRecDepth 100000 in
theorem wk_X7_countCharge_76 {p : Program} {l : Launch} {e : Env} {s : State} {m : MethodId} {args : Array Value} {below : List Frame} {meth : Method} {c : Code} {G : ck_G} (X : ck_X p s m meth c args cX7_countCharge 3 none RX7 wsX7_countCharge) (hM : ck_inM G) {post : ck_S → Prop} : ∀ (fu : Nat) (σ : ck_S) (H : Heap) (locs : List Loc) (ls : Array Slot), lk_1 (bd_X7_countCharge_76 (ck_nc G) (ck_nb G) post) fu σ → ck_H G s H locs σ → lv_has ls 3 [(0, .ref (ck_ad G 10 0))] → W p l e ({ frames := 4, cells := 0, slots := 0, locals := 99 } : Room) s m args below meth c H locs 0 0 (MQ below (va_Qv post (ck_Q G) (ck_A G s.heap.size)) args s 0 0 (ck_A G s.heap.size)) (F0 m 76 ls []) := by
  obtain ⟨hx, hb, hr, hml, hown, hts, hlocks⟩ := id X
  have inX7 : ∀ w ∈ wsX70, w ∈ wsX7_countCharge := fun _ h => List.mem_cons_of_mem _ (List.mem_append_right _ (h))
  intro fu
  induction fu with
  | zero => intro σ H locs ls h hw hl; exact h.elim
  | succ fu hK76 =>
    intro σ H locs ls h hw hl
    have h : bd_X7_countCharge_76 (ck_nc G) (ck_nb G) post (lk_1 (bd_X7_countCharge_76 (ck_nc G) (ck_nb G) post) fu) σ := h
    unfold bd_X7_countCharge_76 at h
    refine lv_aload_n hx hb dX7_countCharge_76 rfl (lv_at hl 0 rfl) ?_
    refine ck_get hx hb hts inX7 hown hw (hM 10 (by decide) (by decide)) rfl rfl 12 (by decide) (hts _ (List.mem_of_getElem? (i := 6) rfl)) rfl dX7_countCharge_77 ?_
    refine lv_ldc2 hx hb hown (hts _ (List.mem_of_getElem? (i := 7) rfl)) dX7_countCharge_80 ?_
    refine W.lcmp hx hb dX7_countCharge_83 ?_
    obtain ⟨hA, hB⟩ := h
    refine lv_if_lt (tgt := 102) hx hb dX7_countCharge_84 (by decide) (fun c1 => ?_) (fun c1 => ?_)
    · have h := hA c1
      refine lv_aload_n hx hb dX7_countCharge_102 rfl (lv_at hl 0 rfl) ?_
      refine lv_aload_n hx hb dX7_countCharge_103 rfl (lv_at hl 0 rfl) ?_
      refine ck_get hx hb hts inX7 hown hw (hM 10 (by decide) (by decide)) rfl rfl 13 (by decide) (hts _ (List.mem_of_getElem? (i := 5) rfl)) rfl dX7_countCharge_104 ?_
      refine ck_callSl (rest := [.ref (ck_ad G 10 0)]) ⟨hx, hb, hml, hown, hts⟩ hw (ct_X7_sizeOf l G h) (va_cwS 1 hts gX7_countCharge_X7_sizeOf rfl rfl rfl (by decide +kernel) ⟨(Nat.le_of_ble_eq_true rfl), (Nat.le_of_ble_eq_true rfl)⟩) rfl hl.1 rfl (Nat.le_of_ble_eq_true rfl) dX7_countCharge_107 ⟨(Nat.le_of_ble_eq_true rfl), (Nat.le_of_ble_eq_true rfl)⟩ (fun y_3 σ2 H locs h hw => ?_)
      refine lv_ldc2 hx hb hown (hts _ (List.mem_of_getElem? (i := 8) rfl)) dX7_countCharge_110 ?_
      refine W.lcmp hx hb dX7_countCharge_113 ?_
      obtain ⟨hA, hB⟩ := h
      refine lv_if_ge (tgt := 126) hx hb dX7_countCharge_114 (by decide) (fun c4 => ?_) (fun c4 => ?_)
      · have h := hA c4
        refine lv_iconst (v := 0) hx hb dX7_countCharge_126 (by decide) ?_
        exact wk_X7_countCharge_127 X hM h hw (lv_sub hl [0] rfl)
      · have h := hB c4
        refine lv_aload_n hx hb dX7_countCharge_117 rfl (lv_at hl 0 rfl) ?_
        refine ck_get hx hb hts inX7 hown hw (hM 10 (by decide) (by decide)) rfl rfl 17 (by decide) (hts _ (List.mem_of_getElem? (i := 9) rfl)) rfl dX7_countCharge_118 ?_
        refine lv_iconst (v := 1) hx hb dX7_countCharge_121 (by decide) ?_
        refine lv_iadd hx hb dX7_countCharge_122 ?_
        refine lv_goto (tgt := 127) hx hb dX7_countCharge_123 (by decide) ?_
        exact wk_X7_countCharge_127 X hM h hw (lv_sub hl [0] rfl)
    · have h := hB c1
      refine lv_aload_n hx hb dX7_countCharge_87 rfl (lv_at hl 0 rfl) ?_
      refine lv_aload_n hx hb dX7_countCharge_88 rfl (lv_at hl 0 rfl) ?_
      refine ck_get hx hb hts inX7 hown hw (hM 10 (by decide) (by decide)) rfl rfl 12 (by decide) (hts _ (List.mem_of_getElem? (i := 6) rfl)) rfl dX7_countCharge_89 ?_
      refine lv_ldc2 hx hb hown (hts _ (List.mem_of_getElem? (i := 7) rfl)) dX7_countCharge_92 ?_
      refine lv_lsub hx hb dX7_countCharge_95 ?_
      refine ck_putj hx hb hts inX7 tyX7 tyX7_ok nmX7 hown hw (hM 10 (by decide) (by decide)) rfl rfl 12 (by decide) (hts _ (List.mem_of_getElem? (i := 6) rfl)) rfl rfl rfl (Nat.le_of_ble_eq_true rfl) rfl dX7_countCharge_96 (fun H locs hw => ?_)
      obtain ⟨σ5, eσ5⟩ : ∃ z : ck_S, z = ck_uj σ 10 0 12 ((ck_gj σ 10 0 12) - 80000) := ⟨_, rfl⟩
      rw [← eσ5] at hw
      have h := h σ5 eσ5
      refine lv_goto (tgt := 76) hx hb dX7_countCharge_99 (by decide) ?_
      exact hK76 _ _ _ _ h hw (lv_sub hl [0] rfl)
set_option maxHeartbeats 4000000 in
set_option maxRecDepth 100000 in
theorem wk_X7_countCharge_57 {p : Program} {l : Launch} {e : Env} {s : State} {m : MethodId} {args : Array Value} {below : List Frame} {meth : Method} {c : Code} {G : ck_G} (X : ck_X p s m meth c args cX7_countCharge 3 none RX7 wsX7_countCharge) (hM : ck_inM G) {post : ck_S → Prop} {σ : ck_S} {s0 : Int64} {H : Heap} {locs : List Loc} {ls : Array Slot} (h : sp_X7_countCharge_57 (ck_nc G) (ck_nb G) post σ s0) (hw : ck_H G s H locs σ) (hl : lv_has ls 3 [(0, .ref (ck_ad G 10 0))]) : W p l e ({ frames := 4, cells := 0, slots := 0, locals := 99 } : Room) s m args below meth c H locs 0 0 (MQ below (va_Qv post (ck_Q G) (ck_A G s.heap.size)) args s 0 0 (ck_A G s.heap.size)) (F0 m 57 ls [.long s0, .ref (ck_ad G 10 0)]) := by
  obtain ⟨hx, hb, hr, hml, hown, hts, hlocks⟩ := id X
  have inX7 : ∀ w ∈ wsX70, w ∈ wsX7_countCharge := fun _ h => List.mem_cons_of_mem _ (List.mem_append_right _ (h))
  unfold sp_X7_countCharge_57 at h
  refine ck_putj hx hb hts inX7 tyX7 tyX7_ok nmX7 hown hw (hM 10 (by decide) (by decide)) rfl rfl 11 (by decide) (hts _ (List.mem_of_getElem? (i := 3) rfl)) rfl rfl rfl (Nat.le_of_ble_eq_true rfl) rfl dX7_countCharge_57 (fun H locs hw => ?_)
  obtain ⟨σ1, eσ1⟩ : ∃ z : ck_S, z = ck_uj σ 10 0 11 s0 := ⟨_, rfl⟩
  rw [← eσ1] at hw
  have h := h σ1 eσ1
  refine lv_aload_n hx hb dX7_countCharge_60 rfl (lv_at hl 0 rfl) ?_
  refine lv_aload_n hx hb dX7_countCharge_61 rfl (lv_at hl 0 rfl) ?_
  refine ck_get hx hb hts inX7 hown hw (hM 10 (by decide) (by decide)) rfl rfl 12 (by decide) (hts _ (List.mem_of_getElem? (i := 6) rfl)) rfl dX7_countCharge_62 ?_
  refine lv_aload_n hx hb dX7_countCharge_65 rfl (lv_at hl 0 rfl) ?_
  refine ck_get hx hb hts inX7 hown hw (hM 10 (by decide) (by decide)) rfl rfl 13 (by decide) (hts _ (List.mem_of_getElem? (i := 5) rfl)) rfl dX7_countCharge_66 ?_
  refine ck_callSl (rest := [.long (ck_gj σ1 10 0 12), .ref (ck_ad G 10 0)]) ⟨hx, hb, hml, hown, hts⟩ hw (ct_X7_sizeOf l G h) (va_cwS 1 hts gX7_countCharge_X7_sizeOf rfl rfl rfl (by decide +kernel) ⟨(Nat.le_of_ble_eq_true rfl), (Nat.le_of_ble_eq_true rfl)⟩) rfl hl.1 rfl (Nat.le_of_ble_eq_true rfl) dX7_countCharge_69 ⟨(Nat.le_of_ble_eq_true rfl), (Nat.le_of_ble_eq_true rfl)⟩ (fun y_3 σ2 H locs h hw => ?_)
  refine lv_ladd hx hb dX7_countCharge_72 ?_
  refine ck_putj hx hb hts inX7 tyX7 tyX7_ok nmX7 hown hw (hM 10 (by decide) (by decide)) rfl rfl 12 (by decide) (hts _ (List.mem_of_getElem? (i := 6) rfl)) rfl rfl rfl (Nat.le_of_ble_eq_true rfl) rfl dX7_countCharge_73 (fun H locs hw => ?_)
  obtain ⟨σ4, eσ4⟩ : ∃ z : ck_S, z = ck_uj σ2 10 0 12 ((ck_gj σ1 10 0 12) + y_3) := ⟨_, rfl⟩
  rw [← eσ4] at hw
  have h := h σ4 eσ4
  obtain ⟨fu, h⟩ := h
  exact wk_X7_countCharge_76 X hM fu _ _ _ _ h hw (lv_sub hl [0] rfl)
set_option maxHeartbeats 4000000 in
set_option maxRecDepth 100000 in
theorem wk_X7_countCharge_0 {p : Program} {l : Launch} {e : Env} {s : State} {m : MethodId} {args : Array Value} {below : List Frame} {meth : Method} {c : Code} {G : ck_G} (X : ck_X p s m meth c args cX7_countCharge 3 none RX7 wsX7_countCharge) (hM : ck_inM G) {post : ck_S → Prop} {σ : ck_S} {H : Heap} {locs : List Loc} {ls : Array Slot} (h : sp_X7_countCharge (ck_nc G) (ck_nb G) σ post) (hw : ck_H G s H locs σ) (hl : lv_has ls 3 [(0, .ref (ck_ad G 10 0))]) : W p l e ({ frames := 4, cells := 0, slots := 0, locals := 99 } : Room) s m args below meth c H locs 0 0 (MQ below (va_Qv post (ck_Q G) (ck_A G s.heap.size)) args s 0 0 (ck_A G s.heap.size)) (F0 m 0 ls []) := by
  obtain ⟨hx, hb, hr, hml, hown, hts, hlocks⟩ := id X
  have inX7 : ∀ w ∈ wsX70, w ∈ wsX7_countCharge := fun _ h => List.mem_cons_of_mem _ (List.mem_append_right _ (h))
  unfold sp_X7_countCharge at h
  refine lv_ldc2 hx hb hown (hts _ (List.mem_of_getElem? (i := 1) rfl)) dX7_countCharge_0 ?_
  refine lv_aload_n hx hb dX7_countCharge_3 rfl (lv_at hl 0 rfl) ?_
  refine ck_get hx hb hts inX7 hown hw (hM 10 (by decide) (by decide)) rfl rfl 3 (by decide) (hts _ (List.mem_of_getElem? (i := 2) rfl)) rfl dX7_countCharge_4 ?_
  refine lv_lmul hx hb dX7_countCharge_7 ?_
  refine lv_topl (fun y_1 ey_1 => ?_)
  have h := h y_1 ey_1
  refine lv_lstore_n (lv' := [(1, .long y_1), (0, .ref (ck_ad G 10 0))]) hx hb dX7_countCharge_8 rfl hl (by decide) rfl (fun ls hl => ?_)
  refine lv_aload_n hx hb dX7_countCharge_9 rfl (lv_at hl 1 rfl) ?_
  refine lv_aload_n hx hb dX7_countCharge_10 rfl (lv_at hl 1 rfl) ?_
  refine ck_get hx hb hts inX7 hown hw (hM 10 (by decide) (by decide)) rfl rfl 11 (by decide) (hts _ (List.mem_of_getElem? (i := 3) rfl)) rfl dX7_countCharge_11 ?_
  refine lv_ldc2 hx hb hown (hts _ (List.mem_of_getElem? (i := 4) rfl)) dX7_countCharge_14 ?_
  refine lv_aload_n hx hb dX7_countCharge_17 rfl (lv_at hl 1 rfl) ?_
  refine ck_get hx hb hts inX7 hown hw (hM 10 (by decide) (by decide)) rfl rfl 13 (by decide) (hts _ (List.mem_of_getElem? (i := 5) rfl)) rfl dX7_countCharge_18 ?_
  refine lv_lmul hx hb dX7_countCharge_21 ?_
  refine lv_lsub hx hb dX7_countCharge_22 ?_
  refine ck_putj hx hb hts inX7 tyX7 tyX7_ok nmX7 hown hw (hM 10 (by decide) (by decide)) rfl rfl 11 (by decide) (hts _ (List.mem_of_getElem? (i := 3) rfl)) rfl rfl rfl (Nat.le_of_ble_eq_true rfl) rfl dX7_countCharge_23 (fun H locs hw => ?_)
  obtain ⟨σ2, eσ2⟩ : ∃ z : ck_S, z = ck_uj σ 10 0 11 ((ck_gj σ 10 0 11) - (1024 * (ck_gj σ 10 0 13))) := ⟨_, rfl⟩
  rw [← eσ2] at hw
  have h := h σ2 eσ2
  refine lv_aload_n hx hb dX7_countCharge_26 rfl (lv_at hl 1 rfl) ?_
  refine lv_aload_n hx hb dX7_countCharge_27 rfl (lv_at hl 1 rfl) ?_
  refine ck_get hx hb hts inX7 hown hw (hM 10 (by decide) (by decide)) rfl rfl 11 (by decide) (hts _ (List.mem_of_getElem? (i := 3) rfl)) rfl dX7_countCharge_28 ?_
  refine lv_lconst (v := 0) hx hb dX7_countCharge_31 (by decide) ?_
  refine W.lcmp hx hb dX7_countCharge_32 ?_
  obtain ⟨hA, hB⟩ := h
  refine lv_if_ge (tgt := 40) hx hb dX7_countCharge_33 (by decide) (fun c3 => ?_) (fun c3 => ?_)
  · have h := hA c3
    refine lv_aload_n hx hb dX7_countCharge_40 rfl (lv_at hl 1 rfl) ?_
    refine ck_get hx hb hts inX7 hown hw (hM 10 (by decide) (by decide)) rfl rfl 11 (by decide) (hts _ (List.mem_of_getElem? (i := 3) rfl)) rfl dX7_countCharge_41 ?_
    refine lv_lload_n hx hb dX7_countCharge_44 rfl (lv_at hl 0 rfl) ?_
    refine W.lcmp hx hb dX7_countCharge_45 ?_
    obtain ⟨hA, hB⟩ := h
    refine lv_if_le (tgt := 53) hx hb dX7_countCharge_46 (by decide) (fun c4 => ?_) (fun c4 => ?_)
    · have h := hA c4
      refine lv_aload_n hx hb dX7_countCharge_53 rfl (lv_at hl 1 rfl) ?_
      refine ck_get hx hb hts inX7 hown hw (hM 10 (by decide) (by decide)) rfl rfl 11 (by decide) (hts _ (List.mem_of_getElem? (i := 3) rfl)) rfl dX7_countCharge_54 ?_
      exact wk_X7_countCharge_57 X hM h hw (lv_sub hl [1] rfl)
    · have h := hB c4
      refine lv_lload_n hx hb dX7_countCharge_49 rfl (lv_at hl 0 rfl) ?_
      refine lv_goto (tgt := 57) hx hb dX7_countCharge_50 (by decide) ?_
      exact wk_X7_countCharge_57 X hM h hw (lv_sub hl [1] rfl)
  · have h := hB c3
    refine lv_lconst (v := 0) hx hb dX7_countCharge_36 (by decide) ?_
    refine lv_goto (tgt := 57) hx hb dX7_countCharge_37 (by decide) ?_
    exact wk_X7_countCharge_57 X hM h hw (lv_sub hl [1] rfl)
set_option maxHeartbeats 4000000 in
set_option maxRecDepth 100000 in
theorem ct_X7_countCharge (l : Launch) (G : ck_G) (hM : ck_inM G) {σ : ck_S} {post : ck_S → Prop} (h : sp_X7_countCharge (ck_nc G) (ck_nb G) σ post) : ck_Mv l yX7_countCharge wsX7_countCharge ({ frames := 4, cells := 0, slots := 0, locals := 99 } : Room) G σ [.ref (ck_ad G 10 0)] post := by
  intro sz
  refine Met.ofW (cc := cX7_countCharge) (maxL := 3) (ret := none) (by decide) rfl ?_
  intro p e s m args below meth c s₁ B hml hv
  obtain ⟨rfl, rfl, hw⟩ := ck_enter hv
  have hl := lv_entry ([.ref (ck_ad G 10 0)]) (n := 3) (Nat.le_of_ble_eq_true rfl)
  rw [lg_entry_eq]
  generalize (lg_sl ([.ref (ck_ad G 10 0)]) ++ List.replicate (3 - (lg_sl ([.ref (ck_ad G 10 0)])).length) Slot.unset).toArray = ls at hl ⊢
  have hl : lv_has ls 3 [(0, .ref (ck_ad G 10 0))] := hl
  exact wk_X7_countCharge_0 ⟨B.exec, B.bytes, B.returns, hml, findClass_of_methodNamed B.named, atoms_spec (ws := wsX7_countCharge) B.pre, B.notSynchronized⟩ hM h hw hl
