def sp_J9_floorMod_7cf53 (nc nb : Nat) (σ : ck_S) (a0 : Int32) (a1 : Int32) (post : Int32 → ck_S → Prop) : Prop := (¬ a1 = 0) ∧ ∀ x_2, x_2 = (a0 - a0 / a1 * a1) → ((0 ≤ (a0 ^^^ a1) → (post x_2 σ)) ∧ (¬ 0 ≤ (a0 ^^^ a1) → (((x_2 = 0 → (post x_2 σ)) ∧ (¬ x_2 = 0 → (post (x_2 + a1) σ))))))
set_option maxHeartbeats 4000000 in
set_option maxRecDepth 100000 in
theorem wk_J9_floorMod_7cf53_0 {p : Program} {l : Launch} {e : Env} {s : State} {m : MethodId} {args : Array Value} {below : List Frame} {meth : Method} {c : Code} {G : ck_G} (X : ck_X p s m meth c args cJ9_floorMod_7cf53 3 (some .int) RJ9 wsJ9_floorMod_7cf53) {post : Int32 → ck_S → Prop} {σ : ck_S} {a0 : Int32} {a1 : Int32} {H : Heap} {locs : List Loc} {ls : Array Slot} (h : sp_J9_floorMod_7cf53 (ck_nc G) (ck_nb G) σ a0 a1 post) (hw : ck_H G s H locs σ) (hl : lv_has ls 3 [(0, .int a0), (1, .int a1)]) : W p l e ({ frames := 0, cells := 0, slots := 0, locals := 0 } : Room) s m args below meth c H locs 0 0 (MQ below (va_Qi post (ck_Q G) (ck_A G s.heap.size)) args s 0 0 (ck_A G s.heap.size)) (F0 m 0 ls []) := by
  obtain ⟨hx, hb, hr, hml, hown, hts, hlocks⟩ := id X
  unfold sp_J9_floorMod_7cf53 at h
  refine lv_iload_n hx hb dJ9_floorMod_7cf53_0 rfl (lv_at hl 0 rfl) ?_
  refine lv_iload_n hx hb dJ9_floorMod_7cf53_1 rfl (lv_at hl 1 rfl) ?_
  obtain ⟨n1, h⟩ := h
  refine lv_irem hx hb dJ9_floorMod_7cf53_2 n1 ?_
  refine lv_topi (fun x_2 ex_2 => ?_)
  have h := h x_2 ex_2
  refine lv_istore_n (lv' := [(2, .int x_2), (0, .int a0), (1, .int a1)]) hx hb dJ9_floorMod_7cf53_3 rfl hl (by decide) rfl (fun ls hl => ?_)
  refine lv_iload_n hx hb dJ9_floorMod_7cf53_4 rfl (lv_at hl 1 rfl) ?_
  refine lv_iload_n hx hb dJ9_floorMod_7cf53_5 rfl (lv_at hl 2 rfl) ?_
  refine lv_ixor hx hb dJ9_floorMod_7cf53_6 ?_
  obtain ⟨hA, hB⟩ := h
  refine lv_if_ge (tgt := 18) hx hb dJ9_floorMod_7cf53_7 (by decide) (fun c3 => ?_) (fun c3 => ?_)
  · have h := hA c3
    refine lv_iload_n hx hb dJ9_floorMod_7cf53_18 rfl (lv_at hl 0 rfl) ?_
    exact ck_iret X hw h dJ9_floorMod_7cf53_19
  · have h := hB c3
    refine lv_iload_n hx hb dJ9_floorMod_7cf53_10 rfl (lv_at hl 0 rfl) ?_
    obtain ⟨hA, hB⟩ := h
    refine lv_if_eq (tgt := 18) hx hb dJ9_floorMod_7cf53_11 (by decide) (fun c4 => ?_) (fun c4 => ?_)
    · have h := hA c4
      refine lv_iload_n hx hb dJ9_floorMod_7cf53_18 rfl (lv_at hl 0 rfl) ?_
      exact ck_iret X hw h dJ9_floorMod_7cf53_19
    · have h := hB c4
      refine lv_iload_n hx hb dJ9_floorMod_7cf53_14 rfl (lv_at hl 0 rfl) ?_
      refine lv_iload_n hx hb dJ9_floorMod_7cf53_15 rfl (lv_at hl 2 rfl) ?_
      refine lv_iadd hx hb dJ9_floorMod_7cf53_16 ?_
      exact ck_iret X hw h dJ9_floorMod_7cf53_17
set_option maxHeartbeats 4000000 in
set_option maxRecDepth 100000 in
theorem ct_J9_floorMod_7cf53 (l : Launch) (G : ck_G) {a0 : Int32} {a1 : Int32} {σ : ck_S} {post : Int32 → ck_S → Prop} (h : sp_J9_floorMod_7cf53 (ck_nc G) (ck_nb G) σ a0 a1 post) : ck_Mi l yJ9_floorMod_7cf53 wsJ9_floorMod_7cf53 ({ frames := 0, cells := 0, slots := 0, locals := 0 } : Room) G σ [.int a0, .int a1] post := by
  intro sz
  refine ck_ofWF (cc := cJ9_floorMod_7cf53) (maxL := 3) (ret := (some .int)) (Jvm.Free.JP.mathPlain rfl (by decide +kernel)) rfl ?_
  intro p e s m args below meth c s₁ B hml hv
  obtain ⟨rfl, rfl, hw⟩ := ck_enter hv
  have hl := lv_entry ([.int a0, .int a1]) (n := 3) (Nat.le_of_ble_eq_true rfl)
  rw [lg_entry_eq]
  generalize (lg_sl ([.int a0, .int a1]) ++ List.replicate (3 - (lg_sl ([.int a0, .int a1])).length) Slot.unset).toArray = ls at hl ⊢
  have hl : lv_has ls 3 [(0, .int a0), (1, .int a1)] := hl
  exact wk_J9_floorMod_7cf53_0 ⟨B.exec, B.bytes, B.returns, hml, findClass_of_methodNamed B.named, atoms_spec (ws := wsJ9_floorMod_7cf53) B.pre, B.notSynchronized⟩ h hw hl
def sp_X2_withByte_49 (nc nb : Nat) (post : Int32 → ck_S → Prop) (K5 : ck_S → Int32 → Int32 → Int32 → Prop) (σ : ck_S) (x1 : Int32) (x2 : Int32) (x3 : Int32) : Prop := ∀ x_1, x_1 = x3 + (-1) → K5 σ x1 x2 x_1
def sp_X2_withByte_28 (nc nb : Nat) (post : Int32 → ck_S → Prop) (K5 : ck_S → Int32 → Int32 → Int32 → Prop) (σ : ck_S) (x1 : Int32) (x2 : Int32) (x3 : Int32) (s0 : Int32) : Prop := ∀ x_1, x_1 = ((x2 <<< (1 &&& 31)) &&& 32767) → ((s0 = 0 → (sp_X2_withByte_49 nc nb post K5 σ x1 x_1 x3)) ∧ (¬ s0 = 0 → (∀ x_3, x_3 = (x_1 ^^^ 17817) → sp_X2_withByte_49 nc nb post K5 σ x1 x_3 x3)))
def bd_X2_withByte_5 (nc nb : Nat) (post : Int32 → ck_S → Prop) (K5 : ck_S → Int32 → Int32 → Int32 → Prop) (σ : ck_S) (x1 : Int32) (x2 : Int32) (x3 : Int32) : Prop := ((x3 < 0 → (post x2 σ)) ∧ (¬ x3 < 0 → ((((((x2.toUInt32 >>> ((14 : Int32).toUInt32 &&& Int32.toUInt32 31)).toInt32) &&& 1) = (((x1.toUInt32 >>> (x3.toUInt32 &&& Int32.toUInt32 31)).toInt32) &&& 1) → (sp_X2_withByte_28 nc nb post K5 σ x1 x2 x3 0)) ∧ (¬ (((x2.toUInt32 >>> ((14 : Int32).toUInt32 &&& Int32.toUInt32 31)).toInt32) &&& 1) = (((x1.toUInt32 >>> (x3.toUInt32 &&& Int32.toUInt32 31)).toInt32) &&& 1) → (sp_X2_withByte_28 nc nb post K5 σ x1 x2 x3 1))))))
def sp_X2_withByte (nc nb : Nat) (σ : ck_S) (a0 : Int32) (a1 : Int32) (post : Int32 → ck_S → Prop) : Prop := lx_4 (bd_X2_withByte_5 nc nb post) σ a1 a0 7
set_option maxHeartbeats 4000000 in
set_option maxRecDepth 100000 in
theorem wk_X2_withByte_49 {p : Program} {l : Launch} {e : Env} {s : State} {m : MethodId} {args : Array Value} {below : List Frame} {meth : Method} {c : Code} {G : ck_G} (X : ck_X p s m meth c args cX2_withByte 5 (some .int) RX2 wsX2_withByte) {post : Int32 → ck_S → Prop} {K5 : ck_S → Int32 → Int32 → Int32 → Prop} (hK5 : ∀ (σ : ck_S) (x1 : Int32) (x2 : Int32) (x3 : Int32) (H : Heap) (locs : List Loc) (ls : Array Slot), K5 σ x1 x2 x3 → ck_H G s H locs σ → lv_has ls 5 [(1, .int x1), (2, .int x2), (3, .int x3)] → W p l e ({ frames := 0, cells := 0, slots := 0, locals := 0 } : Room) s m args below meth c H locs 0 0 (MQ below (va_Qi post (ck_Q G) (ck_A G s.heap.size)) args s 0 0 (ck_A G s.heap.size)) (F0 m 5 ls [])) {σ : ck_S} {x1 : Int32} {x2 : Int32} {x3 : Int32} {H : Heap} {locs : List Loc} {ls : Array Slot} (h : sp_X2_withByte_49 (ck_nc G) (ck_nb G) post K5 σ x1 x2 x3) (hw : ck_H G s H locs σ) (hl : lv_has ls 5 [(1, .int x1), (2, .int x2), (3, .int x3)]) : W p l e ({ frames := 0, cells := 0, slots := 0, locals := 0 } : Room) s m args below meth c H locs 0 0 (MQ below (va_Qi post (ck_Q G) (ck_A G s.heap.size)) args s 0 0 (ck_A G s.heap.size)) (F0 m 49 ls []) := by
  obtain ⟨hx, hb, hr, hml, hown, hts, hlocks⟩ := id X
  unfold sp_X2_withByte_49 at h
  obtain ⟨x_1, ex_1⟩ : ∃ z : Int32, z = x3 + (-1) := ⟨_, rfl⟩
  have h := h x_1 ex_1
  refine lv_iinc (v := x_1) (lv' := [(3, .int x_1), (1, .int x1), (2, .int x2)]) hx hb dX2_withByte_49 hl (k := 2) rfl (by rw [ex_1]; rfl) (by decide) rfl (fun ls hl => ?_)
  refine lv_goto (tgt := 5) hx hb dX2_withByte_52 (by decide) ?_
  exact hK5 _ _ _ _ _ _ _ h hw (lv_sub hl [1, 2, 0] rfl)
set_option maxHeartbeats 4000000 in
set_option maxRecDepth 100000 in
theorem wk_X2_withByte_28 {p : Program} {l : Launch} {e : Env} {s : State} {m : MethodId} {args : Array Value} {below : List Frame} {meth : Method} {c : Code} {G : ck_G} (X : ck_X p s m meth c args cX2_withByte 5 (some .int) RX2 wsX2_withByte) {post : Int32 → ck_S → Prop} {K5 : ck_S → Int32 → Int32 → Int32 → Prop} (hK5 : ∀ (σ : ck_S) (x1 : Int32) (x2 : Int32) (x3 : Int32) (H : Heap) (locs : List Loc) (ls : Array Slot), K5 σ x1 x2 x3 → ck_H G s H locs σ → lv_has ls 5 [(1, .int x1), (2, .int x2), (3, .int x3)] → W p l e ({ frames := 0, cells := 0, slots := 0, locals := 0 } : Room) s m args below meth c H locs 0 0 (MQ below (va_Qi post (ck_Q G) (ck_A G s.heap.size)) args s 0 0 (ck_A G s.heap.size)) (F0 m 5 ls [])) {σ : ck_S} {x1 : Int32} {x2 : Int32} {x3 : Int32} {s0 : Int32} {H : Heap} {locs : List Loc} {ls : Array Slot} (h : sp_X2_withByte_28 (ck_nc G) (ck_nb G) post K5 σ x1 x2 x3 s0) (hw : ck_H G s H locs σ) (hl : lv_has ls 5 [(1, .int x1), (2, .int x2), (3, .int x3)]) : W p l e ({ frames := 0, cells := 0, slots := 0, locals := 0 } : Room) s m args below meth c H locs 0 0 (MQ below (va_Qi post (ck_Q G) (ck_A G s.heap.size)) args s 0 0 (ck_A G s.heap.size)) (F0 m 28 ls [.int s0]) := by
  obtain ⟨hx, hb, hr, hml, hown, hts, hlocks⟩ := id X
  unfold sp_X2_withByte_28 at h
  refine lv_istore (lv' := [(4, .int s0), (1, .int x1), (2, .int x2), (3, .int x3)]) hx hb dX2_withByte_28 hl (by decide) rfl (fun ls hl => ?_)
  refine lv_iload_n hx hb dX2_withByte_30 rfl (lv_at hl 2 rfl) ?_
  refine lv_iconst (v := 1) hx hb dX2_withByte_31 (by decide) ?_
  refine lv_ishl hx hb dX2_withByte_32 ?_
  refine lv_sipush (v := 32767) hx hb dX2_withByte_33 (by decide) ?_
  refine lv_iand hx hb dX2_withByte_36 ?_
  refine lv_topi (fun x_1 ex_1 => ?_)
  have h := h x_1 ex_1
  refine lv_istore_n (lv' := [(2, .int x_1), (4, .int s0), (1, .int x1), (3, .int x3)]) hx hb dX2_withByte_37 rfl hl (by decide) rfl (fun ls hl => ?_)
  refine lv_iload hx hb dX2_withByte_38 (lv_at hl 1 rfl) ?_
  obtain ⟨hA, hB⟩ := h
  refine lv_if_eq (tgt := 49) hx hb dX2_withByte_40 (by decide) (fun c2 => ?_) (fun c2 => ?_)
  · have h := hA c2
    exact wk_X2_withByte_49 X hK5 h hw (lv_sub hl [2, 0, 3] rfl)
  · have h := hB c2
    refine lv_iload_n hx hb dX2_withByte_43 rfl (lv_at hl 0 rfl) ?_
    refine lv_sipush (v := 17817) hx hb dX2_withByte_44 (by decide) ?_
    refine lv_ixor hx hb dX2_withByte_47 ?_
    refine lv_topi (fun x_3 ex_3 => ?_)
    have h := h x_3 ex_3
    refine lv_istore_n (lv' := [(2, .int x_3), (4, .int s0), (1, .int x1), (3, .int x3)]) hx hb dX2_withByte_48 rfl hl (by decide) rfl (fun ls hl => ?_)
    exact wk_X2_withByte_49 X hK5 h hw (lv_sub hl [2, 0, 3] rfl)
set_option maxHeartbeats 4000000 in
set_option maxRecDepth 100000 in
theorem wk_X2_withByte_5 {p : Program} {l : Launch} {e : Env} {s : State} {m : MethodId} {args : Array Value} {below : List Frame} {meth : Method} {c : Code} {G : ck_G} (X : ck_X p s m meth c args cX2_withByte 5 (some .int) RX2 wsX2_withByte) {post : Int32 → ck_S → Prop} : ∀ (fu : Nat) (σ : ck_S) (x1 : Int32) (x2 : Int32) (x3 : Int32) (H : Heap) (locs : List Loc) (ls : Array Slot), lk_4 (bd_X2_withByte_5 (ck_nc G) (ck_nb G) post) fu σ x1 x2 x3 → ck_H G s H locs σ → lv_has ls 5 [(1, .int x1), (2, .int x2), (3, .int x3)] → W p l e ({ frames := 0, cells := 0, slots := 0, locals := 0 } : Room) s m args below meth c H locs 0 0 (MQ below (va_Qi post (ck_Q G) (ck_A G s.heap.size)) args s 0 0 (ck_A G s.heap.size)) (F0 m 5 ls []) := by
  obtain ⟨hx, hb, hr, hml, hown, hts, hlocks⟩ := id X
  intro fu
  induction fu with
  | zero => intro σ x1 x2 x3 H locs ls h hw hl; exact h.elim
  | succ fu hK5 =>
    intro σ x1 x2 x3 H locs ls h hw hl
    have h : bd_X2_withByte_5 (ck_nc G) (ck_nb G) post (lk_4 (bd_X2_withByte_5 (ck_nc G) (ck_nb G) post) fu) σ x1 x2 x3 := h
    unfold bd_X2_withByte_5 at h
    refine lv_iload_n hx hb dX2_withByte_5 rfl (lv_at hl 2 rfl) ?_
    obtain ⟨hA, hB⟩ := h
    refine lv_if_lt (tgt := 55) hx hb dX2_withByte_6 (by decide) (fun c1 => ?_) (fun c1 => ?_)
    · have h := hA c1
      refine lv_iload_n hx hb dX2_withByte_55 rfl (lv_at hl 1 rfl) ?_
      exact ck_iret X hw h dX2_withByte_56
    · have h := hB c1
      refine lv_iload_n hx hb dX2_withByte_9 rfl (lv_at hl 1 rfl) ?_
      refine lv_bipush (v := 14) hx hb dX2_withByte_10 (by decide) ?_
      refine lv_iushr hx hb dX2_withByte_12 rfl ?_
      refine lv_iconst (v := 1) hx hb dX2_withByte_13 (by decide) ?_
      refine lv_iand hx hb dX2_withByte_14 ?_
      refine lv_iload_n hx hb dX2_withByte_15 rfl (lv_at hl 0 rfl) ?_
      refine lv_iload_n hx hb dX2_withByte_16 rfl (lv_at hl 2 rfl) ?_
      refine lv_iushr hx hb dX2_withByte_17 rfl ?_
      refine lv_iconst (v := 1) hx hb dX2_withByte_18 (by decide) ?_
      refine lv_iand hx hb dX2_withByte_19 ?_
      obtain ⟨hA, hB⟩ := h
      refine lv_icmp_eq (tgt := 27) hx hb dX2_withByte_20 (by decide) (fun c2 => ?_) (fun c2 => ?_)
      · have h := hA c2
        refine lv_iconst (v := 0) hx hb dX2_withByte_27 (by decide) ?_
        exact wk_X2_withByte_28 X hK5 h hw (lv_sub hl [0, 1, 2] rfl)
      · have h := hB c2
        refine lv_iconst (v := 1) hx hb dX2_withByte_23 (by decide) ?_
        refine lv_goto (tgt := 28) hx hb dX2_withByte_24 (by decide) ?_
        exact wk_X2_withByte_28 X hK5 h hw (lv_sub hl [0, 1, 2] rfl)
set_option maxHeartbeats 4000000 in
set_option maxRecDepth 100000 in
theorem wk_X2_withByte_0 {p : Program} {l : Launch} {e : Env} {s : State} {m : MethodId} {args : Array Value} {below : List Frame} {meth : Method} {c : Code} {G : ck_G} (X : ck_X p s m meth c args cX2_withByte 5 (some .int) RX2 wsX2_withByte) {post : Int32 → ck_S → Prop} {σ : ck_S} {a0 : Int32} {a1 : Int32} {H : Heap} {locs : List Loc} {ls : Array Slot} (h : sp_X2_withByte (ck_nc G) (ck_nb G) σ a0 a1 post) (hw : ck_H G s H locs σ) (hl : lv_has ls 5 [(0, .int a0), (1, .int a1)]) : W p l e ({ frames := 0, cells := 0, slots := 0, locals := 0 } : Room) s m args below meth c H locs 0 0 (MQ below (va_Qi post (ck_Q G) (ck_A G s.heap.size)) args s 0 0 (ck_A G s.heap.size)) (F0 m 0 ls []) := by
  obtain ⟨hx, hb, hr, hml, hown, hts, hlocks⟩ := id X
  unfold sp_X2_withByte at h
  refine lv_iload_n hx hb dX2_withByte_0 rfl (lv_at hl 0 rfl) ?_
  refine lv_istore_n (lv' := [(2, .int a0), (0, .int a0), (1, .int a1)]) hx hb dX2_withByte_1 rfl hl (by decide) rfl (fun ls hl => ?_)
  refine lv_bipush (v := 7) hx hb dX2_withByte_2 (by decide) ?_
  refine lv_istore_n (lv' := [(3, .int 7), (2, .int a0), (0, .int a0), (1, .int a1)]) hx hb dX2_withByte_4 rfl hl (by decide) rfl (fun ls hl => ?_)
  obtain ⟨fu, h⟩ := h
  exact wk_X2_withByte_5 X fu _ _ _ _ _ _ _ h hw (lv_sub hl [3, 1, 0] rfl)
set_option maxHeartbeats 4000000 in
set_option maxRecDepth 100000 in
theorem ct_X2_withByte (l : Launch) (G : ck_G) {a0 : Int32} {a1 : Int32} {σ : ck_S} {post : Int32 → ck_S → Prop} (h : sp_X2_withByte (ck_nc G) (ck_nb G) σ a0 a1 post) : ck_Mi l yX2_withByte wsX2_withByte ({ frames := 0, cells := 0, slots := 0, locals := 0 } : Room) G σ [.int a0, .int a1] post := by
  intro sz
  refine Met.ofW (cc := cX2_withByte) (maxL := 5) (ret := (some .int)) (by decide) rfl ?_
  intro p e s m args below meth c s₁ B hml hv
  obtain ⟨rfl, rfl, hw⟩ := ck_enter hv
  have hl := lv_entry ([.int a0, .int a1]) (n := 5) (Nat.le_of_ble_eq_true rfl)
  rw [lg_entry_eq]
  generalize (lg_sl ([.int a0, .int a1]) ++ List.replicate (5 - (lg_sl ([.int a0, .int a1])).length) Slot.unset).toArray = ls at hl ⊢
  have hl : lv_has ls 5 [(0, .int a0), (1, .int a1)] := hl
  exact wk_X2_withByte_0 ⟨B.exec, B.bytes, B.returns, hml, findClass_of_methodNamed B.named, atoms_spec (ws := wsX2_withByte) B.pre, B.notSynchronized⟩ h hw hl
def bd_X2_ofReply_34 (nc nb : Nat) (post : Int32 → ck_S → Prop) (K34 : ck_S → Int64 → Int32 → Int32 → Prop) (σ : ck_S) (x2 : Int64) (x4 : Int32) (x5 : Int32) : Prop := ((x5 < 16 → (post x4 σ)) ∧ (¬ x5 < 16 → (sp_X2_withByte nc nb σ x4 (((x2.toUInt64 >>> (x5.toInt64.toUInt64 &&& Int64.toUInt64 63)).toInt64).toInt32) (fun x_3 σ2 => ∀ x_4, x_4 = x5 + (-8) → K34 σ2 x2 x_3 x_4))))
def bd_X2_ofReply_7 (nc nb : Nat) (post : Int32 → ck_S → Prop) (K7 : ck_S → Int64 → Int64 → Int32 → Int32 → Prop) (σ : ck_S) (x0 : Int64) (x2 : Int64) (x4 : Int32) (x5 : Int32) : Prop := ((x5 < 0 → (lx_4 (bd_X2_ofReply_34 nc nb post) σ x2 x4 56)) ∧ (¬ x5 < 0 → (sp_X2_withByte nc nb σ x4 (((x0.toUInt64 >>> (x5.toInt64.toUInt64 &&& Int64.toUInt64 63)).toInt64).toInt32) (fun x_3 σ2 => ∀ x_4, x_4 = x5 + (-8) → K7 σ2 x0 x2 x_3 x_4))))
def sp_X2_ofReply (nc nb : Nat) (σ : ck_S) (a0 : Int64) (a1 : Int64) (post : Int32 → ck_S → Prop) : Prop := lx_5 (bd_X2_ofReply_7 nc nb post) σ a0 a1 0 56
set_option maxHeartbeats 4000000 in
set_option maxRecDepth 100000 in
theorem wk_X2_ofReply_34 {p : Program} {l : Launch} {e : Env} {s : State} {m : MethodId} {args : Array Value} {below : List Frame} {meth : Method} {c : Code} {G : ck_G} (X : ck_X p s m meth c args cX2_ofReply 6 (some .int) RX2 wsX2_ofReply) {post : Int32 → ck_S → Prop} : ∀ (fu : Nat) (σ : ck_S) (x2 : Int64) (x4 : Int32) (x5 : Int32) (H : Heap) (locs : List Loc) (ls : Array Slot), lk_4 (bd_X2_ofReply_34 (ck_nc G) (ck_nb G) post) fu σ x2 x4 x5 → ck_H G s H locs σ → lv_has ls 6 [(2, .long x2), (4, .int x4), (5, .int x5)] → W p l e ({ frames := 1, cells := 0, slots := 0, locals := 24 } : Room) s m args below meth c H locs 0 0 (MQ below (va_Qi post (ck_Q G) (ck_A G s.heap.size)) args s 0 0 (ck_A G s.heap.size)) (F0 m 34 ls []) := by
  obtain ⟨hx, hb, hr, hml, hown, hts, hlocks⟩ := id X
  intro fu
  induction fu with
  | zero => intro σ x2 x4 x5 H locs ls h hw hl; exact h.elim
  | succ fu hK34 =>
    intro σ x2 x4 x5 H locs ls h hw hl
    have h : bd_X2_ofReply_34 (ck_nc G) (ck_nb G) post (lk_4 (bd_X2_ofReply_34 (ck_nc G) (ck_nb G) post) fu) σ x2 x4 x5 := h
    unfold bd_X2_ofReply_34 at h
    refine lv_iload hx hb dX2_ofReply_34 (lv_at hl 2 rfl) ?_
    refine lv_bipush (v := 16) hx hb dX2_ofReply_36 (by decide) ?_
    obtain ⟨hA, hB⟩ := h
    refine lv_icmp_lt (tgt := 59) hx hb dX2_ofReply_38 (by decide) (fun c1 => ?_) (fun c1 => ?_)
    · have h := hA c1
      refine lv_iload hx hb dX2_ofReply_59 (lv_at hl 1 rfl) ?_
      exact ck_iret X hw h dX2_ofReply_61
    · have h := hB c1
      refine lv_iload hx hb dX2_ofReply_41 (lv_at hl 1 rfl) ?_
      refine lv_lload_n hx hb dX2_ofReply_43 rfl (lv_at hl 0 rfl) ?_
      refine lv_iload hx hb dX2_ofReply_44 (lv_at hl 2 rfl) ?_
      refine lv_lushr hx hb dX2_ofReply_46 rfl ?_
      refine lv_l2i hx hb dX2_ofReply_47 rfl ?_
      refine ck_callSi (rest := []) ⟨hx, hb, hml, hown, hts⟩ hw (ct_X2_withByte l G h) (va_cwS 2 hts gX2_ofReply_X2_withByte rfl rfl rfl (by decide +kernel) ⟨(Nat.le_of_ble_eq_true rfl), (Nat.le_of_ble_eq_true rfl)⟩) rfl hl.1 rfl (Nat.le_of_ble_eq_true rfl) dX2_ofReply_48 ⟨(Nat.le_of_ble_eq_true rfl), (Nat.le_of_ble_eq_true rfl)⟩ (fun x_3 σ2 H locs h hw => ?_)
      refine lv_istore (lv' := [(4, .int x_3), (2, .long x2), (5, .int x5)]) hx hb dX2_ofReply_51 hl (by decide) rfl (fun ls hl => ?_)
      obtain ⟨x_4, ex_4⟩ : ∃ z : Int32, z = x5 + (-8) := ⟨_, rfl⟩
      have h := h x_4 ex_4
      refine lv_iinc (v := x_4) (lv' := [(5, .int x_4), (4, .int x_3), (2, .long x2)]) hx hb dX2_ofReply_53 hl (k := 2) rfl (by rw [ex_4]; rfl) (by decide) rfl (fun ls hl => ?_)
      refine lv_goto (tgt := 34) hx hb dX2_ofReply_56 (by decide) ?_
      exact hK34 _ _ _ _ _ _ _ h hw (lv_sub hl [2, 1, 0] rfl)
set_option maxHeartbeats 4000000 in
set_option maxRecDepth 100000 in
theorem wk_X2_ofReply_7 {p : Program} {l : Launch} {e : Env} {s : State} {m : MethodId} {args : Array Value} {below : List Frame} {meth : Method} {c : Code} {G : ck_G} (X : ck_X p s m meth c args cX2_ofReply 6 (some .int) RX2 wsX2_ofReply) {post : Int32 → ck_S → Prop} : ∀ (fu : Nat) (σ : ck_S) (x0 : Int64) (x2 : Int64) (x4 : Int32) (x5 : Int32) (H : Heap) (locs : List Loc) (ls : Array Slot), lk_5 (bd_X2_ofReply_7 (ck_nc G) (ck_nb G) post) fu σ x0 x2 x4 x5 → ck_H G s H locs σ → lv_has ls 6 [(0, .long x0), (2, .long x2), (4, .int x4), (5, .int x5)] → W p l e ({ frames := 1, cells := 0, slots := 0, locals := 24 } : Room) s m args below meth c H locs 0 0 (MQ below (va_Qi post (ck_Q G) (ck_A G s.heap.size)) args s 0 0 (ck_A G s.heap.size)) (F0 m 7 ls []) := by
  obtain ⟨hx, hb, hr, hml, hown, hts, hlocks⟩ := id X
  intro fu
  induction fu with
  | zero => intro σ x0 x2 x4 x5 H locs ls h hw hl; exact h.elim
  | succ fu hK7 =>
    intro σ x0 x2 x4 x5 H locs ls h hw hl
    have h : bd_X2_ofReply_7 (ck_nc G) (ck_nb G) post (lk_5 (bd_X2_ofReply_7 (ck_nc G) (ck_nb G) post) fu) σ x0 x2 x4 x5 := h
    unfold bd_X2_ofReply_7 at h
    refine lv_iload hx hb dX2_ofReply_7 (lv_at hl 3 rfl) ?_
    obtain ⟨hA, hB⟩ := h
    refine lv_if_lt (tgt := 30) hx hb dX2_ofReply_9 (by decide) (fun c1 => ?_) (fun c1 => ?_)
    · have h := hA c1
      refine lv_bipush (v := 56) hx hb dX2_ofReply_30 (by decide) ?_
      refine lv_istore (lv' := [(5, .int 56), (0, .long x0), (2, .long x2), (4, .int x4)]) hx hb dX2_ofReply_32 hl (by decide) rfl (fun ls hl => ?_)
      obtain ⟨fu, h⟩ := h
      exact wk_X2_ofReply_34 X fu _ _ _ _ _ _ _ h hw (lv_sub hl [2, 3, 0] rfl)
    · have h := hB c1
      refine lv_iload hx hb dX2_ofReply_12 (lv_at hl 2 rfl) ?_
      refine lv_lload_n hx hb dX2_ofReply_14 rfl (lv_at hl 0 rfl) ?_
      refine lv_iload hx hb dX2_ofReply_15 (lv_at hl 3 rfl) ?_
      refine lv_lushr hx hb dX2_ofReply_17 rfl ?_
      refine lv_l2i hx hb dX2_ofReply_18 rfl ?_
      refine ck_callSi (rest := []) ⟨hx, hb, hml, hown, hts⟩ hw (ct_X2_withByte l G h) (va_cwS 2 hts gX2_ofReply_X2_withByte rfl rfl rfl (by decide +kernel) ⟨(Nat.le_of_ble_eq_true rfl), (Nat.le_of_ble_eq_true rfl)⟩) rfl hl.1 rfl (Nat.le_of_ble_eq_true rfl) dX2_ofReply_19 ⟨(Nat.le_of_ble_eq_true rfl), (Nat.le_of_ble_eq_true rfl)⟩ (fun x_3 σ2 H locs h hw => ?_)
      refine lv_istore (lv' := [(4, .int x_3), (0, .long x0), (2, .long x2), (5, .int x5)]) hx hb dX2_ofReply_22 hl (by decide) rfl (fun ls hl => ?_)
      obtain ⟨x_4, ex_4⟩ : ∃ z : Int32, z = x5 + (-8) := ⟨_, rfl⟩
      have h := h x_4 ex_4
      refine lv_iinc (v := x_4) (lv' := [(5, .int x_4), (4, .int x_3), (0, .long x0), (2, .long x2)]) hx hb dX2_ofReply_24 hl (k := 3) rfl (by rw [ex_4]; rfl) (by decide) rfl (fun ls hl => ?_)
      refine lv_goto (tgt := 7) hx hb dX2_ofReply_27 (by decide) ?_
      exact hK7 _ _ _ _ _ _ _ _ h hw (lv_sub hl [2, 3, 1, 0] rfl)
set_option maxHeartbeats 4000000 in
set_option maxRecDepth 100000 in
theorem wk_X2_ofReply_0 {p : Program} {l : Launch} {e : Env} {s : State} {m : MethodId} {args : Array Value} {below : List Frame} {meth : Method} {c : Code} {G : ck_G} (X : ck_X p s m meth c args cX2_ofReply 6 (some .int) RX2 wsX2_ofReply) {post : Int32 → ck_S → Prop} {σ : ck_S} {a0 : Int64} {a1 : Int64} {H : Heap} {locs : List Loc} {ls : Array Slot} (h : sp_X2_ofReply (ck_nc G) (ck_nb G) σ a0 a1 post) (hw : ck_H G s H locs σ) (hl : lv_has ls 6 [(0, .long a0), (2, .long a1)]) : W p l e ({ frames := 1, cells := 0, slots := 0, locals := 24 } : Room) s m args below meth c H locs 0 0 (MQ below (va_Qi post (ck_Q G) (ck_A G s.heap.size)) args s 0 0 (ck_A G s.heap.size)) (F0 m 0 ls []) := by
  obtain ⟨hx, hb, hr, hml, hown, hts, hlocks⟩ := id X
  unfold sp_X2_ofReply at h
  refine lv_iconst (v := 0) hx hb dX2_ofReply_0 (by decide) ?_
  refine lv_istore (lv' := [(4, .int 0), (0, .long a0), (2, .long a1)]) hx hb dX2_ofReply_1 hl (by decide) rfl (fun ls hl => ?_)
  refine lv_bipush (v := 56) hx hb dX2_ofReply_3 (by decide) ?_
  refine lv_istore (lv' := [(5, .int 56), (4, .int 0), (0, .long a0), (2, .long a1)]) hx hb dX2_ofReply_5 hl (by decide) rfl (fun ls hl => ?_)
  obtain ⟨fu, h⟩ := h
  exact wk_X2_ofReply_7 X fu _ _ _ _ _ _ _ _ h hw (lv_sub hl [2, 3, 1, 0] rfl)
set_option maxHeartbeats 4000000 in
set_option maxRecDepth 100000 in
theorem ct_X2_ofReply (l : Launch) (G : ck_G) {a0 : Int64} {a1 : Int64} {σ : ck_S} {post : Int32 → ck_S → Prop} (h : sp_X2_ofReply (ck_nc G) (ck_nb G) σ a0 a1 post) : ck_Mi l yX2_ofReply wsX2_ofReply ({ frames := 1, cells := 0, slots := 0, locals := 24 } : Room) G σ [.long a0, .long a1] post := by
  intro sz
  refine Met.ofW (cc := cX2_ofReply) (maxL := 6) (ret := (some .int)) (by decide) rfl ?_
  intro p e s m args below meth c s₁ B hml hv
  obtain ⟨rfl, rfl, hw⟩ := ck_enter hv
  have hl := lv_entry ([.long a0, .long a1]) (n := 6) (Nat.le_of_ble_eq_true rfl)
  rw [lg_entry_eq]
  generalize (lg_sl ([.long a0, .long a1]) ++ List.replicate (6 - (lg_sl ([.long a0, .long a1])).length) Slot.unset).toArray = ls at hl ⊢
  have hl : lv_has ls 6 [(0, .long a0), (2, .long a1)] := hl
  exact wk_X2_ofReply_0 ⟨B.exec, B.bytes, B.returns, hml, findClass_of_methodNamed B.named, atoms_spec (ws := wsX2_ofReply) B.pre, B.notSynchronized⟩ h hw hl
def bd_X2_ofRow__7_19 (nc nb : Nat) (post : Int32 → ck_S → Prop) (K19 : ck_S → Int32 → Int32 → Int32 → Prop) (σ : ck_S) (x3 : Int32) (x4 : Int32) (x5 : Int32) : Prop := ((x3 ≤ x5 → (post x4 σ)) ∧ (¬ x3 ≤ x5 → ((vp_in x5 nb) ∧ sp_X2_withByte nc nb σ x4 (ck_gi σ 7 0 (Int32.toNatClampNeg x5)) (fun x_4 σ3 => ∀ x_5, x_5 = x5 + 1 → K19 σ3 x3 x_4 x_5))))
def sp_X2_ofRow__7 (nc nb : Nat) (σ : ck_S) (a1 : Int32) (a2 : Int32) (post : Int32 → ck_S → Prop) : Prop := ∀ x_1, x_1 = (if (a1 + a2) < (nI nb) then (a1 + a2) else (nI nb)) → ∀ x_2, x_2 = (if 0 < a1 then a1 else 0) → lx_4 (bd_X2_ofRow__7_19 nc nb post) σ x_1 0 x_2
set_option maxHeartbeats 4000000 in
set_option maxRecDepth 100000 in
theorem wk_X2_ofRow__7_19 {p : Program} {l : Launch} {e : Env} {s : State} {m : MethodId} {args : Array Value} {below : List Frame} {meth : Method} {c : Code} {G : ck_G} (X : ck_X p s m meth c args cX2_ofRow 6 (some .int) RX2 wsX2_ofRow) (hC : ck_inC G) {post : Int32 → ck_S → Prop} : ∀ (fu : Nat) (σ : ck_S) (x3 : Int32) (x4 : Int32) (x5 : Int32) (H : Heap) (locs : List Loc) (ls : Array Slot), lk_4 (bd_X2_ofRow__7_19 (ck_nc G) (ck_nb G) post) fu σ x3 x4 x5 → ck_H G s H locs σ → lv_has ls 6 [(0, .ref (ck_ad G 7 0)), (3, .int x3), (4, .int x4), (5, .int x5)] → W p l e ({ frames := 1, cells := 0, slots := 0, locals := 24 } : Room) s m args below meth c H locs 0 0 (MQ below (va_Qi post (ck_Q G) (ck_A G s.heap.size)) args s 0 0 (ck_A G s.heap.size)) (F0 m 19 ls []) := by
  obtain ⟨hx, hb, hr, hml, hown, hts, hlocks⟩ := id X
  intro fu
  induction fu with
  | zero => intro σ x3 x4 x5 H locs ls h hw hl; exact h.elim
  | succ fu hK19 =>
    intro σ x3 x4 x5 H locs ls h hw hl
    have h : bd_X2_ofRow__7_19 (ck_nc G) (ck_nb G) post (lk_4 (bd_X2_ofRow__7_19 (ck_nc G) (ck_nb G) post) fu) σ x3 x4 x5 := h
    unfold bd_X2_ofRow__7_19 at h
    refine lv_iload hx hb dX2_ofRow_19 (lv_at hl 3 rfl) ?_
    refine lv_iload_n hx hb dX2_ofRow_21 rfl (lv_at hl 1 rfl) ?_
    obtain ⟨hA, hB⟩ := h
    refine lv_icmp_ge (tgt := 42) hx hb dX2_ofRow_22 (by decide) (fun c1 => ?_) (fun c1 => ?_)
    · have h := hA c1
      refine lv_iload hx hb dX2_ofRow_42 (lv_at hl 2 rfl) ?_
      exact ck_iret X hw h dX2_ofRow_44
    · have h := hB c1
      refine lv_iload hx hb dX2_ofRow_25 (lv_at hl 2 rfl) ?_
      refine lv_aload_n hx hb dX2_ofRow_27 rfl (lv_at hl 0 rfl) ?_
      refine lv_iload hx hb dX2_ofRow_28 (lv_at hl 3 rfl) ?_
      obtain ⟨n2, h⟩ := h
      refine ck_bald hx hb hw (hC.1 7 (by decide)) rfl n2 dX2_ofRow_30 ?_
      refine ck_callSi (rest := []) ⟨hx, hb, hml, hown, hts⟩ hw (ct_X2_withByte l G h) (va_cwS 2 hts gX2_ofRow_X2_withByte rfl rfl rfl (by decide +kernel) ⟨(Nat.le_of_ble_eq_true rfl), (Nat.le_of_ble_eq_true rfl)⟩) rfl hl.1 rfl (Nat.le_of_ble_eq_true rfl) dX2_ofRow_31 ⟨(Nat.le_of_ble_eq_true rfl), (Nat.le_of_ble_eq_true rfl)⟩ (fun x_4 σ3 H locs h hw => ?_)
      refine lv_istore (lv' := [(4, .int x_4), (0, .ref (ck_ad G 7 0)), (3, .int x3), (5, .int x5)]) hx hb dX2_ofRow_34 hl (by decide) rfl (fun ls hl => ?_)
      obtain ⟨x_5, ex_5⟩ : ∃ z : Int32, z = x5 + 1 := ⟨_, rfl⟩
      have h := h x_5 ex_5
      refine lv_iinc (v := x_5) (lv' := [(5, .int x_5), (4, .int x_4), (0, .ref (ck_ad G 7 0)), (3, .int x3)]) hx hb dX2_ofRow_36 hl (k := 3) rfl (by rw [ex_5]; rfl) (by decide) rfl (fun ls hl => ?_)
      refine lv_goto (tgt := 19) hx hb dX2_ofRow_39 (by decide) ?_
      exact hK19 _ _ _ _ _ _ _ h hw (lv_sub hl [2, 3, 1, 0] rfl)
set_option maxHeartbeats 4000000 in
set_option maxRecDepth 100000 in
theorem wk_X2_ofRow__7_0 {p : Program} {l : Launch} {e : Env} {s : State} {m : MethodId} {args : Array Value} {below : List Frame} {meth : Method} {c : Code} {G : ck_G} (X : ck_X p s m meth c args cX2_ofRow 6 (some .int) RX2 wsX2_ofRow) (hC : ck_inC G) {post : Int32 → ck_S → Prop} {σ : ck_S} {a1 : Int32} {a2 : Int32} {H : Heap} {locs : List Loc} {ls : Array Slot} (h : sp_X2_ofRow__7 (ck_nc G) (ck_nb G) σ a1 a2 post) (hw : ck_H G s H locs σ) (hl : lv_has ls 6 [(0, .ref (ck_ad G 7 0)), (1, .int a1), (2, .int a2)]) : W p l e ({ frames := 1, cells := 0, slots := 0, locals := 24 } : Room) s m args below meth c H locs 0 0 (MQ below (va_Qi post (ck_Q G) (ck_A G s.heap.size)) args s 0 0 (ck_A G s.heap.size)) (F0 m 0 ls []) := by
  obtain ⟨hx, hb, hr, hml, hown, hts, hlocks⟩ := id X
  unfold sp_X2_ofRow__7 at h
  refine lv_aload_n hx hb dX2_ofRow_0 rfl (lv_at hl 0 rfl) ?_
  refine ck_alen hx hb hw (hC.1 7 (by decide)) rfl 0 rfl rfl dX2_ofRow_1 ?_
  refine lv_iload_n hx hb dX2_ofRow_2 rfl (lv_at hl 1 rfl) ?_
  refine lv_iload_n hx hb dX2_ofRow_3 rfl (lv_at hl 2 rfl) ?_
  refine lv_iadd hx hb dX2_ofRow_4 ?_
  refine va_mmin hx hb (hml.trans hl.1.symm) hown (hts _ (List.mem_of_getElem? (i := 1) rfl)) (hts _ (List.mem_of_getElem? (i := 2) rfl)) (hts _ (List.mem_of_getElem? (i := 3) rfl)) (hts _ (List.mem_of_getElem? (i := 4) rfl)) (Nat.le_of_ble_eq_true rfl) (Nat.le_of_ble_eq_true rfl) (Nat.le_of_ble_eq_true rfl) (Nat.le_of_ble_eq_true rfl) dX2_ofRow_5 ?_
  refine lv_topi (fun x_1 ex_1 => ?_)
  have h := h x_1 ex_1
  refine lv_istore_n (lv' := [(3, .int x_1), (0, .ref (ck_ad G 7 0)), (1, .int a1), (2, .int a2)]) hx hb dX2_ofRow_8 rfl hl (by decide) rfl (fun ls hl => ?_)
  refine lv_iconst (v := 0) hx hb dX2_ofRow_9 (by decide) ?_
  refine lv_istore (lv' := [(4, .int 0), (3, .int x_1), (0, .ref (ck_ad G 7 0)), (1, .int a1), (2, .int a2)]) hx hb dX2_ofRow_10 hl (by decide) rfl (fun ls hl => ?_)
  refine lv_iconst (v := 0) hx hb dX2_ofRow_12 (by decide) ?_
  refine lv_iload_n hx hb dX2_ofRow_13 rfl (lv_at hl 3 rfl) ?_
  refine va_mmax hx hb (hml.trans hl.1.symm) hown (hts _ (List.mem_of_getElem? (i := 5) rfl)) (hts _ (List.mem_of_getElem? (i := 6) rfl)) (hts _ (List.mem_of_getElem? (i := 3) rfl)) (hts _ (List.mem_of_getElem? (i := 7) rfl)) (Nat.le_of_ble_eq_true rfl) (Nat.le_of_ble_eq_true rfl) (Nat.le_of_ble_eq_true rfl) (Nat.le_of_ble_eq_true rfl) dX2_ofRow_14 ?_
  refine lv_topi (fun x_2 ex_2 => ?_)
  have h := h x_2 ex_2
  refine lv_istore (lv' := [(5, .int x_2), (4, .int 0), (3, .int x_1), (0, .ref (ck_ad G 7 0)), (1, .int a1), (2, .int a2)]) hx hb dX2_ofRow_17 hl (by decide) rfl (fun ls hl => ?_)
  obtain ⟨fu, h⟩ := h
  exact wk_X2_ofRow__7_19 X hC fu _ _ _ _ _ _ _ h hw (lv_sub hl [3, 2, 1, 0] rfl)
set_option maxHeartbeats 4000000 in
set_option maxRecDepth 100000 in
theorem ct_X2_ofRow__7 (l : Launch) (G : ck_G) (hC : ck_inC G) {a1 : Int32} {a2 : Int32} {σ : ck_S} {post : Int32 → ck_S → Prop} (h : sp_X2_ofRow__7 (ck_nc G) (ck_nb G) σ a1 a2 post) : ck_Mi l yX2_ofRow wsX2_ofRow ({ frames := 1, cells := 0, slots := 0, locals := 24 } : Room) G σ [.ref (ck_ad G 7 0), .int a1, .int a2] post := by
  intro sz
  refine Met.ofW (cc := cX2_ofRow) (maxL := 6) (ret := (some .int)) (by decide) rfl ?_
  intro p e s m args below meth c s₁ B hml hv
  obtain ⟨rfl, rfl, hw⟩ := ck_enter hv
  have hl := lv_entry ([.ref (ck_ad G 7 0), .int a1, .int a2]) (n := 6) (Nat.le_of_ble_eq_true rfl)
  rw [lg_entry_eq]
  generalize (lg_sl ([.ref (ck_ad G 7 0), .int a1, .int a2]) ++ List.replicate (6 - (lg_sl ([.ref (ck_ad G 7 0), .int a1, .int a2])).length) Slot.unset).toArray = ls at hl ⊢
  have hl : lv_has ls 6 [(0, .ref (ck_ad G 7 0)), (1, .int a1), (2, .int a2)] := hl
  exact wk_X2_ofRow__7_0 ⟨B.exec, B.bytes, B.returns, hml, findClass_of_methodNamed B.named, atoms_spec (ws := wsX2_ofRow) B.pre, B.notSynchronized⟩ hC h hw hl
def bd_X2_ofRow__8_19 (nc nb : Nat) (post : Int32 → ck_S → Prop) (K19 : ck_S → Int32 → Int32 → Int32 → Prop) (σ : ck_S) (x3 : Int32) (x4 : Int32) (x5 : Int32) : Prop := ((x3 ≤ x5 → (post x4 σ)) ∧ (¬ x3 ≤ x5 → ((vp_in x5 32) ∧ sp_X2_withByte nc nb σ x4 (ck_gi σ 8 0 (Int32.toNatClampNeg x5)) (fun x_4 σ3 => ∀ x_5, x_5 = x5 + 1 → K19 σ3 x3 x_4 x_5))))
def sp_X2_ofRow__8 (nc nb : Nat) (σ : ck_S) (a1 : Int32) (a2 : Int32) (post : Int32 → ck_S → Prop) : Prop := ∀ x_1, x_1 = (if (a1 + a2) < (nI 32) then (a1 + a2) else (nI 32)) → ∀ x_2, x_2 = (if 0 < a1 then a1 else 0) → lx_4 (bd_X2_ofRow__8_19 nc nb post) σ x_1 0 x_2
set_option maxHeartbeats 4000000 in
set_option maxRecDepth 100000 in
theorem wk_X2_ofRow__8_19 {p : Program} {l : Launch} {e : Env} {s : State} {m : MethodId} {args : Array Value} {below : List Frame} {meth : Method} {c : Code} {G : ck_G} (X : ck_X p s m meth c args cX2_ofRow 6 (some .int) RX2 wsX2_ofRow) (hC : ck_inC G) {post : Int32 → ck_S → Prop} : ∀ (fu : Nat) (σ : ck_S) (x3 : Int32) (x4 : Int32) (x5 : Int32) (H : Heap) (locs : List Loc) (ls : Array Slot), lk_4 (bd_X2_ofRow__8_19 (ck_nc G) (ck_nb G) post) fu σ x3 x4 x5 → ck_H G s H locs σ → lv_has ls 6 [(0, .ref (ck_ad G 8 0)), (3, .int x3), (4, .int x4), (5, .int x5)] → W p l e ({ frames := 1, cells := 0, slots := 0, locals := 24 } : Room) s m args below meth c H locs 0 0 (MQ below (va_Qi post (ck_Q G) (ck_A G s.heap.size)) args s 0 0 (ck_A G s.heap.size)) (F0 m 19 ls []) := by
  obtain ⟨hx, hb, hr, hml, hown, hts, hlocks⟩ := id X
  intro fu
  induction fu with
  | zero => intro σ x3 x4 x5 H locs ls h hw hl; exact h.elim
  | succ fu hK19 =>
    intro σ x3 x4 x5 H locs ls h hw hl
    have h : bd_X2_ofRow__8_19 (ck_nc G) (ck_nb G) post (lk_4 (bd_X2_ofRow__8_19 (ck_nc G) (ck_nb G) post) fu) σ x3 x4 x5 := h
    unfold bd_X2_ofRow__8_19 at h
    refine lv_iload hx hb dX2_ofRow_19 (lv_at hl 3 rfl) ?_
    refine lv_iload_n hx hb dX2_ofRow_21 rfl (lv_at hl 1 rfl) ?_
    obtain ⟨hA, hB⟩ := h
    refine lv_icmp_ge (tgt := 42) hx hb dX2_ofRow_22 (by decide) (fun c1 => ?_) (fun c1 => ?_)
    · have h := hA c1
      refine lv_iload hx hb dX2_ofRow_42 (lv_at hl 2 rfl) ?_
      exact ck_iret X hw h dX2_ofRow_44
    · have h := hB c1
      refine lv_iload hx hb dX2_ofRow_25 (lv_at hl 2 rfl) ?_
      refine lv_aload_n hx hb dX2_ofRow_27 rfl (lv_at hl 0 rfl) ?_
      refine lv_iload hx hb dX2_ofRow_28 (lv_at hl 3 rfl) ?_
      obtain ⟨n2, h⟩ := h
      refine ck_bald hx hb hw (hC.1 8 (by decide)) rfl n2 dX2_ofRow_30 ?_
      refine ck_callSi (rest := []) ⟨hx, hb, hml, hown, hts⟩ hw (ct_X2_withByte l G h) (va_cwS 2 hts gX2_ofRow_X2_withByte rfl rfl rfl (by decide +kernel) ⟨(Nat.le_of_ble_eq_true rfl), (Nat.le_of_ble_eq_true rfl)⟩) rfl hl.1 rfl (Nat.le_of_ble_eq_true rfl) dX2_ofRow_31 ⟨(Nat.le_of_ble_eq_true rfl), (Nat.le_of_ble_eq_true rfl)⟩ (fun x_4 σ3 H locs h hw => ?_)
      refine lv_istore (lv' := [(4, .int x_4), (0, .ref (ck_ad G 8 0)), (3, .int x3), (5, .int x5)]) hx hb dX2_ofRow_34 hl (by decide) rfl (fun ls hl => ?_)
      obtain ⟨x_5, ex_5⟩ : ∃ z : Int32, z = x5 + 1 := ⟨_, rfl⟩
      have h := h x_5 ex_5
      refine lv_iinc (v := x_5) (lv' := [(5, .int x_5), (4, .int x_4), (0, .ref (ck_ad G 8 0)), (3, .int x3)]) hx hb dX2_ofRow_36 hl (k := 3) rfl (by rw [ex_5]; rfl) (by decide) rfl (fun ls hl => ?_)
      refine lv_goto (tgt := 19) hx hb dX2_ofRow_39 (by decide) ?_
      exact hK19 _ _ _ _ _ _ _ h hw (lv_sub hl [2, 3, 1, 0] rfl)
set_option maxHeartbeats 4000000 in
set_option maxRecDepth 100000 in
theorem wk_X2_ofRow__8_0 {p : Program} {l : Launch} {e : Env} {s : State} {m : MethodId} {args : Array Value} {below : List Frame} {meth : Method} {c : Code} {G : ck_G} (X : ck_X p s m meth c args cX2_ofRow 6 (some .int) RX2 wsX2_ofRow) (hC : ck_inC G) {post : Int32 → ck_S → Prop} {σ : ck_S} {a1 : Int32} {a2 : Int32} {H : Heap} {locs : List Loc} {ls : Array Slot} (h : sp_X2_ofRow__8 (ck_nc G) (ck_nb G) σ a1 a2 post) (hw : ck_H G s H locs σ) (hl : lv_has ls 6 [(0, .ref (ck_ad G 8 0)), (1, .int a1), (2, .int a2)]) : W p l e ({ frames := 1, cells := 0, slots := 0, locals := 24 } : Room) s m args below meth c H locs 0 0 (MQ below (va_Qi post (ck_Q G) (ck_A G s.heap.size)) args s 0 0 (ck_A G s.heap.size)) (F0 m 0 ls []) := by
  obtain ⟨hx, hb, hr, hml, hown, hts, hlocks⟩ := id X
  unfold sp_X2_ofRow__8 at h
  refine lv_aload_n hx hb dX2_ofRow_0 rfl (lv_at hl 0 rfl) ?_
  refine ck_alen hx hb hw (hC.1 8 (by decide)) rfl 0 rfl rfl dX2_ofRow_1 ?_
  refine lv_iload_n hx hb dX2_ofRow_2 rfl (lv_at hl 1 rfl) ?_
  refine lv_iload_n hx hb dX2_ofRow_3 rfl (lv_at hl 2 rfl) ?_
  refine lv_iadd hx hb dX2_ofRow_4 ?_
  refine va_mmin hx hb (hml.trans hl.1.symm) hown (hts _ (List.mem_of_getElem? (i := 1) rfl)) (hts _ (List.mem_of_getElem? (i := 2) rfl)) (hts _ (List.mem_of_getElem? (i := 3) rfl)) (hts _ (List.mem_of_getElem? (i := 4) rfl)) (Nat.le_of_ble_eq_true rfl) (Nat.le_of_ble_eq_true rfl) (Nat.le_of_ble_eq_true rfl) (Nat.le_of_ble_eq_true rfl) dX2_ofRow_5 ?_
  refine lv_topi (fun x_1 ex_1 => ?_)
  have h := h x_1 ex_1
  refine lv_istore_n (lv' := [(3, .int x_1), (0, .ref (ck_ad G 8 0)), (1, .int a1), (2, .int a2)]) hx hb dX2_ofRow_8 rfl hl (by decide) rfl (fun ls hl => ?_)
  refine lv_iconst (v := 0) hx hb dX2_ofRow_9 (by decide) ?_
  refine lv_istore (lv' := [(4, .int 0), (3, .int x_1), (0, .ref (ck_ad G 8 0)), (1, .int a1), (2, .int a2)]) hx hb dX2_ofRow_10 hl (by decide) rfl (fun ls hl => ?_)
  refine lv_iconst (v := 0) hx hb dX2_ofRow_12 (by decide) ?_
  refine lv_iload_n hx hb dX2_ofRow_13 rfl (lv_at hl 3 rfl) ?_
  refine va_mmax hx hb (hml.trans hl.1.symm) hown (hts _ (List.mem_of_getElem? (i := 5) rfl)) (hts _ (List.mem_of_getElem? (i := 6) rfl)) (hts _ (List.mem_of_getElem? (i := 3) rfl)) (hts _ (List.mem_of_getElem? (i := 7) rfl)) (Nat.le_of_ble_eq_true rfl) (Nat.le_of_ble_eq_true rfl) (Nat.le_of_ble_eq_true rfl) (Nat.le_of_ble_eq_true rfl) dX2_ofRow_14 ?_
  refine lv_topi (fun x_2 ex_2 => ?_)
  have h := h x_2 ex_2
  refine lv_istore (lv' := [(5, .int x_2), (4, .int 0), (3, .int x_1), (0, .ref (ck_ad G 8 0)), (1, .int a1), (2, .int a2)]) hx hb dX2_ofRow_17 hl (by decide) rfl (fun ls hl => ?_)
  obtain ⟨fu, h⟩ := h
  exact wk_X2_ofRow__8_19 X hC fu _ _ _ _ _ _ _ h hw (lv_sub hl [3, 2, 1, 0] rfl)
set_option maxHeartbeats 4000000 in
set_option maxRecDepth 100000 in
theorem ct_X2_ofRow__8 (l : Launch) (G : ck_G) (hC : ck_inC G) {a1 : Int32} {a2 : Int32} {σ : ck_S} {post : Int32 → ck_S → Prop} (h : sp_X2_ofRow__8 (ck_nc G) (ck_nb G) σ a1 a2 post) : ck_Mi l yX2_ofRow wsX2_ofRow ({ frames := 1, cells := 0, slots := 0, locals := 24 } : Room) G σ [.ref (ck_ad G 8 0), .int a1, .int a2] post := by
  intro sz
  refine Met.ofW (cc := cX2_ofRow) (maxL := 6) (ret := (some .int)) (by decide) rfl ?_
  intro p e s m args below meth c s₁ B hml hv
  obtain ⟨rfl, rfl, hw⟩ := ck_enter hv
  have hl := lv_entry ([.ref (ck_ad G 8 0), .int a1, .int a2]) (n := 6) (Nat.le_of_ble_eq_true rfl)
  rw [lg_entry_eq]
  generalize (lg_sl ([.ref (ck_ad G 8 0), .int a1, .int a2]) ++ List.replicate (6 - (lg_sl ([.ref (ck_ad G 8 0), .int a1, .int a2])).length) Slot.unset).toArray = ls at hl ⊢
  have hl : lv_has ls 6 [(0, .ref (ck_ad G 8 0)), (1, .int a1), (2, .int a2)] := hl
  exact wk_X2_ofRow__8_0 ⟨B.exec, B.bytes, B.returns, hml, findClass_of_methodNamed B.named, atoms_spec (ws := wsX2_ofRow) B.pre, B.notSynchronized⟩ hC h hw hl
def bd_X0_beginAnew_2 (nc nb : Nat) (post : ck_S → Prop) (K2 : ck_S → Int32 → Prop) (σ : ck_S) (x1 : Int32) : Prop := ((7 ≤ x1 → (∀ σ2, σ2 = ck_ui σ 3 0 2 0 → ∀ σ3, σ3 = ck_ui σ2 3 0 3 0 → post σ3)) ∧ (¬ 7 ≤ x1 → ((vp_in x1 7) ∧ ∀ σ5, σ5 = ck_ui σ 4 0 (Int32.toNatClampNeg x1) 0 → ∀ x_6, x_6 = x1 + 1 → K2 σ5 x_6)))
def sp_X0_beginAnew (nc nb : Nat) (σ : ck_S) (post : ck_S → Prop) : Prop := lx_2 (bd_X0_beginAnew_2 nc nb post) σ 0
set_option maxHeartbeats 4000000 in
set_option maxRecDepth 100000 in
theorem wk_X0_beginAnew_2 {p : Program} {l : Launch} {e : Env} {s : State} {m : MethodId} {args : Array Value} {below : List Frame} {meth : Method} {c : Code} {G : ck_G} (X : ck_X p s m meth c args cX0_beginAnew 2 none RX0 wsX0_beginAnew) (hC : ck_inC G) {post : ck_S → Prop} : ∀ (fu : Nat) (σ : ck_S) (x1 : Int32) (H : Heap) (locs : List Loc) (ls : Array Slot), lk_2 (bd_X0_beginAnew_2 (ck_nc G) (ck_nb G) post) fu σ x1 → ck_H G s H locs σ → lv_has ls 2 [(0, .ref (ck_ad G 3 0)), (1, .int x1)] → W p l e ({ frames := 0, cells := 0, slots := 0, locals := 0 } : Room) s m args below meth c H locs 0 0 (MQ below (va_Qv post (ck_Q G) (ck_A G s.heap.size)) args s 0 0 (ck_A G s.heap.size)) (F0 m 2 ls []) := by
  obtain ⟨hx, hb, hr, hml, hown, hts, hlocks⟩ := id X
  have inX0 : ∀ w ∈ wsX00, w ∈ wsX0_beginAnew := fun _ h => List.mem_cons_of_mem _ (List.mem_append_right _ (h))
  intro fu
  induction fu with
  | zero => intro σ x1 H locs ls h hw hl; exact h.elim
  | succ fu hK2 =>
    intro σ x1 H locs ls h hw hl
    have h : bd_X0_beginAnew_2 (ck_nc G) (ck_nb G) post (lk_2 (bd_X0_beginAnew_2 (ck_nc G) (ck_nb G) post) fu) σ x1 := h
    unfold bd_X0_beginAnew_2 at h
    refine lv_iload_n hx hb dX0_beginAnew_2 rfl (lv_at hl 1 rfl) ?_
    refine lv_bipush (v := 7) hx hb dX0_beginAnew_3 (by decide) ?_
    obtain ⟨hA, hB⟩ := h
    refine lv_icmp_ge (tgt := 21) hx hb dX0_beginAnew_5 (by decide) (fun c1 => ?_) (fun c1 => ?_)
    · have h := hA c1
      refine lv_aload_n hx hb dX0_beginAnew_21 rfl (lv_at hl 0 rfl) ?_
      refine lv_iconst (v := 0) hx hb dX0_beginAnew_22 (by decide) ?_
      refine ck_puti hx hb hts inX0 tyX0 tyX0_ok nmX0 hown hw (hC.1 3 (by decide)) rfl rfl 2 (by decide) (hts _ (List.mem_of_getElem? (i := 2) rfl)) rfl rfl rfl (Nat.le_of_ble_eq_true rfl) rfl dX0_beginAnew_23 (fun H locs hw => ?_)
      obtain ⟨σ2, eσ2⟩ : ∃ z : ck_S, z = ck_ui σ 3 0 2 0 := ⟨_, rfl⟩
      rw [← eσ2] at hw
      have h := h σ2 eσ2
      refine lv_aload_n hx hb dX0_beginAnew_26 rfl (lv_at hl 0 rfl) ?_
      refine lv_iconst (v := 0) hx hb dX0_beginAnew_27 (by decide) ?_
      refine ck_puti hx hb hts inX0 tyX0 tyX0_ok nmX0 hown hw (hC.1 3 (by decide)) rfl rfl 3 (by decide) (hts _ (List.mem_of_getElem? (i := 3) rfl)) rfl rfl rfl (Nat.le_of_ble_eq_true rfl) rfl dX0_beginAnew_28 (fun H locs hw => ?_)
      obtain ⟨σ3, eσ3⟩ : ∃ z : ck_S, z = ck_ui σ2 3 0 3 0 := ⟨_, rfl⟩
      rw [← eσ3] at hw
      have h := h σ3 eσ3
      exact ck_vret X hw h dX0_beginAnew_31
    · have h := hB c1
      refine lv_aload_n hx hb dX0_beginAnew_8 rfl (lv_at hl 0 rfl) ?_
      refine ck_get hx hb hts inX0 hown hw (hC.1 3 (by decide)) rfl rfl 1 (by decide) (hts _ (List.mem_of_getElem? (i := 1) rfl)) rfl dX0_beginAnew_9 ?_
      refine lv_iload_n hx hb dX0_beginAnew_12 rfl (lv_at hl 1 rfl) ?_
      refine lv_iconst (v := 0) hx hb dX0_beginAnew_13 (by decide) ?_
      obtain ⟨n4, h⟩ := h
      refine ck_iast hx hb hw (hC.1 4 (by decide)) (fun _ => rfl) n4 dX0_beginAnew_14 (fun H locs hw => ?_)
      obtain ⟨σ5, eσ5⟩ : ∃ z : ck_S, z = ck_ui σ 4 0 (Int32.toNatClampNeg x1) 0 := ⟨_, rfl⟩
      rw [← eσ5] at hw
      have h := h σ5 eσ5
      obtain ⟨x_6, ex_6⟩ : ∃ z : Int32, z = x1 + 1 := ⟨_, rfl⟩
      have h := h x_6 ex_6
      refine lv_iinc (v := x_6) (lv' := [(1, .int x_6), (0, .ref (ck_ad G 3 0))]) hx hb dX0_beginAnew_15 hl (k := 1) rfl (by rw [ex_6]; rfl) (by decide) rfl (fun ls hl => ?_)
      refine lv_goto (tgt := 2) hx hb dX0_beginAnew_18 (by decide) ?_
      exact hK2 _ _ _ _ _ h hw (lv_sub hl [1, 0] rfl)
set_option maxHeartbeats 4000000 in
set_option maxRecDepth 100000 in
theorem wk_X0_beginAnew_0 {p : Program} {l : Launch} {e : Env} {s : State} {m : MethodId} {args : Array Value} {below : List Frame} {meth : Method} {c : Code} {G : ck_G} (X : ck_X p s m meth c args cX0_beginAnew 2 none RX0 wsX0_beginAnew) (hC : ck_inC G) {post : ck_S → Prop} {σ : ck_S} {H : Heap} {locs : List Loc} {ls : Array Slot} (h : sp_X0_beginAnew (ck_nc G) (ck_nb G) σ post) (hw : ck_H G s H locs σ) (hl : lv_has ls 2 [(0, .ref (ck_ad G 3 0))]) : W p l e ({ frames := 0, cells := 0, slots := 0, locals := 0 } : Room) s m args below meth c H locs 0 0 (MQ below (va_Qv post (ck_Q G) (ck_A G s.heap.size)) args s 0 0 (ck_A G s.heap.size)) (F0 m 0 ls []) := by
  obtain ⟨hx, hb, hr, hml, hown, hts, hlocks⟩ := id X
  have inX0 : ∀ w ∈ wsX00, w ∈ wsX0_beginAnew := fun _ h => List.mem_cons_of_mem _ (List.mem_append_right _ (h))
  unfold sp_X0_beginAnew at h
  refine lv_iconst (v := 0) hx hb dX0_beginAnew_0 (by decide) ?_
  refine lv_istore_n (lv' := [(1, .int 0), (0, .ref (ck_ad G 3 0))]) hx hb dX0_beginAnew_1 rfl hl (by decide) rfl (fun ls hl => ?_)
  obtain ⟨fu, h⟩ := h
  exact wk_X0_beginAnew_2 X hC fu _ _ _ _ _ h hw (lv_sub hl [1, 0] rfl)
set_option maxHeartbeats 4000000 in
set_option maxRecDepth 100000 in
theorem ct_X0_beginAnew (l : Launch) (G : ck_G) (hC : ck_inC G) {σ : ck_S} {post : ck_S → Prop} (h : sp_X0_beginAnew (ck_nc G) (ck_nb G) σ post) : ck_Mv l yX0_beginAnew wsX0_beginAnew ({ frames := 0, cells := 0, slots := 0, locals := 0 } : Room) G σ [.ref (ck_ad G 3 0)] post := by
  intro sz
  refine Met.ofW (cc := cX0_beginAnew) (maxL := 2) (ret := none) (by decide) rfl ?_
  intro p e s m args below meth c s₁ B hml hv
  obtain ⟨rfl, rfl, hw⟩ := ck_enter hv
  have hl := lv_entry ([.ref (ck_ad G 3 0)]) (n := 2) (Nat.le_of_ble_eq_true rfl)
  rw [lg_entry_eq]
  generalize (lg_sl ([.ref (ck_ad G 3 0)]) ++ List.replicate (2 - (lg_sl ([.ref (ck_ad G 3 0)])).length) Slot.unset).toArray = ls at hl ⊢
  have hl : lv_has ls 2 [(0, .ref (ck_ad G 3 0))] := hl
  exact wk_X0_beginAnew_0 ⟨B.exec, B.bytes, B.returns, hml, findClass_of_methodNamed B.named, atoms_spec (ws := wsX0_beginAnew) B.pre, B.notSynchronized⟩ hC h hw hl
def sp_X0_isLatched (nc nb : Nat) (σ : ck_S) (a0 : Int32) (post : Int32 → ck_S → Prop) : Prop := ((((((ck_gi σ 3 0 2).toUInt32 >>> (a0.toUInt32 &&& Int32.toUInt32 31)).toInt32) &&& 1) = 0 → ((ck_b 0 ∧ post 0 σ))) ∧ (¬ ((((ck_gi σ 3 0 2).toUInt32 >>> (a0.toUInt32 &&& Int32.toUInt32 31)).toInt32) &&& 1) = 0 → ((ck_b 1 ∧ post 1 σ))))
set_option maxHeartbeats 4000000 in
set_option maxRecDepth 100000 in
theorem wk_X0_isLatched_0 {p : Program} {l : Launch} {e : Env} {s : State} {m : MethodId} {args : Array Value} {below : List Frame} {meth : Method} {c : Code} {G : ck_G} (X : ck_X p s m meth c args cX0_isLatched 2 (some .boolean) RX0 wsX0_isLatched) (hC : ck_inC G) {post : Int32 → ck_S → Prop} {σ : ck_S} {a0 : Int32} {H : Heap} {locs : List Loc} {ls : Array Slot} (h : sp_X0_isLatched (ck_nc G) (ck_nb G) σ a0 post) (hw : ck_H G s H locs σ) (hl : lv_has ls 2 [(0, .ref (ck_ad G 3 0)), (1, .int a0)]) : W p l e ({ frames := 0, cells := 0, slots := 0, locals := 0 } : Room) s m args below meth c H locs 0 0 (MQ below (va_Qi post (ck_Q G) (ck_A G s.heap.size)) args s 0 0 (ck_A G s.heap.size)) (F0 m 0 ls []) := by
  obtain ⟨hx, hb, hr, hml, hown, hts, hlocks⟩ := id X
  have inX0 : ∀ w ∈ wsX00, w ∈ wsX0_isLatched := fun _ h => List.mem_cons_of_mem _ (List.mem_append_right _ (h))
  unfold sp_X0_isLatched at h
  refine lv_aload_n hx hb dX0_isLatched_0 rfl (lv_at hl 0 rfl) ?_
  refine ck_get hx hb hts inX0 hown hw (hC.1 3 (by decide)) rfl rfl 2 (by decide) (hts _ (List.mem_of_getElem? (i := 1) rfl)) rfl dX0_isLatched_1 ?_
  refine lv_iload_n hx hb dX0_isLatched_4 rfl (lv_at hl 1 rfl) ?_
  refine lv_iushr hx hb dX0_isLatched_5 rfl ?_
  refine lv_iconst (v := 1) hx hb dX0_isLatched_6 (by decide) ?_
  refine lv_iand hx hb dX0_isLatched_7 ?_
  obtain ⟨hA, hB⟩ := h
  refine lv_if_eq (tgt := 15) hx hb dX0_isLatched_8 (by decide) (fun c1 => ?_) (fun c1 => ?_)
  · have h := hA c1
    refine lv_iconst (v := 0) hx hb dX0_isLatched_15 (by decide) ?_
    exact ck_zret X hw h dX0_isLatched_16
  · have h := hB c1
    refine lv_iconst (v := 1) hx hb dX0_isLatched_11 (by decide) ?_
    refine lv_goto (tgt := 16) hx hb dX0_isLatched_12 (by decide) ?_
    exact ck_zret X hw h dX0_isLatched_16
set_option maxHeartbeats 4000000 in
set_option maxRecDepth 100000 in
theorem ct_X0_isLatched (l : Launch) (G : ck_G) (hC : ck_inC G) {a0 : Int32} {σ : ck_S} {post : Int32 → ck_S → Prop} (h : sp_X0_isLatched (ck_nc G) (ck_nb G) σ a0 post) : ck_Mi l yX0_isLatched wsX0_isLatched ({ frames := 0, cells := 0, slots := 0, locals := 0 } : Room) G σ [.ref (ck_ad G 3 0), .int a0] post := by
  intro sz
  refine Met.ofW (cc := cX0_isLatched) (maxL := 2) (ret := (some .boolean)) (by decide) rfl ?_
  intro p e s m args below meth c s₁ B hml hv
  obtain ⟨rfl, rfl, hw⟩ := ck_enter hv
  have hl := lv_entry ([.ref (ck_ad G 3 0), .int a0]) (n := 2) (Nat.le_of_ble_eq_true rfl)
  rw [lg_entry_eq]
  generalize (lg_sl ([.ref (ck_ad G 3 0), .int a0]) ++ List.replicate (2 - (lg_sl ([.ref (ck_ad G 3 0), .int a0])).length) Slot.unset).toArray = ls at hl ⊢
  have hl : lv_has ls 2 [(0, .ref (ck_ad G 3 0)), (1, .int a0)] := hl
  exact wk_X0_isLatched_0 ⟨B.exec, B.bytes, B.returns, hml, findClass_of_methodNamed B.named, atoms_spec (ws := wsX0_isLatched) B.pre, B.notSynchronized⟩ hC h hw hl
def sp_X0_latch (nc nb : Nat) (σ : ck_S) (a0 : Int32) (post : ck_S → Prop) : Prop := sp_X0_isLatched nc nb σ a0 (fun x_2 σ1 => ((¬ x_2 = 0 → (post σ1)) ∧ (x_2 = 0 → (∀ σ4, σ4 = ck_ui σ1 3 0 2 ((ck_gi σ1 3 0 2) ||| (1 <<< (a0 &&& 31))) → ∀ σ5, σ5 = ck_ui σ4 3 0 3 1 → post σ5))))
set_option maxHeartbeats 4000000 in
set_option maxRecDepth 100000 in
theorem wk_X0_latch_0 {p : Program} {l : Launch} {e : Env} {s : State} {m : MethodId} {args : Array Value} {below : List Frame} {meth : Method} {c : Code} {G : ck_G} (X : ck_X p s m meth c args cX0_latch 2 none RX0 wsX0_latch) (hC : ck_inC G) {post : ck_S → Prop} {σ : ck_S} {a0 : Int32} {H : Heap} {locs : List Loc} {ls : Array Slot} (h : sp_X0_latch (ck_nc G) (ck_nb G) σ a0 post) (hw : ck_H G s H locs σ) (hl : lv_has ls 2 [(0, .ref (ck_ad G 3 0)), (1, .int a0)]) : W p l e ({ frames := 1, cells := 0, slots := 0, locals := 21 } : Room) s m args below meth c H locs 0 0 (MQ below (va_Qv post (ck_Q G) (ck_A G s.heap.size)) args s 0 0 (ck_A G s.heap.size)) (F0 m 0 ls []) := by
  obtain ⟨hx, hb, hr, hml, hown, hts, hlocks⟩ := id X
  have inX0 : ∀ w ∈ wsX00, w ∈ wsX0_latch := fun _ h => List.mem_cons_of_mem _ (List.mem_append_right _ (h))
  unfold sp_X0_latch at h
  refine lv_aload_n hx hb dX0_latch_0 rfl (lv_at hl 0 rfl) ?_
  refine lv_iload_n hx hb dX0_latch_1 rfl (lv_at hl 1 rfl) ?_
  refine ck_callVi (rest := []) ⟨hx, hb, hml, hown, hts⟩ hw (hC.1 3 (by decide)) rfl rfl (ct_X0_isLatched l G hC h) (cwV 1 hts gX0_latch_X0_isLatched rfl rfl rfl (by decide +kernel) ⟨(Nat.le_of_ble_eq_true rfl), (Nat.le_of_ble_eq_true rfl)⟩) rfl hl.1 rfl (Nat.le_of_ble_eq_true rfl) dX0_latch_2 ⟨(Nat.le_of_ble_eq_true rfl), (Nat.le_of_ble_eq_true rfl)⟩ (fun x_2 σ1 H locs h hw => ?_)
  obtain ⟨hA, hB⟩ := h
  refine lv_if_ne (tgt := 25) hx hb dX0_latch_5 (by decide) (fun c3 => ?_) (fun c3 => ?_)
  · have h := hA c3
    exact ck_vret X hw h dX0_latch_25
  · have h := hB c3
    refine lv_aload_n hx hb dX0_latch_8 rfl (lv_at hl 0 rfl) ?_
    refine lv_aload_n hx hb dX0_latch_9 rfl (lv_at hl 0 rfl) ?_
    refine ck_get hx hb hts inX0 hown hw (hC.1 3 (by decide)) rfl rfl 2 (by decide) (hts _ (List.mem_of_getElem? (i := 1) rfl)) rfl dX0_latch_10 ?_
    refine lv_iconst (v := 1) hx hb dX0_latch_13 (by decide) ?_
    refine lv_iload_n hx hb dX0_latch_14 rfl (lv_at hl 1 rfl) ?_
    refine lv_ishl hx hb dX0_latch_15 ?_
    refine lv_ior hx hb dX0_latch_16 ?_
    refine ck_puti hx hb hts inX0 tyX0 tyX0_ok nmX0 hown hw (hC.1 3 (by decide)) rfl rfl 2 (by decide) (hts _ (List.mem_of_getElem? (i := 1) rfl)) rfl rfl rfl (Nat.le_of_ble_eq_true rfl) rfl dX0_latch_17 (fun H locs hw => ?_)
    obtain ⟨σ4, eσ4⟩ : ∃ z : ck_S, z = ck_ui σ1 3 0 2 ((ck_gi σ1 3 0 2) ||| (1 <<< (a0 &&& 31))) := ⟨_, rfl⟩
    rw [← eσ4] at hw
    have h := h σ4 eσ4
    refine lv_aload_n hx hb dX0_latch_20 rfl (lv_at hl 0 rfl) ?_
    refine lv_iconst (v := 1) hx hb dX0_latch_21 (by decide) ?_
    refine ck_puti hx hb hts inX0 tyX0 tyX0_ok nmX0 hown hw (hC.1 3 (by decide)) rfl rfl 3 (by decide) (hts _ (List.mem_of_getElem? (i := 2) rfl)) rfl rfl rfl (Nat.le_of_ble_eq_true rfl) rfl dX0_latch_22 (fun H locs hw => ?_)
    obtain ⟨σ5, eσ5⟩ : ∃ z : ck_S, z = ck_ui σ4 3 0 3 1 := ⟨_, rfl⟩
    rw [← eσ5] at hw
    have h := h σ5 eσ5
    exact ck_vret X hw h dX0_latch_25
set_option maxHeartbeats 4000000 in
set_option maxRecDepth 100000 in
theorem ct_X0_latch (l : Launch) (G : ck_G) (hC : ck_inC G) {a0 : Int32} {σ : ck_S} {post : ck_S → Prop} (h : sp_X0_latch (ck_nc G) (ck_nb G) σ a0 post) : ck_Mv l yX0_latch wsX0_latch ({ frames := 1, cells := 0, slots := 0, locals := 21 } : Room) G σ [.ref (ck_ad G 3 0), .int a0] post := by
  intro sz
  refine Met.ofW (cc := cX0_latch) (maxL := 2) (ret := none) (by decide) rfl ?_
  intro p e s m args below meth c s₁ B hml hv
  obtain ⟨rfl, rfl, hw⟩ := ck_enter hv
  have hl := lv_entry ([.ref (ck_ad G 3 0), .int a0]) (n := 2) (Nat.le_of_ble_eq_true rfl)
  rw [lg_entry_eq]
  generalize (lg_sl ([.ref (ck_ad G 3 0), .int a0]) ++ List.replicate (2 - (lg_sl ([.ref (ck_ad G 3 0), .int a0])).length) Slot.unset).toArray = ls at hl ⊢
  have hl : lv_has ls 2 [(0, .ref (ck_ad G 3 0)), (1, .int a0)] := hl
  exact wk_X0_latch_0 ⟨B.exec, B.bytes, B.returns, hml, findClass_of_methodNamed B.named, atoms_spec (ws := wsX0_latch) B.pre, B.notSynchronized⟩ hC h hw hl
def sp_X0_watch_27 (nc nb : Nat) (post : ck_S → Prop) (σ : ck_S) (x1 : Int32) (s0 : Int32) (s1 : Int32) : Prop := (vp_in s1 7) ∧ ∀ σ2, σ2 = ck_ui σ 4 0 (Int32.toNatClampNeg s1) s0 → (vp_in x1 7) ∧ (((ck_gi σ2 4 0 (Int32.toNatClampNeg x1)) < (ck_gi σ2 3 0 0) → (post σ2)) ∧ (¬ (ck_gi σ2 4 0 (Int32.toNatClampNeg x1)) < (ck_gi σ2 3 0 0) → (sp_X0_latch nc nb σ2 x1 (fun σ5 => post σ5))))
def sp_X0_watch (nc nb : Nat) (σ : ck_S) (a0 : Int32) (a1 : Int32) (post : ck_S → Prop) : Prop := ((a1 = 0 → (sp_X0_watch_27 nc nb post σ a0 0 a0)) ∧ (¬ a1 = 0 → ((vp_in a0 7) ∧ sp_X0_watch_27 nc nb post σ a0 (if ((ck_gi σ 4 0 (Int32.toNatClampNeg a0)) + 1) < 255 then ((ck_gi σ 4 0 (Int32.toNatClampNeg a0)) + 1) else 255) a0)))
set_option maxHeartbeats 4000000 in
set_option maxRecDepth 100000 in
theorem wk_X0_watch_27 {p : Program} {l : Launch} {e : Env} {s : State} {m : MethodId} {args : Array Value} {below : List Frame} {meth : Method} {c : Code} {G : ck_G} (X : ck_X p s m meth c args cX0_watch 3 none RX0 wsX0_watch) (hC : ck_inC G) {post : ck_S → Prop} {σ : ck_S} {x1 : Int32} {s0 : Int32} {s1 : Int32} {H : Heap} {locs : List Loc} {ls : Array Slot} (h : sp_X0_watch_27 (ck_nc G) (ck_nb G) post σ x1 s0 s1) (hw : ck_H G s H locs σ) (hl : lv_has ls 3 [(0, .ref (ck_ad G 3 0)), (1, .int x1)]) : W p l e ({ frames := 2, cells := 0, slots := 0, locals := 42 } : Room) s m args below meth c H locs 0 0 (MQ below (va_Qv post (ck_Q G) (ck_A G s.heap.size)) args s 0 0 (ck_A G s.heap.size)) (F0 m 27 ls [.int s0, .int s1, .ref (ck_ad G 4 0)]) := by
  obtain ⟨hx, hb, hr, hml, hown, hts, hlocks⟩ := id X
  have inX0 : ∀ w ∈ wsX00, w ∈ wsX0_watch := fun _ h => List.mem_cons_of_mem _ (List.mem_append_right _ (h))
  unfold sp_X0_watch_27 at h
  obtain ⟨n1, h⟩ := h
  refine ck_iast hx hb hw (hC.1 4 (by decide)) (fun _ => rfl) n1 dX0_watch_27 (fun H locs hw => ?_)
  obtain ⟨σ2, eσ2⟩ : ∃ z : ck_S, z = ck_ui σ 4 0 (Int32.toNatClampNeg s1) s0 := ⟨_, rfl⟩
  rw [← eσ2] at hw
  have h := h σ2 eσ2
  refine lv_aload_n hx hb dX0_watch_28 rfl (lv_at hl 0 rfl) ?_
  refine ck_get hx hb hts inX0 hown hw (hC.1 3 (by decide)) rfl rfl 1 (by decide) (hts _ (List.mem_of_getElem? (i := 1) rfl)) rfl dX0_watch_29 ?_
  refine lv_iload_n hx hb dX0_watch_32 rfl (lv_at hl 1 rfl) ?_
  obtain ⟨n3, h⟩ := h
  refine ck_iald hx hb hw (hC.1 4 (by decide)) rfl n3 dX0_watch_33 ?_
  refine lv_aload_n hx hb dX0_watch_34 rfl (lv_at hl 0 rfl) ?_
  refine ck_get hx hb hts inX0 hown hw (hC.1 3 (by decide)) rfl rfl 0 (by decide) (hts _ (List.mem_of_getElem? (i := 6) rfl)) rfl dX0_watch_35 ?_
  obtain ⟨hA, hB⟩ := h
  refine lv_icmp_lt (tgt := 46) hx hb dX0_watch_38 (by decide) (fun c4 => ?_) (fun c4 => ?_)
  · have h := hA c4
    exact ck_vret X hw h dX0_watch_46
  · have h := hB c4
    refine lv_aload_n hx hb dX0_watch_41 rfl (lv_at hl 0 rfl) ?_
    refine lv_iload_n hx hb dX0_watch_42 rfl (lv_at hl 1 rfl) ?_
    refine ck_callVv (rest := []) ⟨hx, hb, hml, hown, hts⟩ hw (hC.1 3 (by decide)) rfl rfl (ct_X0_latch l G hC h) (cwV 1 hts gX0_watch_X0_latch rfl rfl rfl (by decide +kernel) ⟨(Nat.le_of_ble_eq_true rfl), (Nat.le_of_ble_eq_true rfl)⟩) rfl hl.1 rfl (Nat.le_of_ble_eq_true rfl) dX0_watch_43 ⟨(Nat.le_of_ble_eq_true rfl), (Nat.le_of_ble_eq_true rfl)⟩ (fun σ5 H locs h hw => ?_)
    exact ck_vret X hw h dX0_watch_46
set_option maxHeartbeats 4000000 in
set_option maxRecDepth 100000 in
theorem wk_X0_watch_0 {p : Program} {l : Launch} {e : Env} {s : State} {m : MethodId} {args : Array Value} {below : List Frame} {meth : Method} {c : Code} {G : ck_G} (X : ck_X p s m meth c args cX0_watch 3 none RX0 wsX0_watch) (hC : ck_inC G) {post : ck_S → Prop} {σ : ck_S} {a0 : Int32} {a1 : Int32} {H : Heap} {locs : List Loc} {ls : Array Slot} (h : sp_X0_watch (ck_nc G) (ck_nb G) σ a0 a1 post) (hw : ck_H G s H locs σ) (hl : lv_has ls 3 [(0, .ref (ck_ad G 3 0)), (1, .int a0), (2, .int a1)]) : W p l e ({ frames := 2, cells := 0, slots := 0, locals := 42 } : Room) s m args below meth c H locs 0 0 (MQ below (va_Qv post (ck_Q G) (ck_A G s.heap.size)) args s 0 0 (ck_A G s.heap.size)) (F0 m 0 ls []) := by
  obtain ⟨hx, hb, hr, hml, hown, hts, hlocks⟩ := id X
  have inX0 : ∀ w ∈ wsX00, w ∈ wsX0_watch := fun _ h => List.mem_cons_of_mem _ (List.mem_append_right _ (h))
  unfold sp_X0_watch at h
  refine lv_aload_n hx hb dX0_watch_0 rfl (lv_at hl 0 rfl) ?_
  refine ck_get hx hb hts inX0 hown hw (hC.1 3 (by decide)) rfl rfl 1 (by decide) (hts _ (List.mem_of_getElem? (i := 1) rfl)) rfl dX0_watch_1 ?_
  refine lv_iload_n hx hb dX0_watch_4 rfl (lv_at hl 1 rfl) ?_
  refine lv_iload_n hx hb dX0_watch_5 rfl (lv_at hl 2 rfl) ?_
  obtain ⟨hA, hB⟩ := h
  refine lv_if_eq (tgt := 26) hx hb dX0_watch_6 (by decide) (fun c1 => ?_) (fun c1 => ?_)
  · have h := hA c1
    refine lv_iconst (v := 0) hx hb dX0_watch_26 (by decide) ?_
    exact wk_X0_watch_27 X hC h hw (lv_sub hl [0, 1] rfl)
  · have h := hB c1
    refine lv_sipush (v := 255) hx hb dX0_watch_9 (by decide) ?_
    refine lv_aload_n hx hb dX0_watch_12 rfl (lv_at hl 0 rfl) ?_
    refine ck_get hx hb hts inX0 hown hw (hC.1 3 (by decide)) rfl rfl 1 (by decide) (hts _ (List.mem_of_getElem? (i := 1) rfl)) rfl dX0_watch_13 ?_
    refine lv_iload_n hx hb dX0_watch_16 rfl (lv_at hl 1 rfl) ?_
    obtain ⟨n2, h⟩ := h
    refine ck_iald hx hb hw (hC.1 4 (by decide)) rfl n2 dX0_watch_17 ?_
    refine lv_iconst (v := 1) hx hb dX0_watch_18 (by decide) ?_
    refine lv_iadd hx hb dX0_watch_19 ?_
    refine va_mmin hx hb (hml.trans hl.1.symm) hown (hts _ (List.mem_of_getElem? (i := 2) rfl)) (hts _ (List.mem_of_getElem? (i := 3) rfl)) (hts _ (List.mem_of_getElem? (i := 4) rfl)) (hts _ (List.mem_of_getElem? (i := 5) rfl)) (Nat.le_of_ble_eq_true rfl) (Nat.le_of_ble_eq_true rfl) (Nat.le_of_ble_eq_true rfl) (Nat.le_of_ble_eq_true rfl) dX0_watch_20 ?_
    refine lv_goto (tgt := 27) hx hb dX0_watch_23 (by decide) ?_
    exact wk_X0_watch_27 X hC h hw (lv_sub hl [0, 1] rfl)
set_option maxHeartbeats 4000000 in
set_option maxRecDepth 100000 in
theorem ct_X0_watch (l : Launch) (G : ck_G) (hC : ck_inC G) {a0 : Int32} {a1 : Int32} {σ : ck_S} {post : ck_S → Prop} (h : sp_X0_watch (ck_nc G) (ck_nb G) σ a0 a1 post) : ck_Mv l yX0_watch wsX0_watch ({ frames := 2, cells := 0, slots := 0, locals := 42 } : Room) G σ [.ref (ck_ad G 3 0), .int a0, .int a1] post := by
  intro sz
  refine Met.ofW (cc := cX0_watch) (maxL := 3) (ret := none) (by decide) rfl ?_
  intro p e s m args below meth c s₁ B hml hv
  obtain ⟨rfl, rfl, hw⟩ := ck_enter hv
  have hl := lv_entry ([.ref (ck_ad G 3 0), .int a0, .int a1]) (n := 3) (Nat.le_of_ble_eq_true rfl)
  rw [lg_entry_eq]
  generalize (lg_sl ([.ref (ck_ad G 3 0), .int a0, .int a1]) ++ List.replicate (3 - (lg_sl ([.ref (ck_ad G 3 0), .int a0, .int a1])).length) Slot.unset).toArray = ls at hl ⊢
  have hl : lv_has ls 3 [(0, .ref (ck_ad G 3 0)), (1, .int a0), (2, .int a1)] := hl
  exact wk_X0_watch_0 ⟨B.exec, B.bytes, B.returns, hml, findClass_of_methodNamed B.named, atoms_spec (ws := wsX0_watch) B.pre, B.notSynchronized⟩ hC h hw hl
def sp_X0_anySerious (nc nb : Nat) (σ : ck_S) (post : Int32 → ck_S → Prop) : Prop := ((((ck_gi σ 3 0 2) &&& 477) = 0 → ((ck_b 0 ∧ post 0 σ))) ∧ (¬ ((ck_gi σ 3 0 2) &&& 477) = 0 → ((ck_b 1 ∧ post 1 σ))))
set_option maxHeartbeats 4000000 in
set_option maxRecDepth 100000 in
theorem wk_X0_anySerious_0 {p : Program} {l : Launch} {e : Env} {s : State} {m : MethodId} {args : Array Value} {below : List Frame} {meth : Method} {c : Code} {G : ck_G} (X : ck_X p s m meth c args cX0_anySerious 1 (some .boolean) RX0 wsX0_anySerious) (hC : ck_inC G) {post : Int32 → ck_S → Prop} {σ : ck_S} {H : Heap} {locs : List Loc} {ls : Array Slot} (h : sp_X0_anySerious (ck_nc G) (ck_nb G) σ post) (hw : ck_H G s H locs σ) (hl : lv_has ls 1 [(0, .ref (ck_ad G 3 0))]) : W p l e ({ frames := 0, cells := 0, slots := 0, locals := 0 } : Room) s m args below meth c H locs 0 0 (MQ below (va_Qi post (ck_Q G) (ck_A G s.heap.size)) args s 0 0 (ck_A G s.heap.size)) (F0 m 0 ls []) := by
  obtain ⟨hx, hb, hr, hml, hown, hts, hlocks⟩ := id X
  have inX0 : ∀ w ∈ wsX00, w ∈ wsX0_anySerious := fun _ h => List.mem_cons_of_mem _ (List.mem_append_right _ (h))
  unfold sp_X0_anySerious at h
  refine lv_aload_n hx hb dX0_anySerious_0 rfl (lv_at hl 0 rfl) ?_
  refine ck_get hx hb hts inX0 hown hw (hC.1 3 (by decide)) rfl rfl 2 (by decide) (hts _ (List.mem_of_getElem? (i := 1) rfl)) rfl dX0_anySerious_1 ?_
  refine lv_sipush (v := 477) hx hb dX0_anySerious_4 (by decide) ?_
  refine lv_iand hx hb dX0_anySerious_7 ?_
  obtain ⟨hA, hB⟩ := h
  refine lv_if_eq (tgt := 15) hx hb dX0_anySerious_8 (by decide) (fun c1 => ?_) (fun c1 => ?_)
  · have h := hA c1
    refine lv_iconst (v := 0) hx hb dX0_anySerious_15 (by decide) ?_
    exact ck_zret X hw h dX0_anySerious_16
  · have h := hB c1
    refine lv_iconst (v := 1) hx hb dX0_anySerious_11 (by decide) ?_
    refine lv_goto (tgt := 16) hx hb dX0_anySerious_12 (by decide) ?_
    exact ck_zret X hw h dX0_anySerious_16
set_option maxHeartbeats 4000000 in
set_option maxRecDepth 100000 in
theorem ct_X0_anySerious (l : Launch) (G : ck_G) (hC : ck_inC G) {σ : ck_S} {post : Int32 → ck_S → Prop} (h : sp_X0_anySerious (ck_nc G) (ck_nb G) σ post) : ck_Mi l yX0_anySerious wsX0_anySerious ({ frames := 0, cells := 0, slots := 0, locals := 0 } : Room) G σ [.ref (ck_ad G 3 0)] post := by
  intro sz
  refine Met.ofW (cc := cX0_anySerious) (maxL := 1) (ret := (some .boolean)) (by decide) rfl ?_
  intro p e s m args below meth c s₁ B hml hv
  obtain ⟨rfl, rfl, hw⟩ := ck_enter hv
  have hl := lv_entry ([.ref (ck_ad G 3 0)]) (n := 1) (Nat.le_of_ble_eq_true rfl)
  rw [lg_entry_eq]
  generalize (lg_sl ([.ref (ck_ad G 3 0)]) ++ List.replicate (1 - (lg_sl ([.ref (ck_ad G 3 0)])).length) Slot.unset).toArray = ls at hl ⊢
  have hl : lv_has ls 1 [(0, .ref (ck_ad G 3 0))] := hl
  exact wk_X0_anySerious_0 ⟨B.exec, B.bytes, B.returns, hml, findClass_of_methodNamed B.named, atoms_spec (ws := wsX0_anySerious) B.pre, B.notSynchronized⟩ hC h hw hl
def sp_X0_dismiss_24 (nc nb : Nat) (post : Int32 → ck_S → Prop) (σ : ck_S) (x1 : Int32) (s0 : Int32) : Prop := ((s0 = 0 → ((ck_b 0 ∧ post 0 σ))) ∧ (¬ s0 = 0 → (sp_X0_isLatched nc nb σ x1 (fun x_3 σ2 => ((¬ x_3 = 0 → (∀ σ5, σ5 = ck_ui σ2 3 0 2 ((ck_gi σ2 3 0 2) &&& ((1 <<< (x1 &&& 31)) ^^^ (-1))) → (ck_b 1 ∧ post 1 σ5))) ∧ (x_3 = 0 → ((ck_b 0 ∧ post 0 σ2))))))))
def sp_X0_dismiss (nc nb : Nat) (σ : ck_S) (a0 : Int32) (a1 : Int32) (post : Int32 → ck_S → Prop) : Prop := ((7 ≤ a0 → (sp_X0_dismiss_24 nc nb post σ a0 a1)) ∧ (¬ 7 ≤ a0 → ((vp_in a0 7) ∧ ((¬ (ck_gi σ 4 0 (Int32.toNatClampNeg a0)) = 0 → (sp_X0_dismiss_24 nc nb post σ a0 0)) ∧ ((ck_gi σ 4 0 (Int32.toNatClampNeg a0)) = 0 → (sp_X0_dismiss_24 nc nb post σ a0 1))))))
set_option maxHeartbeats 4000000 in
set_option maxRecDepth 100000 in
theorem wk_X0_dismiss_24 {p : Program} {l : Launch} {e : Env} {s : State} {m : MethodId} {args : Array Value} {below : List Frame} {meth : Method} {c : Code} {G : ck_G} (X : ck_X p s m meth c args cX0_dismiss 4 (some .boolean) RX0 wsX0_dismiss) (hC : ck_inC G) {post : Int32 → ck_S → Prop} {σ : ck_S} {x1 : Int32} {s0 : Int32} {H : Heap} {locs : List Loc} {ls : Array Slot} (h : sp_X0_dismiss_24 (ck_nc G) (ck_nb G) post σ x1 s0) (hw : ck_H G s H locs σ) (hl : lv_has ls 4 [(0, .ref (ck_ad G 3 0)), (1, .int x1)]) : W p l e ({ frames := 1, cells := 0, slots := 0, locals := 21 } : Room) s m args below meth c H locs 0 0 (MQ below (va_Qi post (ck_Q G) (ck_A G s.heap.size)) args s 0 0 (ck_A G s.heap.size)) (F0 m 24 ls [.int s0]) := by
  obtain ⟨hx, hb, hr, hml, hown, hts, hlocks⟩ := id X
  have inX0 : ∀ w ∈ wsX00, w ∈ wsX0_dismiss := fun _ h => List.mem_cons_of_mem _ (List.mem_append_right _ (h))
  unfold sp_X0_dismiss_24 at h
  refine lv_istore_n (lv' := [(3, .int s0), (0, .ref (ck_ad G 3 0)), (1, .int x1)]) hx hb dX0_dismiss_24 rfl hl (by decide) rfl (fun ls hl => ?_)
  refine lv_iload_n hx hb dX0_dismiss_25 rfl (lv_at hl 0 rfl) ?_
  obtain ⟨hA, hB⟩ := h
  refine lv_if_eq (tgt := 37) hx hb dX0_dismiss_26 (by decide) (fun c1 => ?_) (fun c1 => ?_)
  · have h := hA c1
    refine lv_iconst (v := 0) hx hb dX0_dismiss_37 (by decide) ?_
    exact ck_zret X hw h dX0_dismiss_38
  · have h := hB c1
    refine lv_aload_n hx hb dX0_dismiss_29 rfl (lv_at hl 1 rfl) ?_
    refine lv_iload_n hx hb dX0_dismiss_30 rfl (lv_at hl 2 rfl) ?_
    refine ck_callVi (rest := []) ⟨hx, hb, hml, hown, hts⟩ hw (hC.1 3 (by decide)) rfl rfl (ct_X0_isLatched l G hC h) (cwV 1 hts gX0_dismiss_X0_isLatched rfl rfl rfl (by decide +kernel) ⟨(Nat.le_of_ble_eq_true rfl), (Nat.le_of_ble_eq_true rfl)⟩) rfl hl.1 rfl (Nat.le_of_ble_eq_true rfl) dX0_dismiss_31 ⟨(Nat.le_of_ble_eq_true rfl), (Nat.le_of_ble_eq_true rfl)⟩ (fun x_3 σ2 H locs h hw => ?_)
    obtain ⟨hA, hB⟩ := h
    refine lv_if_ne (tgt := 39) hx hb dX0_dismiss_34 (by decide) (fun c4 => ?_) (fun c4 => ?_)
    · have h := hA c4
      refine lv_aload_n hx hb dX0_dismiss_39 rfl (lv_at hl 1 rfl) ?_
      refine lv_aload_n hx hb dX0_dismiss_40 rfl (lv_at hl 1 rfl) ?_
      refine ck_get hx hb hts inX0 hown hw (hC.1 3 (by decide)) rfl rfl 2 (by decide) (hts _ (List.mem_of_getElem? (i := 2) rfl)) rfl dX0_dismiss_41 ?_
      refine lv_iconst (v := 1) hx hb dX0_dismiss_44 (by decide) ?_
      refine lv_iload_n hx hb dX0_dismiss_45 rfl (lv_at hl 2 rfl) ?_
      refine lv_ishl hx hb dX0_dismiss_46 ?_
      refine lv_iconst (v := (-1)) hx hb dX0_dismiss_47 (by decide) ?_
      refine lv_ixor hx hb dX0_dismiss_48 ?_
      refine lv_iand hx hb dX0_dismiss_49 ?_
      refine ck_puti hx hb hts inX0 tyX0 tyX0_ok nmX0 hown hw (hC.1 3 (by decide)) rfl rfl 2 (by decide) (hts _ (List.mem_of_getElem? (i := 2) rfl)) rfl rfl rfl (Nat.le_of_ble_eq_true rfl) rfl dX0_dismiss_50 (fun H locs hw => ?_)
      obtain ⟨σ5, eσ5⟩ : ∃ z : ck_S, z = ck_ui σ2 3 0 2 ((ck_gi σ2 3 0 2) &&& ((1 <<< (x1 &&& 31)) ^^^ (-1))) := ⟨_, rfl⟩
      rw [← eσ5] at hw
      have h := h σ5 eσ5
      refine lv_iconst (v := 1) hx hb dX0_dismiss_53 (by decide) ?_
      exact ck_zret X hw h dX0_dismiss_54
    · have h := hB c4
      refine lv_iconst (v := 0) hx hb dX0_dismiss_37 (by decide) ?_
      exact ck_zret X hw h dX0_dismiss_38
set_option maxHeartbeats 4000000 in
set_option maxRecDepth 100000 in
theorem wk_X0_dismiss_0 {p : Program} {l : Launch} {e : Env} {s : State} {m : MethodId} {args : Array Value} {below : List Frame} {meth : Method} {c : Code} {G : ck_G} (X : ck_X p s m meth c args cX0_dismiss 4 (some .boolean) RX0 wsX0_dismiss) (hC : ck_inC G) {post : Int32 → ck_S → Prop} {σ : ck_S} {a0 : Int32} {a1 : Int32} {H : Heap} {locs : List Loc} {ls : Array Slot} (h : sp_X0_dismiss (ck_nc G) (ck_nb G) σ a0 a1 post) (hw : ck_H G s H locs σ) (hl : lv_has ls 4 [(0, .ref (ck_ad G 3 0)), (1, .int a0), (2, .int a1)]) : W p l e ({ frames := 1, cells := 0, slots := 0, locals := 21 } : Room) s m args below meth c H locs 0 0 (MQ below (va_Qi post (ck_Q G) (ck_A G s.heap.size)) args s 0 0 (ck_A G s.heap.size)) (F0 m 0 ls []) := by
  obtain ⟨hx, hb, hr, hml, hown, hts, hlocks⟩ := id X
  have inX0 : ∀ w ∈ wsX00, w ∈ wsX0_dismiss := fun _ h => List.mem_cons_of_mem _ (List.mem_append_right _ (h))
  unfold sp_X0_dismiss at h
  refine lv_iload_n hx hb dX0_dismiss_0 rfl (lv_at hl 1 rfl) ?_
  refine lv_bipush (v := 7) hx hb dX0_dismiss_1 (by decide) ?_
  obtain ⟨hA, hB⟩ := h
  refine lv_icmp_ge (tgt := 23) hx hb dX0_dismiss_3 (by decide) (fun c1 => ?_) (fun c1 => ?_)
  · have h := hA c1
    refine lv_iload_n hx hb dX0_dismiss_23 rfl (lv_at hl 2 rfl) ?_
    exact wk_X0_dismiss_24 X hC h hw (lv_sub hl [0, 1] rfl)
  · have h := hB c1
    refine lv_aload_n hx hb dX0_dismiss_6 rfl (lv_at hl 0 rfl) ?_
    refine ck_get hx hb hts inX0 hown hw (hC.1 3 (by decide)) rfl rfl 1 (by decide) (hts _ (List.mem_of_getElem? (i := 1) rfl)) rfl dX0_dismiss_7 ?_
    refine lv_iload_n hx hb dX0_dismiss_10 rfl (lv_at hl 1 rfl) ?_
    obtain ⟨n2, h⟩ := h
    refine ck_iald hx hb hw (hC.1 4 (by decide)) rfl n2 dX0_dismiss_11 ?_
    obtain ⟨hA, hB⟩ := h
    refine lv_if_ne (tgt := 19) hx hb dX0_dismiss_12 (by decide) (fun c3 => ?_) (fun c3 => ?_)
    · have h := hA c3
      refine lv_iconst (v := 0) hx hb dX0_dismiss_19 (by decide) ?_
      refine lv_goto (tgt := 24) hx hb dX0_dismiss_20 (by decide) ?_
      exact wk_X0_dismiss_24 X hC h hw (lv_sub hl [0, 1] rfl)
    · have h := hB c3
      refine lv_iconst (v := 1) hx hb dX0_dismiss_15 (by decide) ?_
      refine lv_goto (tgt := 24) hx hb dX0_dismiss_16 (by decide) ?_
      exact wk_X0_dismiss_24 X hC h hw (lv_sub hl [0, 1] rfl)
set_option maxHeartbeats 4000000 in
set_option maxRecDepth 100000 in
theorem ct_X0_dismiss (l : Launch) (G : ck_G) (hC : ck_inC G) {a0 : Int32} {a1 : Int32} {σ : ck_S} {post : Int32 → ck_S → Prop} (h : sp_X0_dismiss (ck_nc G) (ck_nb G) σ a0 a1 post) : ck_Mi l yX0_dismiss wsX0_dismiss ({ frames := 1, cells := 0, slots := 0, locals := 21 } : Room) G σ [.ref (ck_ad G 3 0), .int a0, .int a1] post := by
  intro sz
  refine Met.ofW (cc := cX0_dismiss) (maxL := 4) (ret := (some .boolean)) (by decide) rfl ?_
  intro p e s m args below meth c s₁ B hml hv
  obtain ⟨rfl, rfl, hw⟩ := ck_enter hv
  have hl := lv_entry ([.ref (ck_ad G 3 0), .int a0, .int a1]) (n := 4) (Nat.le_of_ble_eq_true rfl)
  rw [lg_entry_eq]
  generalize (lg_sl ([.ref (ck_ad G 3 0), .int a0, .int a1]) ++ List.replicate (4 - (lg_sl ([.ref (ck_ad G 3 0), .int a0, .int a1])).length) Slot.unset).toArray = ls at hl ⊢
  have hl : lv_has ls 4 [(0, .ref (ck_ad G 3 0)), (1, .int a0), (2, .int a1)] := hl
  exact wk_X0_dismiss_0 ⟨B.exec, B.bytes, B.returns, hml, findClass_of_methodNamed B.named, atoms_spec (ws := wsX0_dismiss) B.pre, B.notSynchronized⟩ hC h hw hl
def sp_X1_beginAnew (nc nb : Nat) (σ : ck_S) (post : ck_S → Prop) : Prop := ∀ σ1, σ1 = ck_ui σ 6 0 3 1 → ∀ σ2, σ2 = ck_ui σ1 6 0 4 32 → post σ2
set_option maxHeartbeats 4000000 in
set_option maxRecDepth 100000 in
theorem wk_X1_beginAnew_0 {p : Program} {l : Launch} {e : Env} {s : State} {m : MethodId} {args : Array Value} {below : List Frame} {meth : Method} {c : Code} {G : ck_G} (X : ck_X p s m meth c args cX1_beginAnew 1 none RX1 wsX1_beginAnew) (hC : ck_inC G) {post : ck_S → Prop} {σ : ck_S} {H : Heap} {locs : List Loc} {ls : Array Slot} (h : sp_X1_beginAnew (ck_nc G) (ck_nb G) σ post) (hw : ck_H G s H locs σ) (hl : lv_has ls 1 [(0, .ref (ck_ad G 6 0))]) : W p l e ({ frames := 0, cells := 0, slots := 0, locals := 0 } : Room) s m args below meth c H locs 0 0 (MQ below (va_Qv post (ck_Q G) (ck_A G s.heap.size)) args s 0 0 (ck_A G s.heap.size)) (F0 m 0 ls []) := by
  obtain ⟨hx, hb, hr, hml, hown, hts, hlocks⟩ := id X
  have inX1 : ∀ w ∈ wsX10, w ∈ wsX1_beginAnew := fun _ h => List.mem_cons_of_mem _ (List.mem_append_right _ (h))
  unfold sp_X1_beginAnew at h
  refine lv_aload_n hx hb dX1_beginAnew_0 rfl (lv_at hl 0 rfl) ?_
  refine lv_iconst (v := 1) hx hb dX1_beginAnew_1 (by decide) ?_
  refine ck_puti hx hb hts inX1 tyX1 tyX1_ok nmX1 hown hw (hC.1 6 (by decide)) rfl rfl 3 (by decide) (hts _ (List.mem_of_getElem? (i := 1) rfl)) rfl rfl rfl (Nat.le_of_ble_eq_true rfl) rfl dX1_beginAnew_2 (fun H locs hw => ?_)
  obtain ⟨σ1, eσ1⟩ : ∃ z : ck_S, z = ck_ui σ 6 0 3 1 := ⟨_, rfl⟩
  rw [← eσ1] at hw
  have h := h σ1 eσ1
  refine lv_aload_n hx hb dX1_beginAnew_5 rfl (lv_at hl 0 rfl) ?_
  refine lv_bipush (v := 32) hx hb dX1_beginAnew_6 (by decide) ?_
  refine ck_puti hx hb hts inX1 tyX1 tyX1_ok nmX1 hown hw (hC.1 6 (by decide)) rfl rfl 4 (by decide) (hts _ (List.mem_of_getElem? (i := 2) rfl)) rfl rfl rfl (Nat.le_of_ble_eq_true rfl) rfl dX1_beginAnew_8 (fun H locs hw => ?_)
  obtain ⟨σ2, eσ2⟩ : ∃ z : ck_S, z = ck_ui σ1 6 0 4 32 := ⟨_, rfl⟩
  rw [← eσ2] at hw
  have h := h σ2 eσ2
  exact ck_vret X hw h dX1_beginAnew_11
set_option maxHeartbeats 4000000 in
set_option maxRecDepth 100000 in
theorem ct_X1_beginAnew (l : Launch) (G : ck_G) (hC : ck_inC G) {σ : ck_S} {post : ck_S → Prop} (h : sp_X1_beginAnew (ck_nc G) (ck_nb G) σ post) : ck_Mv l yX1_beginAnew wsX1_beginAnew ({ frames := 0, cells := 0, slots := 0, locals := 0 } : Room) G σ [.ref (ck_ad G 6 0)] post := by
  intro sz
  refine Met.ofW (cc := cX1_beginAnew) (maxL := 1) (ret := none) (by decide) rfl ?_
  intro p e s m args below meth c s₁ B hml hv
  obtain ⟨rfl, rfl, hw⟩ := ck_enter hv
  have hl := lv_entry ([.ref (ck_ad G 6 0)]) (n := 1) (Nat.le_of_ble_eq_true rfl)
  rw [lg_entry_eq]
  generalize (lg_sl ([.ref (ck_ad G 6 0)]) ++ List.replicate (1 - (lg_sl ([.ref (ck_ad G 6 0)])).length) Slot.unset).toArray = ls at hl ⊢
  have hl : lv_has ls 1 [(0, .ref (ck_ad G 6 0))] := hl
  exact wk_X1_beginAnew_0 ⟨B.exec, B.bytes, B.returns, hml, findClass_of_methodNamed B.named, atoms_spec (ws := wsX1_beginAnew) B.pre, B.notSynchronized⟩ hC h hw hl
def sp_X1_placeOf (nc nb : Nat) (σ : ck_S) (a0 : Int32) (post : Int32 → ck_S → Prop) : Prop := sp_J9_floorMod_7cf53 nc nb σ (a0 - 1) (ck_gi σ 6 0 0) (fun x_2 σ1 => post x_2 σ1)
set_option maxHeartbeats 4000000 in
set_option maxRecDepth 100000 in
theorem wk_X1_placeOf_0 {p : Program} {l : Launch} {e : Env} {s : State} {m : MethodId} {args : Array Value} {below : List Frame} {meth : Method} {c : Code} {G : ck_G} (X : ck_X p s m meth c args cX1_placeOf 2 (some .int) RX1 wsX1_placeOf) (hC : ck_inC G) {post : Int32 → ck_S → Prop} {σ : ck_S} {a0 : Int32} {H : Heap} {locs : List Loc} {ls : Array Slot} (h : sp_X1_placeOf (ck_nc G) (ck_nb G) σ a0 post) (hw : ck_H G s H locs σ) (hl : lv_has ls 2 [(0, .ref (ck_ad G 6 0)), (1, .int a0)]) : W p l e ({ frames := 1, cells := 0, slots := 0, locals := 22 } : Room) s m args below meth c H locs 0 0 (MQ below (va_Qi post (ck_Q G) (ck_A G s.heap.size)) args s 0 0 (ck_A G s.heap.size)) (F0 m 0 ls []) := by
  obtain ⟨hx, hb, hr, hml, hown, hts, hlocks⟩ := id X
  have inX1 : ∀ w ∈ wsX10, w ∈ wsX1_placeOf := fun _ h => List.mem_cons_of_mem _ (List.mem_append_right _ (h))
  unfold sp_X1_placeOf at h
  refine lv_iload_n hx hb dX1_placeOf_0 rfl (lv_at hl 1 rfl) ?_
  refine lv_iconst (v := 1) hx hb dX1_placeOf_1 (by decide) ?_
  refine lv_isub hx hb dX1_placeOf_2 ?_
  refine lv_aload_n hx hb dX1_placeOf_3 rfl (lv_at hl 0 rfl) ?_
  refine ck_get hx hb hts inX1 hown hw (hC.1 6 (by decide)) rfl rfl 0 (by decide) (hts _ (List.mem_of_getElem? (i := 1) rfl)) rfl dX1_placeOf_4 ?_
  refine ck_callSi (rest := []) ⟨hx, hb, hml, hown, hts⟩ hw (ct_J9_floorMod_7cf53 l G h) (va_cwS 2 hts gX1_placeOf_J9_floorMod_7cf53 rfl rfl rfl (by decide +kernel) ⟨(Nat.le_of_ble_eq_true rfl), (Nat.le_of_ble_eq_true rfl)⟩) rfl hl.1 rfl (Nat.le_of_ble_eq_true rfl) dX1_placeOf_7 ⟨(Nat.le_of_ble_eq_true rfl), (Nat.le_of_ble_eq_true rfl)⟩ (fun x_2 σ1 H locs h hw => ?_)
  exact ck_iret X hw h dX1_placeOf_10
set_option maxHeartbeats 4000000 in
set_option maxRecDepth 100000 in
theorem ct_X1_placeOf (l : Launch) (G : ck_G) (hC : ck_inC G) {a0 : Int32} {σ : ck_S} {post : Int32 → ck_S → Prop} (h : sp_X1_placeOf (ck_nc G) (ck_nb G) σ a0 post) : ck_Mi l yX1_placeOf wsX1_placeOf ({ frames := 1, cells := 0, slots := 0, locals := 22 } : Room) G σ [.ref (ck_ad G 6 0), .int a0] post := by
  intro sz
  refine Met.ofW (cc := cX1_placeOf) (maxL := 2) (ret := (some .int)) (by decide) rfl ?_
  intro p e s m args below meth c s₁ B hml hv
  obtain ⟨rfl, rfl, hw⟩ := ck_enter hv
  have hl := lv_entry ([.ref (ck_ad G 6 0), .int a0]) (n := 2) (Nat.le_of_ble_eq_true rfl)
  rw [lg_entry_eq]
  generalize (lg_sl ([.ref (ck_ad G 6 0), .int a0]) ++ List.replicate (2 - (lg_sl ([.ref (ck_ad G 6 0), .int a0])).length) Slot.unset).toArray = ls at hl ⊢
  have hl : lv_has ls 2 [(0, .ref (ck_ad G 6 0)), (1, .int a0)] := hl
  exact wk_X1_placeOf_0 ⟨B.exec, B.bytes, B.returns, hml, findClass_of_methodNamed B.named, atoms_spec (ws := wsX1_placeOf) B.pre, B.notSynchronized⟩ hC h hw hl
def bd_X1_lay_3 (nc nb : Nat) (post : ck_S → Prop) (K3 : ck_S → Int32 → Int32 → Int64 → Int32 → Prop) (σ : ck_S) (x1 : Int32) (x2 : Int32) (x3 : Int64) (x5 : Int32) : Prop := ((x2 ≤ x5 → (post σ)) ∧ (¬ x2 ≤ x5 → (∀ x_2, x_2 = (x1 + x5) → (vp_in x_2 32) ∧ ∀ σ4, σ4 = ck_ui σ 8 0 (Int32.toNatClampNeg x_2) (vp_nar .byte ((((x3.toUInt64 >>> ((8 * x5).toInt64.toUInt64 &&& Int64.toUInt64 63)).toInt64).toInt32).toInt8.toInt32)) → ∀ x_5, x_5 = x5 + 1 → K3 σ4 x1 x2 x3 x_5)))
def sp_X1_lay (nc nb : Nat) (σ : ck_S) (a0 : Int32) (a1 : Int32) (a2 : Int64) (post : ck_S → Prop) : Prop := lx_5 (bd_X1_lay_3 nc nb post) σ a0 a1 a2 0
set_option maxHeartbeats 4000000 in
set_option maxRecDepth 100000 in
theorem wk_X1_lay_3 {p : Program} {l : Launch} {e : Env} {s : State} {m : MethodId} {args : Array Value} {below : List Frame} {meth : Method} {c : Code} {G : ck_G} (X : ck_X p s m meth c args cX1_lay 6 none RX1 wsX1_lay) (hC : ck_inC G) {post : ck_S → Prop} : ∀ (fu : Nat) (σ : ck_S) (x1 : Int32) (x2 : Int32) (x3 : Int64) (x5 : Int32) (H : Heap) (locs : List Loc) (ls : Array Slot), lk_5 (bd_X1_lay_3 (ck_nc G) (ck_nb G) post) fu σ x1 x2 x3 x5 → ck_H G s H locs σ → lv_has ls 6 [(0, .ref (ck_ad G 6 0)), (1, .int x1), (2, .int x2), (3, .long x3), (5, .int x5)] → W p l e ({ frames := 0, cells := 0, slots := 0, locals := 0 } : Room) s m args below meth c H locs 0 0 (MQ below (va_Qv post (ck_Q G) (ck_A G s.heap.size)) args s 0 0 (ck_A G s.heap.size)) (F0 m 3 ls []) := by
  obtain ⟨hx, hb, hr, hml, hown, hts, hlocks⟩ := id X
  have inX1 : ∀ w ∈ wsX10, w ∈ wsX1_lay := fun _ h => List.mem_cons_of_mem _ (List.mem_append_right _ (h))
  intro fu
  induction fu with
  | zero => intro σ x1 x2 x3 x5 H locs ls h hw hl; exact h.elim
  | succ fu hK3 =>
    intro σ x1 x2 x3 x5 H locs ls h hw hl
    have h : bd_X1_lay_3 (ck_nc G) (ck_nb G) post (lk_5 (bd_X1_lay_3 (ck_nc G) (ck_nb G) post) fu) σ x1 x2 x3 x5 := h
    unfold bd_X1_lay_3 at h
    refine lv_iload hx hb dX1_lay_3 (lv_at hl 4 rfl) ?_
    refine lv_iload_n hx hb dX1_lay_5 rfl (lv_at hl 2 rfl) ?_
    obtain ⟨hA, hB⟩ := h
    refine lv_icmp_ge (tgt := 33) hx hb dX1_lay_6 (by decide) (fun c1 => ?_) (fun c1 => ?_)
    · have h := hA c1
      exact ck_vret X hw h dX1_lay_33
    · have h := hB c1
      refine lv_aload_n hx hb dX1_lay_9 rfl (lv_at hl 0 rfl) ?_
      refine ck_get hx hb hts inX1 hown hw (hC.1 6 (by decide)) rfl rfl 2 (by decide) (hts _ (List.mem_of_getElem? (i := 1) rfl)) rfl dX1_lay_10 ?_
      refine lv_iload_n hx hb dX1_lay_13 rfl (lv_at hl 1 rfl) ?_
      refine lv_iload hx hb dX1_lay_14 (lv_at hl 4 rfl) ?_
      refine lv_iadd hx hb dX1_lay_16 ?_
      refine lv_topi (fun x_2 ex_2 => ?_)
      have h := h x_2 ex_2
      refine lv_lload_n hx hb dX1_lay_17 rfl (lv_at hl 3 rfl) ?_
      refine lv_bipush (v := 8) hx hb dX1_lay_18 (by decide) ?_
      refine lv_iload hx hb dX1_lay_20 (lv_at hl 4 rfl) ?_
      refine lv_imul hx hb dX1_lay_22 ?_
      refine lv_lushr hx hb dX1_lay_23 rfl ?_
      refine lv_l2i hx hb dX1_lay_24 rfl ?_
      refine lv_i2b hx hb dX1_lay_25 rfl ?_
      obtain ⟨n3, h⟩ := h
      refine ck_bast hx hb hw (hC.1 8 (by decide)) (fun _ => rfl) n3 dX1_lay_26 (fun H locs hw => ?_)
      obtain ⟨σ4, eσ4⟩ : ∃ z : ck_S, z = ck_ui σ 8 0 (Int32.toNatClampNeg x_2) (vp_nar .byte ((((x3.toUInt64 >>> ((8 * x5).toInt64.toUInt64 &&& Int64.toUInt64 63)).toInt64).toInt32).toInt8.toInt32)) := ⟨_, rfl⟩
      rw [← eσ4] at hw
      have h := h σ4 eσ4
      obtain ⟨x_5, ex_5⟩ : ∃ z : Int32, z = x5 + 1 := ⟨_, rfl⟩
      have h := h x_5 ex_5
      refine lv_iinc (v := x_5) (lv' := [(5, .int x_5), (0, .ref (ck_ad G 6 0)), (1, .int x1), (2, .int x2), (3, .long x3)]) hx hb dX1_lay_27 hl (k := 4) rfl (by rw [ex_5]; rfl) (by decide) rfl (fun ls hl => ?_)
      refine lv_goto (tgt := 3) hx hb dX1_lay_30 (by decide) ?_
      exact hK3 _ _ _ _ _ _ _ _ h hw (lv_sub hl [1, 2, 3, 4, 0] rfl)
set_option maxHeartbeats 4000000 in
set_option maxRecDepth 100000 in
theorem wk_X1_lay_0 {p : Program} {l : Launch} {e : Env} {s : State} {m : MethodId} {args : Array Value} {below : List Frame} {meth : Method} {c : Code} {G : ck_G} (X : ck_X p s m meth c args cX1_lay 6 none RX1 wsX1_lay) (hC : ck_inC G) {post : ck_S → Prop} {σ : ck_S} {a0 : Int32} {a1 : Int32} {a2 : Int64} {H : Heap} {locs : List Loc} {ls : Array Slot} (h : sp_X1_lay (ck_nc G) (ck_nb G) σ a0 a1 a2 post) (hw : ck_H G s H locs σ) (hl : lv_has ls 6 [(0, .ref (ck_ad G 6 0)), (1, .int a0), (2, .int a1), (3, .long a2)]) : W p l e ({ frames := 0, cells := 0, slots := 0, locals := 0 } : Room) s m args below meth c H locs 0 0 (MQ below (va_Qv post (ck_Q G) (ck_A G s.heap.size)) args s 0 0 (ck_A G s.heap.size)) (F0 m 0 ls []) := by
  obtain ⟨hx, hb, hr, hml, hown, hts, hlocks⟩ := id X
  have inX1 : ∀ w ∈ wsX10, w ∈ wsX1_lay := fun _ h => List.mem_cons_of_mem _ (List.mem_append_right _ (h))
  unfold sp_X1_lay at h
  refine lv_iconst (v := 0) hx hb dX1_lay_0 (by decide) ?_
  refine lv_istore (lv' := [(5, .int 0), (0, .ref (ck_ad G 6 0)), (1, .int a0), (2, .int a1), (3, .long a2)]) hx hb dX1_lay_1 hl (by decide) rfl (fun ls hl => ?_)
  obtain ⟨fu, h⟩ := h
  exact wk_X1_lay_3 X hC fu _ _ _ _ _ _ _ _ h hw (lv_sub hl [1, 2, 3, 4, 0] rfl)
set_option maxHeartbeats 4000000 in
set_option maxRecDepth 100000 in
theorem ct_X1_lay (l : Launch) (G : ck_G) (hC : ck_inC G) {a0 : Int32} {a1 : Int32} {a2 : Int64} {σ : ck_S} {post : ck_S → Prop} (h : sp_X1_lay (ck_nc G) (ck_nb G) σ a0 a1 a2 post) : ck_Mv l yX1_lay wsX1_lay ({ frames := 0, cells := 0, slots := 0, locals := 0 } : Room) G σ [.ref (ck_ad G 6 0), .int a0, .int a1, .long a2] post := by
  intro sz
  refine Met.ofW (cc := cX1_lay) (maxL := 6) (ret := none) (by decide) rfl ?_
  intro p e s m args below meth c s₁ B hml hv
  obtain ⟨rfl, rfl, hw⟩ := ck_enter hv
  have hl := lv_entry ([.ref (ck_ad G 6 0), .int a0, .int a1, .long a2]) (n := 6) (Nat.le_of_ble_eq_true rfl)
  rw [lg_entry_eq]
  generalize (lg_sl ([.ref (ck_ad G 6 0), .int a0, .int a1, .long a2]) ++ List.replicate (6 - (lg_sl ([.ref (ck_ad G 6 0), .int a0, .int a1, .long a2])).length) Slot.unset).toArray = ls at hl ⊢
  have hl : lv_has ls 6 [(0, .ref (ck_ad G 6 0)), (1, .int a0), (2, .int a1), (3, .long a2)] := hl
  exact wk_X1_lay_0 ⟨B.exec, B.bytes, B.returns, hml, findClass_of_methodNamed B.named, atoms_spec (ws := wsX1_lay) B.pre, B.notSynchronized⟩ hC h hw hl
def bd_X1_fetch_5 (nc nb : Nat) (post : Int64 → ck_S → Prop) (K5 : ck_S → Int32 → Int32 → Int64 → Int32 → Prop) (σ : ck_S) (x1 : Int32) (x2 : Int32) (x3 : Int64) (x5 : Int32) : Prop := ((x2 ≤ x5 → (post x3 σ)) ∧ (¬ x2 ≤ x5 → (∀ x_2, x_2 = (x1 + x5) → (vp_in x_2 nb) ∧ ∀ y_4, y_4 = (x3 ||| ((((ck_gi σ 7 0 (Int32.toNatClampNeg x_2)).toInt64) &&& 255) <<< ((8 * x5).toInt64 &&& 63))) → ∀ x_5, x_5 = x5 + 1 → K5 σ x1 x2 y_4 x_5)))
def sp_X1_fetch (nc nb : Nat) (σ : ck_S) (a0 : Int32) (a1 : Int32) (post : Int64 → ck_S → Prop) : Prop := lx_5 (bd_X1_fetch_5 nc nb post) σ a0 a1 0 0
set_option maxHeartbeats 4000000 in
set_option maxRecDepth 100000 in
theorem wk_X1_fetch_5 {p : Program} {l : Launch} {e : Env} {s : State} {m : MethodId} {args : Array Value} {below : List Frame} {meth : Method} {c : Code} {G : ck_G} (X : ck_X p s m meth c args cX1_fetch 6 (some .long) RX1 wsX1_fetch) (hC : ck_inC G) {post : Int64 → ck_S → Prop} : ∀ (fu : Nat) (σ : ck_S) (x1 : Int32) (x2 : Int32) (x3 : Int64) (x5 : Int32) (H : Heap) (locs : List Loc) (ls : Array Slot), lk_5 (bd_X1_fetch_5 (ck_nc G) (ck_nb G) post) fu σ x1 x2 x3 x5 → ck_H G s H locs σ → lv_has ls 6 [(0, .ref (ck_ad G 6 0)), (1, .int x1), (2, .int x2), (3, .long x3), (5, .int x5)] → W p l e ({ frames := 0, cells := 0, slots := 0, locals := 0 } : Room) s m args below meth c H locs 0 0 (MQ below (va_Ql post (ck_Q G) (ck_A G s.heap.size)) args s 0 0 (ck_A G s.heap.size)) (F0 m 5 ls []) := by
  obtain ⟨hx, hb, hr, hml, hown, hts, hlocks⟩ := id X
  have inX1 : ∀ w ∈ wsX10, w ∈ wsX1_fetch := fun _ h => List.mem_cons_of_mem _ (List.mem_append_right _ (h))
  intro fu
  induction fu with
  | zero => intro σ x1 x2 x3 x5 H locs ls h hw hl; exact h.elim
  | succ fu hK5 =>
    intro σ x1 x2 x3 x5 H locs ls h hw hl
    have h : bd_X1_fetch_5 (ck_nc G) (ck_nb G) post (lk_5 (bd_X1_fetch_5 (ck_nc G) (ck_nb G) post) fu) σ x1 x2 x3 x5 := h
    unfold bd_X1_fetch_5 at h
    refine lv_iload hx hb dX1_fetch_5 (lv_at hl 4 rfl) ?_
    refine lv_iload_n hx hb dX1_fetch_7 rfl (lv_at hl 2 rfl) ?_
    obtain ⟨hA, hB⟩ := h
    refine lv_icmp_ge (tgt := 40) hx hb dX1_fetch_8 (by decide) (fun c1 => ?_) (fun c1 => ?_)
    · have h := hA c1
      refine lv_lload_n hx hb dX1_fetch_40 rfl (lv_at hl 3 rfl) ?_
      exact ck_lret X hw h dX1_fetch_41
    · have h := hB c1
      refine lv_lload_n hx hb dX1_fetch_11 rfl (lv_at hl 3 rfl) ?_
      refine lv_aload_n hx hb dX1_fetch_12 rfl (lv_at hl 0 rfl) ?_
      refine ck_get hx hb hts inX1 hown hw (hC.1 6 (by decide)) rfl rfl 1 (by decide) (hts _ (List.mem_of_getElem? (i := 1) rfl)) rfl dX1_fetch_13 ?_
      refine lv_iload_n hx hb dX1_fetch_16 rfl (lv_at hl 1 rfl) ?_
      refine lv_iload hx hb dX1_fetch_17 (lv_at hl 4 rfl) ?_
      refine lv_iadd hx hb dX1_fetch_19 ?_
      refine lv_topi (fun x_2 ex_2 => ?_)
      have h := h x_2 ex_2
      obtain ⟨n3, h⟩ := h
      refine ck_bald hx hb hw (hC.1 7 (by decide)) rfl n3 dX1_fetch_20 ?_
      refine lv_i2l hx hb dX1_fetch_21 rfl ?_
      refine lv_ldc2 hx hb hown (hts _ (List.mem_of_getElem? (i := 2) rfl)) dX1_fetch_22 ?_
      refine lv_land hx hb dX1_fetch_25 ?_
      refine lv_bipush (v := 8) hx hb dX1_fetch_26 (by decide) ?_
      refine lv_iload hx hb dX1_fetch_28 (lv_at hl 4 rfl) ?_
      refine lv_imul hx hb dX1_fetch_30 ?_
      refine lv_lshl hx hb dX1_fetch_31 rfl ?_
      refine lv_lor hx hb dX1_fetch_32 ?_
      refine lv_topl (fun y_4 ey_4 => ?_)
      have h := h y_4 ey_4
      refine lv_lstore_n (lv' := [(3, .long y_4), (0, .ref (ck_ad G 6 0)), (1, .int x1), (2, .int x2), (5, .int x5)]) hx hb dX1_fetch_33 rfl hl (by decide) rfl (fun ls hl => ?_)
      obtain ⟨x_5, ex_5⟩ : ∃ z : Int32, z = x5 + 1 := ⟨_, rfl⟩
      have h := h x_5 ex_5
      refine lv_iinc (v := x_5) (lv' := [(5, .int x_5), (3, .long y_4), (0, .ref (ck_ad G 6 0)), (1, .int x1), (2, .int x2)]) hx hb dX1_fetch_34 hl (k := 4) rfl (by rw [ex_5]; rfl) (by decide) rfl (fun ls hl => ?_)
      refine lv_goto (tgt := 5) hx hb dX1_fetch_37 (by decide) ?_
      exact hK5 _ _ _ _ _ _ _ _ h hw (lv_sub hl [2, 3, 4, 1, 0] rfl)
set_option maxHeartbeats 4000000 in
set_option maxRecDepth 100000 in
theorem wk_X1_fetch_0 {p : Program} {l : Launch} {e : Env} {s : State} {m : MethodId} {args : Array Value} {below : List Frame} {meth : Method} {c : Code} {G : ck_G} (X : ck_X p s m meth c args cX1_fetch 6 (some .long) RX1 wsX1_fetch) (hC : ck_inC G) {post : Int64 → ck_S → Prop} {σ : ck_S} {a0 : Int32} {a1 : Int32} {H : Heap} {locs : List Loc} {ls : Array Slot} (h : sp_X1_fetch (ck_nc G) (ck_nb G) σ a0 a1 post) (hw : ck_H G s H locs σ) (hl : lv_has ls 6 [(0, .ref (ck_ad G 6 0)), (1, .int a0), (2, .int a1)]) : W p l e ({ frames := 0, cells := 0, slots := 0, locals := 0 } : Room) s m args below meth c H locs 0 0 (MQ below (va_Ql post (ck_Q G) (ck_A G s.heap.size)) args s 0 0 (ck_A G s.heap.size)) (F0 m 0 ls []) := by
  obtain ⟨hx, hb, hr, hml, hown, hts, hlocks⟩ := id X
  have inX1 : ∀ w ∈ wsX10, w ∈ wsX1_fetch := fun _ h => List.mem_cons_of_mem _ (List.mem_append_right _ (h))
  unfold sp_X1_fetch at h
  refine lv_lconst (v := 0) hx hb dX1_fetch_0 (by decide) ?_
  refine lv_lstore_n (lv' := [(3, .long 0), (0, .ref (ck_ad G 6 0)), (1, .int a0), (2, .int a1)]) hx hb dX1_fetch_1 rfl hl (by decide) rfl (fun ls hl => ?_)
  refine lv_iconst (v := 0) hx hb dX1_fetch_2 (by decide) ?_
  refine lv_istore (lv' := [(5, .int 0), (3, .long 0), (0, .ref (ck_ad G 6 0)), (1, .int a0), (2, .int a1)]) hx hb dX1_fetch_3 hl (by decide) rfl (fun ls hl => ?_)
  obtain ⟨fu, h⟩ := h
  exact wk_X1_fetch_5 X hC fu _ _ _ _ _ _ _ _ h hw (lv_sub hl [2, 3, 4, 1, 0] rfl)
set_option maxHeartbeats 4000000 in
set_option maxRecDepth 100000 in
theorem ct_X1_fetch (l : Launch) (G : ck_G) (hC : ck_inC G) {a0 : Int32} {a1 : Int32} {σ : ck_S} {post : Int64 → ck_S → Prop} (h : sp_X1_fetch (ck_nc G) (ck_nb G) σ a0 a1 post) : ck_Ml l yX1_fetch wsX1_fetch ({ frames := 0, cells := 0, slots := 0, locals := 0 } : Room) G σ [.ref (ck_ad G 6 0), .int a0, .int a1] post := by
  intro sz
  refine Met.ofW (cc := cX1_fetch) (maxL := 6) (ret := (some .long)) (by decide) rfl ?_
  intro p e s m args below meth c s₁ B hml hv
  obtain ⟨rfl, rfl, hw⟩ := ck_enter hv
  have hl := lv_entry ([.ref (ck_ad G 6 0), .int a0, .int a1]) (n := 6) (Nat.le_of_ble_eq_true rfl)
  rw [lg_entry_eq]
  generalize (lg_sl ([.ref (ck_ad G 6 0), .int a0, .int a1]) ++ List.replicate (6 - (lg_sl ([.ref (ck_ad G 6 0), .int a0, .int a1])).length) Slot.unset).toArray = ls at hl ⊢
  have hl : lv_has ls 6 [(0, .ref (ck_ad G 6 0)), (1, .int a0), (2, .int a1)] := hl
  exact wk_X1_fetch_0 ⟨B.exec, B.bytes, B.returns, hml, findClass_of_methodNamed B.named, atoms_spec (ws := wsX1_fetch) B.pre, B.notSynchronized⟩ hC h hw hl
def sp_X1_numberAt (nc nb : Nat) (σ : ck_S) (a0 : Int32) (post : Int32 → ck_S → Prop) : Prop := sp_X1_fetch nc nb σ ((a0 * 32) + 0) 4 (fun y_2 σ1 => post (y_2.toInt32) σ1)
set_option maxHeartbeats 4000000 in
set_option maxRecDepth 100000 in
theorem wk_X1_numberAt_0 {p : Program} {l : Launch} {e : Env} {s : State} {m : MethodId} {args : Array Value} {below : List Frame} {meth : Method} {c : Code} {G : ck_G} (X : ck_X p s m meth c args cX1_numberAt 2 (some .int) RX1 wsX1_numberAt) (hC : ck_inC G) {post : Int32 → ck_S → Prop} {σ : ck_S} {a0 : Int32} {H : Heap} {locs : List Loc} {ls : Array Slot} (h : sp_X1_numberAt (ck_nc G) (ck_nb G) σ a0 post) (hw : ck_H G s H locs σ) (hl : lv_has ls 2 [(0, .ref (ck_ad G 6 0)), (1, .int a0)]) : W p l e ({ frames := 1, cells := 0, slots := 0, locals := 25 } : Room) s m args below meth c H locs 0 0 (MQ below (va_Qi post (ck_Q G) (ck_A G s.heap.size)) args s 0 0 (ck_A G s.heap.size)) (F0 m 0 ls []) := by
  obtain ⟨hx, hb, hr, hml, hown, hts, hlocks⟩ := id X
  unfold sp_X1_numberAt at h
  refine lv_aload_n hx hb dX1_numberAt_0 rfl (lv_at hl 0 rfl) ?_
  refine lv_iload_n hx hb dX1_numberAt_1 rfl (lv_at hl 1 rfl) ?_
  refine lv_bipush (v := 32) hx hb dX1_numberAt_2 (by decide) ?_
  refine lv_imul hx hb dX1_numberAt_4 ?_
  refine lv_iconst (v := 0) hx hb dX1_numberAt_5 (by decide) ?_
  refine lv_iadd hx hb dX1_numberAt_6 ?_
  refine lv_iconst (v := 4) hx hb dX1_numberAt_7 (by decide) ?_
  refine ck_callVl (rest := []) ⟨hx, hb, hml, hown, hts⟩ hw (hC.1 6 (by decide)) rfl rfl (ct_X1_fetch l G hC h) (cwV 2 hts gX1_numberAt_X1_fetch rfl rfl rfl (by decide +kernel) ⟨(Nat.le_of_ble_eq_true rfl), (Nat.le_of_ble_eq_true rfl)⟩) rfl hl.1 rfl (Nat.le_of_ble_eq_true rfl) dX1_numberAt_8 ⟨(Nat.le_of_ble_eq_true rfl), (Nat.le_of_ble_eq_true rfl)⟩ (fun y_2 σ1 H locs h hw => ?_)
  refine lv_l2i hx hb dX1_numberAt_11 rfl ?_
  exact ck_iret X hw h dX1_numberAt_12
set_option maxHeartbeats 4000000 in
set_option maxRecDepth 100000 in
theorem ct_X1_numberAt (l : Launch) (G : ck_G) (hC : ck_inC G) {a0 : Int32} {σ : ck_S} {post : Int32 → ck_S → Prop} (h : sp_X1_numberAt (ck_nc G) (ck_nb G) σ a0 post) : ck_Mi l yX1_numberAt wsX1_numberAt ({ frames := 1, cells := 0, slots := 0, locals := 25 } : Room) G σ [.ref (ck_ad G 6 0), .int a0] post := by
  intro sz
  refine Met.ofW (cc := cX1_numberAt) (maxL := 2) (ret := (some .int)) (by decide) rfl ?_
  intro p e s m args below meth c s₁ B hml hv
  obtain ⟨rfl, rfl, hw⟩ := ck_enter hv
  have hl := lv_entry ([.ref (ck_ad G 6 0), .int a0]) (n := 2) (Nat.le_of_ble_eq_true rfl)
  rw [lg_entry_eq]
  generalize (lg_sl ([.ref (ck_ad G 6 0), .int a0]) ++ List.replicate (2 - (lg_sl ([.ref (ck_ad G 6 0), .int a0])).length) Slot.unset).toArray = ls at hl ⊢
  have hl : lv_has ls 2 [(0, .ref (ck_ad G 6 0)), (1, .int a0)] := hl
  exact wk_X1_numberAt_0 ⟨B.exec, B.bytes, B.returns, hml, findClass_of_methodNamed B.named, atoms_spec (ws := wsX1_numberAt) B.pre, B.notSynchronized⟩ hC h hw hl
def sp_X1_timeAt (nc nb : Nat) (σ : ck_S) (a0 : Int32) (post : Int32 → ck_S → Prop) : Prop := sp_X1_fetch nc nb σ ((a0 * 32) + 4) 4 (fun y_2 σ1 => post (y_2.toInt32) σ1)
set_option maxHeartbeats 4000000 in
set_option maxRecDepth 100000 in
theorem wk_X1_timeAt_0 {p : Program} {l : Launch} {e : Env} {s : State} {m : MethodId} {args : Array Value} {below : List Frame} {meth : Method} {c : Code} {G : ck_G} (X : ck_X p s m meth c args cX1_timeAt 2 (some .int) RX1 wsX1_timeAt) (hC : ck_inC G) {post : Int32 → ck_S → Prop} {σ : ck_S} {a0 : Int32} {H : Heap} {locs : List Loc} {ls : Array Slot} (h : sp_X1_timeAt (ck_nc G) (ck_nb G) σ a0 post) (hw : ck_H G s H locs σ) (hl : lv_has ls 2 [(0, .ref (ck_ad G 6 0)), (1, .int a0)]) : W p l e ({ frames := 1, cells := 0, slots := 0, locals := 25 } : Room) s m args below meth c H locs 0 0 (MQ below (va_Qi post (ck_Q G) (ck_A G s.heap.size)) args s 0 0 (ck_A G s.heap.size)) (F0 m 0 ls []) := by
  obtain ⟨hx, hb, hr, hml, hown, hts, hlocks⟩ := id X
  unfold sp_X1_timeAt at h
  refine lv_aload_n hx hb dX1_timeAt_0 rfl (lv_at hl 0 rfl) ?_
  refine lv_iload_n hx hb dX1_timeAt_1 rfl (lv_at hl 1 rfl) ?_
  refine lv_bipush (v := 32) hx hb dX1_timeAt_2 (by decide) ?_
  refine lv_imul hx hb dX1_timeAt_4 ?_
  refine lv_iconst (v := 4) hx hb dX1_timeAt_5 (by decide) ?_
  refine lv_iadd hx hb dX1_timeAt_6 ?_
  refine lv_iconst (v := 4) hx hb dX1_timeAt_7 (by decide) ?_
  refine ck_callVl (rest := []) ⟨hx, hb, hml, hown, hts⟩ hw (hC.1 6 (by decide)) rfl rfl (ct_X1_fetch l G hC h) (cwV 2 hts gX1_timeAt_X1_fetch rfl rfl rfl (by decide +kernel) ⟨(Nat.le_of_ble_eq_true rfl), (Nat.le_of_ble_eq_true rfl)⟩) rfl hl.1 rfl (Nat.le_of_ble_eq_true rfl) dX1_timeAt_8 ⟨(Nat.le_of_ble_eq_true rfl), (Nat.le_of_ble_eq_true rfl)⟩ (fun y_2 σ1 H locs h hw => ?_)
  refine lv_l2i hx hb dX1_timeAt_11 rfl ?_
  exact ck_iret X hw h dX1_timeAt_12
set_option maxHeartbeats 4000000 in
set_option maxRecDepth 100000 in
theorem ct_X1_timeAt (l : Launch) (G : ck_G) (hC : ck_inC G) {a0 : Int32} {σ : ck_S} {post : Int32 → ck_S → Prop} (h : sp_X1_timeAt (ck_nc G) (ck_nb G) σ a0 post) : ck_Mi l yX1_timeAt wsX1_timeAt ({ frames := 1, cells := 0, slots := 0, locals := 25 } : Room) G σ [.ref (ck_ad G 6 0), .int a0] post := by
  intro sz
  refine Met.ofW (cc := cX1_timeAt) (maxL := 2) (ret := (some .int)) (by decide) rfl ?_
  intro p e s m args below meth c s₁ B hml hv
  obtain ⟨rfl, rfl, hw⟩ := ck_enter hv
  have hl := lv_entry ([.ref (ck_ad G 6 0), .int a0]) (n := 2) (Nat.le_of_ble_eq_true rfl)
  rw [lg_entry_eq]
  generalize (lg_sl ([.ref (ck_ad G 6 0), .int a0]) ++ List.replicate (2 - (lg_sl ([.ref (ck_ad G 6 0), .int a0])).length) Slot.unset).toArray = ls at hl ⊢
  have hl : lv_has ls 2 [(0, .ref (ck_ad G 6 0)), (1, .int a0)] := hl
  exact wk_X1_timeAt_0 ⟨B.exec, B.bytes, B.returns, hml, findClass_of_methodNamed B.named, atoms_spec (ws := wsX1_timeAt) B.pre, B.notSynchronized⟩ hC h hw hl
def sp_X1_partsAt (nc nb : Nat) (σ : ck_S) (a0 : Int32) (post : Int64 → ck_S → Prop) : Prop := sp_X1_fetch nc nb σ ((a0 * 32) + 8) 8 (fun y_2 σ1 => post y_2 σ1)
set_option maxHeartbeats 4000000 in
set_option maxRecDepth 100000 in
theorem wk_X1_partsAt_0 {p : Program} {l : Launch} {e : Env} {s : State} {m : MethodId} {args : Array Value} {below : List Frame} {meth : Method} {c : Code} {G : ck_G} (X : ck_X p s m meth c args cX1_partsAt 2 (some .long) RX1 wsX1_partsAt) (hC : ck_inC G) {post : Int64 → ck_S → Prop} {σ : ck_S} {a0 : Int32} {H : Heap} {locs : List Loc} {ls : Array Slot} (h : sp_X1_partsAt (ck_nc G) (ck_nb G) σ a0 post) (hw : ck_H G s H locs σ) (hl : lv_has ls 2 [(0, .ref (ck_ad G 6 0)), (1, .int a0)]) : W p l e ({ frames := 1, cells := 0, slots := 0, locals := 25 } : Room) s m args below meth c H locs 0 0 (MQ below (va_Ql post (ck_Q G) (ck_A G s.heap.size)) args s 0 0 (ck_A G s.heap.size)) (F0 m 0 ls []) := by
  obtain ⟨hx, hb, hr, hml, hown, hts, hlocks⟩ := id X
  unfold sp_X1_partsAt at h
  refine lv_aload_n hx hb dX1_partsAt_0 rfl (lv_at hl 0 rfl) ?_
  refine lv_iload_n hx hb dX1_partsAt_1 rfl (lv_at hl 1 rfl) ?_
  refine lv_bipush (v := 32) hx hb dX1_partsAt_2 (by decide) ?_
  refine lv_imul hx hb dX1_partsAt_4 ?_
  refine lv_bipush (v := 8) hx hb dX1_partsAt_5 (by decide) ?_
  refine lv_iadd hx hb dX1_partsAt_7 ?_
  refine lv_bipush (v := 8) hx hb dX1_partsAt_8 (by decide) ?_
  refine ck_callVl (rest := []) ⟨hx, hb, hml, hown, hts⟩ hw (hC.1 6 (by decide)) rfl rfl (ct_X1_fetch l G hC h) (cwV 2 hts gX1_partsAt_X1_fetch rfl rfl rfl (by decide +kernel) ⟨(Nat.le_of_ble_eq_true rfl), (Nat.le_of_ble_eq_true rfl)⟩) rfl hl.1 rfl (Nat.le_of_ble_eq_true rfl) dX1_partsAt_10 ⟨(Nat.le_of_ble_eq_true rfl), (Nat.le_of_ble_eq_true rfl)⟩ (fun y_2 σ1 H locs h hw => ?_)
  exact ck_lret X hw h dX1_partsAt_13
set_option maxHeartbeats 4000000 in
set_option maxRecDepth 100000 in
theorem ct_X1_partsAt (l : Launch) (G : ck_G) (hC : ck_inC G) {a0 : Int32} {σ : ck_S} {post : Int64 → ck_S → Prop} (h : sp_X1_partsAt (ck_nc G) (ck_nb G) σ a0 post) : ck_Ml l yX1_partsAt wsX1_partsAt ({ frames := 1, cells := 0, slots := 0, locals := 25 } : Room) G σ [.ref (ck_ad G 6 0), .int a0] post := by
  intro sz
  refine Met.ofW (cc := cX1_partsAt) (maxL := 2) (ret := (some .long)) (by decide) rfl ?_
  intro p e s m args below meth c s₁ B hml hv
  obtain ⟨rfl, rfl, hw⟩ := ck_enter hv
  have hl := lv_entry ([.ref (ck_ad G 6 0), .int a0]) (n := 2) (Nat.le_of_ble_eq_true rfl)
  rw [lg_entry_eq]
  generalize (lg_sl ([.ref (ck_ad G 6 0), .int a0]) ++ List.replicate (2 - (lg_sl ([.ref (ck_ad G 6 0), .int a0])).length) Slot.unset).toArray = ls at hl ⊢
  have hl : lv_has ls 2 [(0, .ref (ck_ad G 6 0)), (1, .int a0)] := hl
  exact wk_X1_partsAt_0 ⟨B.exec, B.bytes, B.returns, hml, findClass_of_methodNamed B.named, atoms_spec (ws := wsX1_partsAt) B.pre, B.notSynchronized⟩ hC h hw hl
def sp_X1_faultsAt (nc nb : Nat) (σ : ck_S) (a0 : Int32) (post : Int32 → ck_S → Prop) : Prop := sp_X1_fetch nc nb σ ((a0 * 32) + 16) 2 (fun y_2 σ1 => post ((y_2.toInt32) &&& 511) σ1)
set_option maxHeartbeats 4000000 in
set_option maxRecDepth 100000 in
theorem wk_X1_faultsAt_0 {p : Program} {l : Launch} {e : Env} {s : State} {m : MethodId} {args : Array Value} {below : List Frame} {meth : Method} {c : Code} {G : ck_G} (X : ck_X p s m meth c args cX1_faultsAt 2 (some .int) RX1 wsX1_faultsAt) (hC : ck_inC G) {post : Int32 → ck_S → Prop} {σ : ck_S} {a0 : Int32} {H : Heap} {locs : List Loc} {ls : Array Slot} (h : sp_X1_faultsAt (ck_nc G) (ck_nb G) σ a0 post) (hw : ck_H G s H locs σ) (hl : lv_has ls 2 [(0, .ref (ck_ad G 6 0)), (1, .int a0)]) : W p l e ({ frames := 1, cells := 0, slots := 0, locals := 25 } : Room) s m args below meth c H locs 0 0 (MQ below (va_Qi post (ck_Q G) (ck_A G s.heap.size)) args s 0 0 (ck_A G s.heap.size)) (F0 m 0 ls []) := by
  obtain ⟨hx, hb, hr, hml, hown, hts, hlocks⟩ := id X
  unfold sp_X1_faultsAt at h
  refine lv_aload_n hx hb dX1_faultsAt_0 rfl (lv_at hl 0 rfl) ?_
  refine lv_iload_n hx hb dX1_faultsAt_1 rfl (lv_at hl 1 rfl) ?_
  refine lv_bipush (v := 32) hx hb dX1_faultsAt_2 (by decide) ?_
  refine lv_imul hx hb dX1_faultsAt_4 ?_
  refine lv_bipush (v := 16) hx hb dX1_faultsAt_5 (by decide) ?_
  refine lv_iadd hx hb dX1_faultsAt_7 ?_
  refine lv_iconst (v := 2) hx hb dX1_faultsAt_8 (by decide) ?_
  refine ck_callVl (rest := []) ⟨hx, hb, hml, hown, hts⟩ hw (hC.1 6 (by decide)) rfl rfl (ct_X1_fetch l G hC h) (cwV 2 hts gX1_faultsAt_X1_fetch rfl rfl rfl (by decide +kernel) ⟨(Nat.le_of_ble_eq_true rfl), (Nat.le_of_ble_eq_true rfl)⟩) rfl hl.1 rfl (Nat.le_of_ble_eq_true rfl) dX1_faultsAt_9 ⟨(Nat.le_of_ble_eq_true rfl), (Nat.le_of_ble_eq_true rfl)⟩ (fun y_2 σ1 H locs h hw => ?_)
  refine lv_l2i hx hb dX1_faultsAt_12 rfl ?_
  refine lv_sipush (v := 511) hx hb dX1_faultsAt_13 (by decide) ?_
  refine lv_iand hx hb dX1_faultsAt_16 ?_
  exact ck_iret X hw h dX1_faultsAt_17
set_option maxHeartbeats 4000000 in
set_option maxRecDepth 100000 in
theorem ct_X1_faultsAt (l : Launch) (G : ck_G) (hC : ck_inC G) {a0 : Int32} {σ : ck_S} {post : Int32 → ck_S → Prop} (h : sp_X1_faultsAt (ck_nc G) (ck_nb G) σ a0 post) : ck_Mi l yX1_faultsAt wsX1_faultsAt ({ frames := 1, cells := 0, slots := 0, locals := 25 } : Room) G σ [.ref (ck_ad G 6 0), .int a0] post := by
  intro sz
  refine Met.ofW (cc := cX1_faultsAt) (maxL := 2) (ret := (some .int)) (by decide) rfl ?_
  intro p e s m args below meth c s₁ B hml hv
  obtain ⟨rfl, rfl, hw⟩ := ck_enter hv
  have hl := lv_entry ([.ref (ck_ad G 6 0), .int a0]) (n := 2) (Nat.le_of_ble_eq_true rfl)
  rw [lg_entry_eq]
  generalize (lg_sl ([.ref (ck_ad G 6 0), .int a0]) ++ List.replicate (2 - (lg_sl ([.ref (ck_ad G 6 0), .int a0])).length) Slot.unset).toArray = ls at hl ⊢
  have hl : lv_has ls 2 [(0, .ref (ck_ad G 6 0)), (1, .int a0)] := hl
  exact wk_X1_faultsAt_0 ⟨B.exec, B.bytes, B.returns, hml, findClass_of_methodNamed B.named, atoms_spec (ws := wsX1_faultsAt) B.pre, B.notSynchronized⟩ hC h hw hl
def sp_X1_isGood (nc nb : Nat) (σ : ck_S) (a0 : Int32) (post : Int32 → ck_S → Prop) : Prop := ∀ x_1, x_1 = (a0 * 32) → sp_X1_numberAt nc nb σ a0 (fun x_3 σ2 => ((x_3 < 1 → ((ck_b 0 ∧ post 0 σ2))) ∧ (¬ x_3 < 1 → (((1000000000 < x_3 → ((ck_b 0 ∧ post 0 σ2))) ∧ (¬ 1000000000 < x_3 → (sp_X1_placeOf nc nb σ2 x_3 (fun x_7 σ6 => ((¬ x_7 = a0 → ((ck_b 0 ∧ post 0 σ6))) ∧ (x_7 = a0 → (sp_X1_fetch nc nb σ6 (x_1 + 30) 2 (fun y_10 σ9 => sp_X2_ofRow__7 nc nb σ9 x_1 30 (fun x_12 σ11 => ((¬ (lg_cmp y_10 (x_12.toInt64)) = 0 → ((ck_b 0 ∧ post 0 σ11))) ∧ ((lg_cmp y_10 (x_12.toInt64)) = 0 → ((ck_b 1 ∧ post 1 σ11)))))))))))))))))
set_option maxHeartbeats 4000000 in
set_option maxRecDepth 100000 in
theorem wk_X1_isGood_0 {p : Program} {l : Launch} {e : Env} {s : State} {m : MethodId} {args : Array Value} {below : List Frame} {meth : Method} {c : Code} {G : ck_G} (X : ck_X p s m meth c args cX1_isGood 4 (some .boolean) RX1 wsX1_isGood) (hC : ck_inC G) {post : Int32 → ck_S → Prop} {σ : ck_S} {a0 : Int32} {H : Heap} {locs : List Loc} {ls : Array Slot} (h : sp_X1_isGood (ck_nc G) (ck_nb G) σ a0 post) (hw : ck_H G s H locs σ) (hl : lv_has ls 4 [(0, .ref (ck_ad G 6 0)), (1, .int a0)]) : W p l e ({ frames := 2, cells := 0, slots := 0, locals := 49 } : Room) s m args below meth c H locs 0 0 (MQ below (va_Qi post (ck_Q G) (ck_A G s.heap.size)) args s 0 0 (ck_A G s.heap.size)) (F0 m 0 ls []) := by
  obtain ⟨hx, hb, hr, hml, hown, hts, hlocks⟩ := id X
  have inX1 : ∀ w ∈ wsX10, w ∈ wsX1_isGood := fun _ h => List.mem_cons_of_mem _ (List.mem_append_right _ (h))
  unfold sp_X1_isGood at h
  refine lv_iload_n hx hb dX1_isGood_0 rfl (lv_at hl 1 rfl) ?_
  refine lv_bipush (v := 32) hx hb dX1_isGood_1 (by decide) ?_
  refine lv_imul hx hb dX1_isGood_3 ?_
  refine lv_topi (fun x_1 ex_1 => ?_)
  have h := h x_1 ex_1
  refine lv_istore_n (lv' := [(2, .int x_1), (0, .ref (ck_ad G 6 0)), (1, .int a0)]) hx hb dX1_isGood_4 rfl hl (by decide) rfl (fun ls hl => ?_)
  refine lv_aload_n hx hb dX1_isGood_5 rfl (lv_at hl 1 rfl) ?_
  refine lv_iload_n hx hb dX1_isGood_6 rfl (lv_at hl 2 rfl) ?_
  refine ck_callVi (rest := []) ⟨hx, hb, hml, hown, hts⟩ hw (hC.1 6 (by decide)) rfl rfl (ct_X1_numberAt l G hC h) (cwV 1 hts gX1_isGood_X1_numberAt rfl rfl rfl (by decide +kernel) ⟨(Nat.le_of_ble_eq_true rfl), (Nat.le_of_ble_eq_true rfl)⟩) rfl hl.1 rfl (Nat.le_of_ble_eq_true rfl) dX1_isGood_7 ⟨(Nat.le_of_ble_eq_true rfl), (Nat.le_of_ble_eq_true rfl)⟩ (fun x_3 σ2 H locs h hw => ?_)
  refine lv_istore_n (lv' := [(3, .int x_3), (2, .int x_1), (0, .ref (ck_ad G 6 0)), (1, .int a0)]) hx hb dX1_isGood_10 rfl hl (by decide) rfl (fun ls hl => ?_)
  refine lv_iload_n hx hb dX1_isGood_11 rfl (lv_at hl 0 rfl) ?_
  refine lv_iconst (v := 1) hx hb dX1_isGood_12 (by decide) ?_
  obtain ⟨hA, hB⟩ := h
  refine lv_icmp_lt (tgt := 59) hx hb dX1_isGood_13 (by decide) (fun c4 => ?_) (fun c4 => ?_)
  · have h := hA c4
    refine lv_iconst (v := 0) hx hb dX1_isGood_59 (by decide) ?_
    exact ck_zret X hw h dX1_isGood_60
  · have h := hB c4
    refine lv_iload_n hx hb dX1_isGood_16 rfl (lv_at hl 0 rfl) ?_
    refine lv_ldc hx hb hown (hts _ (List.mem_of_getElem? (i := 1) rfl)) dX1_isGood_17 ?_
    obtain ⟨hA, hB⟩ := h
    refine lv_icmp_gt (tgt := 59) hx hb dX1_isGood_19 (by decide) (fun c5 => ?_) (fun c5 => ?_)
    · have h := hA c5
      refine lv_iconst (v := 0) hx hb dX1_isGood_59 (by decide) ?_
      exact ck_zret X hw h dX1_isGood_60
    · have h := hB c5
      refine lv_aload_n hx hb dX1_isGood_22 rfl (lv_at hl 2 rfl) ?_
      refine lv_iload_n hx hb dX1_isGood_23 rfl (lv_at hl 0 rfl) ?_
      refine ck_callVi (rest := []) ⟨hx, hb, hml, hown, hts⟩ hw (hC.1 6 (by decide)) rfl rfl (ct_X1_placeOf l G hC h) (cwV 1 hts gX1_isGood_X1_placeOf rfl rfl rfl (by decide +kernel) ⟨(Nat.le_of_ble_eq_true rfl), (Nat.le_of_ble_eq_true rfl)⟩) rfl hl.1 rfl (Nat.le_of_ble_eq_true rfl) dX1_isGood_24 ⟨(Nat.le_of_ble_eq_true rfl), (Nat.le_of_ble_eq_true rfl)⟩ (fun x_7 σ6 H locs h hw => ?_)
      refine lv_iload_n hx hb dX1_isGood_27 rfl (lv_at hl 3 rfl) ?_
      obtain ⟨hA, hB⟩ := h
      refine lv_icmp_ne (tgt := 59) hx hb dX1_isGood_28 (by decide) (fun c8 => ?_) (fun c8 => ?_)
      · have h := hA c8
        refine lv_iconst (v := 0) hx hb dX1_isGood_59 (by decide) ?_
        exact ck_zret X hw h dX1_isGood_60
      · have h := hB c8
        refine lv_aload_n hx hb dX1_isGood_31 rfl (lv_at hl 2 rfl) ?_
        refine lv_iload_n hx hb dX1_isGood_32 rfl (lv_at hl 1 rfl) ?_
        refine lv_bipush (v := 30) hx hb dX1_isGood_33 (by decide) ?_
        refine lv_iadd hx hb dX1_isGood_35 ?_
        refine lv_iconst (v := 2) hx hb dX1_isGood_36 (by decide) ?_
        refine ck_callVl (rest := []) ⟨hx, hb, hml, hown, hts⟩ hw (hC.1 6 (by decide)) rfl rfl (ct_X1_fetch l G hC h) (cwV 2 hts gX1_isGood_X1_fetch rfl rfl rfl (by decide +kernel) ⟨(Nat.le_of_ble_eq_true rfl), (Nat.le_of_ble_eq_true rfl)⟩) rfl hl.1 rfl (Nat.le_of_ble_eq_true rfl) dX1_isGood_37 ⟨(Nat.le_of_ble_eq_true rfl), (Nat.le_of_ble_eq_true rfl)⟩ (fun y_10 σ9 H locs h hw => ?_)
        refine lv_aload_n hx hb dX1_isGood_40 rfl (lv_at hl 2 rfl) ?_
        refine ck_get hx hb hts inX1 hown hw (hC.1 6 (by decide)) rfl rfl 1 (by decide) (hts _ (List.mem_of_getElem? (i := 2) rfl)) rfl dX1_isGood_41 ?_
        refine lv_iload_n hx hb dX1_isGood_44 rfl (lv_at hl 1 rfl) ?_
        refine lv_bipush (v := 30) hx hb dX1_isGood_45 (by decide) ?_
        refine ck_callSi (rest := [.long y_10]) ⟨hx, hb, hml, hown, hts⟩ hw (ct_X2_ofRow__7 l G hC h) (va_cwS 3 hts gX1_isGood_X2_ofRow rfl rfl rfl (by decide +kernel) ⟨(Nat.le_of_ble_eq_true rfl), (Nat.le_of_ble_eq_true rfl)⟩) rfl hl.1 rfl (Nat.le_of_ble_eq_true rfl) dX1_isGood_47 ⟨(Nat.le_of_ble_eq_true rfl), (Nat.le_of_ble_eq_true rfl)⟩ (fun x_12 σ11 H locs h hw => ?_)
        refine lv_i2l hx hb dX1_isGood_50 rfl ?_
        refine W.lcmp hx hb dX1_isGood_51 ?_
        obtain ⟨hA, hB⟩ := h
        refine lv_if_ne (tgt := 59) hx hb dX1_isGood_52 (by decide) (fun c13 => ?_) (fun c13 => ?_)
        · have h := hA c13
          refine lv_iconst (v := 0) hx hb dX1_isGood_59 (by decide) ?_
          exact ck_zret X hw h dX1_isGood_60
        · have h := hB c13
          refine lv_iconst (v := 1) hx hb dX1_isGood_55 (by decide) ?_
          refine lv_goto (tgt := 60) hx hb dX1_isGood_56 (by decide) ?_
          exact ck_zret X hw h dX1_isGood_60
set_option maxHeartbeats 4000000 in
set_option maxRecDepth 100000 in
theorem ct_X1_isGood (l : Launch) (G : ck_G) (hC : ck_inC G) {a0 : Int32} {σ : ck_S} {post : Int32 → ck_S → Prop} (h : sp_X1_isGood (ck_nc G) (ck_nb G) σ a0 post) : ck_Mi l yX1_isGood wsX1_isGood ({ frames := 2, cells := 0, slots := 0, locals := 49 } : Room) G σ [.ref (ck_ad G 6 0), .int a0] post := by
  intro sz
  refine Met.ofW (cc := cX1_isGood) (maxL := 4) (ret := (some .boolean)) (by decide) rfl ?_
  intro p e s m args below meth c s₁ B hml hv
  obtain ⟨rfl, rfl, hw⟩ := ck_enter hv
  have hl := lv_entry ([.ref (ck_ad G 6 0), .int a0]) (n := 4) (Nat.le_of_ble_eq_true rfl)
  rw [lg_entry_eq]
  generalize (lg_sl ([.ref (ck_ad G 6 0), .int a0]) ++ List.replicate (4 - (lg_sl ([.ref (ck_ad G 6 0), .int a0])).length) Slot.unset).toArray = ls at hl ⊢
  have hl : lv_has ls 4 [(0, .ref (ck_ad G 6 0)), (1, .int a0)] := hl
  exact wk_X1_isGood_0 ⟨B.exec, B.bytes, B.returns, hml, findClass_of_methodNamed B.named, atoms_spec (ws := wsX1_isGood) B.pre, B.notSynchronized⟩ hC h hw hl
def sp_X1_newestPlace_39 (nc nb : Nat) (post : Int32 → ck_S → Prop) (K4 : ck_S → Int32 → Int32 → Prop) (σ : ck_S) (x1 : Int32) (x2 : Int32) : Prop := ∀ x_1, x_1 = x2 + 1 → K4 σ x1 x_1
def sp_X1_newestPlace_37 (nc nb : Nat) (post : Int32 → ck_S → Prop) (K4 : ck_S → Int32 → Int32 → Prop) (σ : ck_S) (x2 : Int32) : Prop := sp_X1_newestPlace_39 nc nb post K4 σ x2 x2
def bd_X1_newestPlace_4 (nc nb : Nat) (post : Int32 → ck_S → Prop) (K4 : ck_S → Int32 → Int32 → Prop) (σ : ck_S) (x1 : Int32) (x2 : Int32) : Prop := (((ck_gi σ 6 0 0) ≤ x2 → (post x1 σ)) ∧ (¬ (ck_gi σ 6 0 0) ≤ x2 → (sp_X1_isGood nc nb σ x2 (fun x_3 σ2 => ((x_3 = 0 → (sp_X1_newestPlace_39 nc nb post K4 σ2 x1 x2)) ∧ (¬ x_3 = 0 → (((x1 < 0 → (sp_X1_newestPlace_37 nc nb post K4 σ2 x2)) ∧ (¬ x1 < 0 → (sp_X1_numberAt nc nb σ2 x2 (fun x_7 σ6 => sp_X1_numberAt nc nb σ6 x1 (fun x_9 σ8 => ((x_7 ≤ x_9 → (sp_X1_newestPlace_39 nc nb post K4 σ8 x1 x2)) ∧ (¬ x_7 ≤ x_9 → (sp_X1_newestPlace_37 nc nb post K4 σ8 x2)))))))))))))))
def sp_X1_newestPlace (nc nb : Nat) (σ : ck_S) (post : Int32 → ck_S → Prop) : Prop := lx_3 (bd_X1_newestPlace_4 nc nb post) σ (-1) 0
set_option maxHeartbeats 4000000 in
set_option maxRecDepth 100000 in
theorem wk_X1_newestPlace_39 {p : Program} {l : Launch} {e : Env} {s : State} {m : MethodId} {args : Array Value} {below : List Frame} {meth : Method} {c : Code} {G : ck_G} (X : ck_X p s m meth c args cX1_newestPlace 3 (some .int) RX1 wsX1_newestPlace) (hC : ck_inC G) {post : Int32 → ck_S → Prop} {K4 : ck_S → Int32 → Int32 → Prop} (hK4 : ∀ (σ : ck_S) (x1 : Int32) (x2 : Int32) (H : Heap) (locs : List Loc) (ls : Array Slot), K4 σ x1 x2 → ck_H G s H locs σ → lv_has ls 3 [(0, .ref (ck_ad G 6 0)), (1, .int x1), (2, .int x2)] → W p l e ({ frames := 3, cells := 0, slots := 0, locals := 72 } : Room) s m args below meth c H locs 0 0 (MQ below (va_Qi post (ck_Q G) (ck_A G s.heap.size)) args s 0 0 (ck_A G s.heap.size)) (F0 m 4 ls [])) {σ : ck_S} {x1 : Int32} {x2 : Int32} {H : Heap} {locs : List Loc} {ls : Array Slot} (h : sp_X1_newestPlace_39 (ck_nc G) (ck_nb G) post K4 σ x1 x2) (hw : ck_H G s H locs σ) (hl : lv_has ls 3 [(0, .ref (ck_ad G 6 0)), (1, .int x1), (2, .int x2)]) : W p l e ({ frames := 3, cells := 0, slots := 0, locals := 72 } : Room) s m args below meth c H locs 0 0 (MQ below (va_Qi post (ck_Q G) (ck_A G s.heap.size)) args s 0 0 (ck_A G s.heap.size)) (F0 m 39 ls []) := by
  obtain ⟨hx, hb, hr, hml, hown, hts, hlocks⟩ := id X
  have inX1 : ∀ w ∈ wsX10, w ∈ wsX1_newestPlace := fun _ h => List.mem_cons_of_mem _ (List.mem_append_right _ (h))
  unfold sp_X1_newestPlace_39 at h
  obtain ⟨x_1, ex_1⟩ : ∃ z : Int32, z = x2 + 1 := ⟨_, rfl⟩
  have h := h x_1 ex_1
  refine lv_iinc (v := x_1) (lv' := [(2, .int x_1), (0, .ref (ck_ad G 6 0)), (1, .int x1)]) hx hb dX1_newestPlace_39 hl (k := 2) rfl (by rw [ex_1]; rfl) (by decide) rfl (fun ls hl => ?_)
  refine lv_goto (tgt := 4) hx hb dX1_newestPlace_42 (by decide) ?_
  exact hK4 _ _ _ _ _ _ h hw (lv_sub hl [1, 2, 0] rfl)
set_option maxHeartbeats 4000000 in
set_option maxRecDepth 100000 in
theorem wk_X1_newestPlace_37 {p : Program} {l : Launch} {e : Env} {s : State} {m : MethodId} {args : Array Value} {below : List Frame} {meth : Method} {c : Code} {G : ck_G} (X : ck_X p s m meth c args cX1_newestPlace 3 (some .int) RX1 wsX1_newestPlace) (hC : ck_inC G) {post : Int32 → ck_S → Prop} {K4 : ck_S → Int32 → Int32 → Prop} (hK4 : ∀ (σ : ck_S) (x1 : Int32) (x2 : Int32) (H : Heap) (locs : List Loc) (ls : Array Slot), K4 σ x1 x2 → ck_H G s H locs σ → lv_has ls 3 [(0, .ref (ck_ad G 6 0)), (1, .int x1), (2, .int x2)] → W p l e ({ frames := 3, cells := 0, slots := 0, locals := 72 } : Room) s m args below meth c H locs 0 0 (MQ below (va_Qi post (ck_Q G) (ck_A G s.heap.size)) args s 0 0 (ck_A G s.heap.size)) (F0 m 4 ls [])) {σ : ck_S} {x2 : Int32} {H : Heap} {locs : List Loc} {ls : Array Slot} (h : sp_X1_newestPlace_37 (ck_nc G) (ck_nb G) post K4 σ x2) (hw : ck_H G s H locs σ) (hl : lv_has ls 3 [(0, .ref (ck_ad G 6 0)), (2, .int x2)]) : W p l e ({ frames := 3, cells := 0, slots := 0, locals := 72 } : Room) s m args below meth c H locs 0 0 (MQ below (va_Qi post (ck_Q G) (ck_A G s.heap.size)) args s 0 0 (ck_A G s.heap.size)) (F0 m 37 ls []) := by
  obtain ⟨hx, hb, hr, hml, hown, hts, hlocks⟩ := id X
  have inX1 : ∀ w ∈ wsX10, w ∈ wsX1_newestPlace := fun _ h => List.mem_cons_of_mem _ (List.mem_append_right _ (h))
  unfold sp_X1_newestPlace_37 at h
  refine lv_iload_n hx hb dX1_newestPlace_37 rfl (lv_at hl 1 rfl) ?_
  refine lv_istore_n (lv' := [(1, .int x2), (0, .ref (ck_ad G 6 0)), (2, .int x2)]) hx hb dX1_newestPlace_38 rfl hl (by decide) rfl (fun ls hl => ?_)
  exact wk_X1_newestPlace_39 X hC hK4 h hw (lv_sub hl [1, 0, 2] rfl)
set_option maxHeartbeats 4000000 in
set_option maxRecDepth 100000 in
theorem wk_X1_newestPlace_4 {p : Program} {l : Launch} {e : Env} {s : State} {m : MethodId} {args : Array Value} {below : List Frame} {meth : Method} {c : Code} {G : ck_G} (X : ck_X p s m meth c args cX1_newestPlace 3 (some .int) RX1 wsX1_newestPlace) (hC : ck_inC G) {post : Int32 → ck_S → Prop} : ∀ (fu : Nat) (σ : ck_S) (x1 : Int32) (x2 : Int32) (H : Heap) (locs : List Loc) (ls : Array Slot), lk_3 (bd_X1_newestPlace_4 (ck_nc G) (ck_nb G) post) fu σ x1 x2 → ck_H G s H locs σ → lv_has ls 3 [(0, .ref (ck_ad G 6 0)), (1, .int x1), (2, .int x2)] → W p l e ({ frames := 3, cells := 0, slots := 0, locals := 72 } : Room) s m args below meth c H locs 0 0 (MQ below (va_Qi post (ck_Q G) (ck_A G s.heap.size)) args s 0 0 (ck_A G s.heap.size)) (F0 m 4 ls []) := by
  obtain ⟨hx, hb, hr, hml, hown, hts, hlocks⟩ := id X
  have inX1 : ∀ w ∈ wsX10, w ∈ wsX1_newestPlace := fun _ h => List.mem_cons_of_mem _ (List.mem_append_right _ (h))
  intro fu
  induction fu with
  | zero => intro σ x1 x2 H locs ls h hw hl; exact h.elim
  | succ fu hK4 =>
    intro σ x1 x2 H locs ls h hw hl
    have h : bd_X1_newestPlace_4 (ck_nc G) (ck_nb G) post (lk_3 (bd_X1_newestPlace_4 (ck_nc G) (ck_nb G) post) fu) σ x1 x2 := h
    unfold bd_X1_newestPlace_4 at h
    refine lv_iload_n hx hb dX1_newestPlace_4 rfl (lv_at hl 2 rfl) ?_
    refine lv_aload_n hx hb dX1_newestPlace_5 rfl (lv_at hl 0 rfl) ?_
    refine ck_get hx hb hts inX1 hown hw (hC.1 6 (by decide)) rfl rfl 0 (by decide) (hts _ (List.mem_of_getElem? (i := 1) rfl)) rfl dX1_newestPlace_6 ?_
    obtain ⟨hA, hB⟩ := h
    refine lv_icmp_ge (tgt := 45) hx hb dX1_newestPlace_9 (by decide) (fun c1 => ?_) (fun c1 => ?_)
    · have h := hA c1
      refine lv_iload_n hx hb dX1_newestPlace_45 rfl (lv_at hl 1 rfl) ?_
      exact ck_iret X hw h dX1_newestPlace_46
    · have h := hB c1
      refine lv_aload_n hx hb dX1_newestPlace_12 rfl (lv_at hl 0 rfl) ?_
      refine lv_iload_n hx hb dX1_newestPlace_13 rfl (lv_at hl 2 rfl) ?_
      refine ck_callVi (rest := []) ⟨hx, hb, hml, hown, hts⟩ hw (hC.1 6 (by decide)) rfl rfl (ct_X1_isGood l G hC h) (cwV 1 hts gX1_newestPlace_X1_isGood rfl rfl rfl (by decide +kernel) ⟨(Nat.le_of_ble_eq_true rfl), (Nat.le_of_ble_eq_true rfl)⟩) rfl hl.1 rfl (Nat.le_of_ble_eq_true rfl) dX1_newestPlace_14 ⟨(Nat.le_of_ble_eq_true rfl), (Nat.le_of_ble_eq_true rfl)⟩ (fun x_3 σ2 H locs h hw => ?_)
      obtain ⟨hA, hB⟩ := h
      refine lv_if_eq (tgt := 39) hx hb dX1_newestPlace_17 (by decide) (fun c4 => ?_) (fun c4 => ?_)
      · have h := hA c4
        exact wk_X1_newestPlace_39 X hC hK4 h hw (lv_sub hl [0, 1, 2] rfl)
      · have h := hB c4
        refine lv_iload_n hx hb dX1_newestPlace_20 rfl (lv_at hl 1 rfl) ?_
        obtain ⟨hA, hB⟩ := h
        refine lv_if_lt (tgt := 37) hx hb dX1_newestPlace_21 (by decide) (fun c5 => ?_) (fun c5 => ?_)
        · have h := hA c5
          exact wk_X1_newestPlace_37 X hC hK4 h hw (lv_sub hl [0, 2] rfl)
        · have h := hB c5
          refine lv_aload_n hx hb dX1_newestPlace_24 rfl (lv_at hl 0 rfl) ?_
          refine lv_iload_n hx hb dX1_newestPlace_25 rfl (lv_at hl 2 rfl) ?_
          refine ck_callVi (rest := []) ⟨hx, hb, hml, hown, hts⟩ hw (hC.1 6 (by decide)) rfl rfl (ct_X1_numberAt l G hC h) (cwV 1 hts gX1_newestPlace_X1_numberAt rfl rfl rfl (by decide +kernel) ⟨(Nat.le_of_ble_eq_true rfl), (Nat.le_of_ble_eq_true rfl)⟩) rfl hl.1 rfl (Nat.le_of_ble_eq_true rfl) dX1_newestPlace_26 ⟨(Nat.le_of_ble_eq_true rfl), (Nat.le_of_ble_eq_true rfl)⟩ (fun x_7 σ6 H locs h hw => ?_)
          refine lv_aload_n hx hb dX1_newestPlace_29 rfl (lv_at hl 0 rfl) ?_
          refine lv_iload_n hx hb dX1_newestPlace_30 rfl (lv_at hl 1 rfl) ?_
          refine ck_callVi (rest := [.int x_7]) ⟨hx, hb, hml, hown, hts⟩ hw (hC.1 6 (by decide)) rfl rfl (ct_X1_numberAt l G hC h) (cwV 1 hts gX1_newestPlace_X1_numberAt rfl rfl rfl (by decide +kernel) ⟨(Nat.le_of_ble_eq_true rfl), (Nat.le_of_ble_eq_true rfl)⟩) rfl hl.1 rfl (Nat.le_of_ble_eq_true rfl) dX1_newestPlace_31 ⟨(Nat.le_of_ble_eq_true rfl), (Nat.le_of_ble_eq_true rfl)⟩ (fun x_9 σ8 H locs h hw => ?_)
          obtain ⟨hA, hB⟩ := h
          refine lv_icmp_le (tgt := 39) hx hb dX1_newestPlace_34 (by decide) (fun c10 => ?_) (fun c10 => ?_)
          · have h := hA c10
            exact wk_X1_newestPlace_39 X hC hK4 h hw (lv_sub hl [0, 1, 2] rfl)
          · have h := hB c10
            exact wk_X1_newestPlace_37 X hC hK4 h hw (lv_sub hl [0, 2] rfl)
set_option maxHeartbeats 4000000 in
set_option maxRecDepth 100000 in
theorem wk_X1_newestPlace_0 {p : Program} {l : Launch} {e : Env} {s : State} {m : MethodId} {args : Array Value} {below : List Frame} {meth : Method} {c : Code} {G : ck_G} (X : ck_X p s m meth c args cX1_newestPlace 3 (some .int) RX1 wsX1_newestPlace) (hC : ck_inC G) {post : Int32 → ck_S → Prop} {σ : ck_S} {H : Heap} {locs : List Loc} {ls : Array Slot} (h : sp_X1_newestPlace (ck_nc G) (ck_nb G) σ post) (hw : ck_H G s H locs σ) (hl : lv_has ls 3 [(0, .ref (ck_ad G 6 0))]) : W p l e ({ frames := 3, cells := 0, slots := 0, locals := 72 } : Room) s m args below meth c H locs 0 0 (MQ below (va_Qi post (ck_Q G) (ck_A G s.heap.size)) args s 0 0 (ck_A G s.heap.size)) (F0 m 0 ls []) := by
  obtain ⟨hx, hb, hr, hml, hown, hts, hlocks⟩ := id X
  have inX1 : ∀ w ∈ wsX10, w ∈ wsX1_newestPlace := fun _ h => List.mem_cons_of_mem _ (List.mem_append_right _ (h))
  unfold sp_X1_newestPlace at h
  refine lv_iconst (v := (-1)) hx hb dX1_newestPlace_0 (by decide) ?_
  refine lv_istore_n (lv' := [(1, .int (-1)), (0, .ref (ck_ad G 6 0))]) hx hb dX1_newestPlace_1 rfl hl (by decide) rfl (fun ls hl => ?_)
  refine lv_iconst (v := 0) hx hb dX1_newestPlace_2 (by decide) ?_
  refine lv_istore_n (lv' := [(2, .int 0), (1, .int (-1)), (0, .ref (ck_ad G 6 0))]) hx hb dX1_newestPlace_3 rfl hl (by decide) rfl (fun ls hl => ?_)
  obtain ⟨fu, h⟩ := h
  exact wk_X1_newestPlace_4 X hC fu _ _ _ _ _ _ h hw (lv_sub hl [2, 1, 0] rfl)
set_option maxHeartbeats 4000000 in
set_option maxRecDepth 100000 in
theorem ct_X1_newestPlace (l : Launch) (G : ck_G) (hC : ck_inC G) {σ : ck_S} {post : Int32 → ck_S → Prop} (h : sp_X1_newestPlace (ck_nc G) (ck_nb G) σ post) : ck_Mi l yX1_newestPlace wsX1_newestPlace ({ frames := 3, cells := 0, slots := 0, locals := 72 } : Room) G σ [.ref (ck_ad G 6 0)] post := by
  intro sz
  refine Met.ofW (cc := cX1_newestPlace) (maxL := 3) (ret := (some .int)) (by decide) rfl ?_
  intro p e s m args below meth c s₁ B hml hv
  obtain ⟨rfl, rfl, hw⟩ := ck_enter hv
  have hl := lv_entry ([.ref (ck_ad G 6 0)]) (n := 3) (Nat.le_of_ble_eq_true rfl)
  rw [lg_entry_eq]
  generalize (lg_sl ([.ref (ck_ad G 6 0)]) ++ List.replicate (3 - (lg_sl ([.ref (ck_ad G 6 0)])).length) Slot.unset).toArray = ls at hl ⊢
  have hl : lv_has ls 3 [(0, .ref (ck_ad G 6 0))] := hl
  exact wk_X1_newestPlace_0 ⟨B.exec, B.bytes, B.returns, hml, findClass_of_methodNamed B.named, atoms_spec (ws := wsX1_newestPlace) B.pre, B.notSynchronized⟩ hC h hw hl
def bd_X1_write_82 (nc nb : Nat) (post : Int32 → ck_S → Prop) (K82 : ck_S → Int32 → Int32 → Prop) (σ : ck_S) (x6 : Int32) (x7 : Int32) : Prop := (((ck_gi σ 6 0 4) ≤ x7 → (∀ σ2, σ2 = ck_ui σ 6 0 3 ((ck_gi σ 6 0 3) + 1) → ((¬ (ck_gi σ2 6 0 4) = 32 → ((ck_b 0 ∧ post 0 σ2))) ∧ ((ck_gi σ2 6 0 4) = 32 → ((ck_b 1 ∧ post 1 σ2)))))) ∧ (¬ (ck_gi σ 6 0 4) ≤ x7 → (∀ x_4, x_4 = (x6 + x7) → (vp_in x7 32) ∧ (vp_in x_4 nb) ∧ ∀ σ7, σ7 = ck_ui σ 7 0 (Int32.toNatClampNeg x_4) (vp_nar .byte (ck_gi σ 8 0 (Int32.toNatClampNeg x7))) → ∀ x_8, x_8 = x7 + 1 → K82 σ7 x6 x_8)))
def sp_X1_write (nc nb : Nat) (σ : ck_S) (a0 : Int32) (a1 : Int64) (a2 : Int32) (a3 : Int32) (post : Int32 → ck_S → Prop) : Prop := sp_X1_lay nc nb σ 0 4 ((ck_gi σ 6 0 3).toInt64) (fun σ1 => sp_X1_lay nc nb σ1 4 4 (a0.toInt64) (fun σ3 => sp_X1_lay nc nb σ3 8 8 a1 (fun σ5 => sp_X1_lay nc nb σ5 16 2 (a2.toInt64) (fun σ7 => sp_X1_lay nc nb σ7 18 2 (a3.toInt64) (fun σ9 => sp_X2_ofRow__8 nc nb σ9 0 30 (fun x_12 σ11 => sp_X1_lay nc nb σ11 30 2 (x_12.toInt64) (fun σ13 => sp_X1_placeOf nc nb σ13 (ck_gi σ13 6 0 3) (fun x_16 σ15 => ∀ x_17, x_17 = (x_16 * 32) → lx_3 (bd_X1_write_82 nc nb post) σ15 x_17 0))))))))
set_option maxHeartbeats 4000000 in
set_option maxRecDepth 100000 in
theorem wk_X1_write_82 {p : Program} {l : Launch} {e : Env} {s : State} {m : MethodId} {args : Array Value} {below : List Frame} {meth : Method} {c : Code} {G : ck_G} (X : ck_X p s m meth c args cX1_write 8 (some .boolean) RX1 wsX1_write) (hC : ck_inC G) {post : Int32 → ck_S → Prop} : ∀ (fu : Nat) (σ : ck_S) (x6 : Int32) (x7 : Int32) (H : Heap) (locs : List Loc) (ls : Array Slot), lk_3 (bd_X1_write_82 (ck_nc G) (ck_nb G) post) fu σ x6 x7 → ck_H G s H locs σ → lv_has ls 8 [(0, .ref (ck_ad G 6 0)), (6, .int x6), (7, .int x7)] → W p l e ({ frames := 2, cells := 0, slots := 0, locals := 49 } : Room) s m args below meth c H locs 0 0 (MQ below (va_Qi post (ck_Q G) (ck_A G s.heap.size)) args s 0 0 (ck_A G s.heap.size)) (F0 m 82 ls []) := by
  obtain ⟨hx, hb, hr, hml, hown, hts, hlocks⟩ := id X
  have inX1 : ∀ w ∈ wsX10, w ∈ wsX1_write := fun _ h => List.mem_cons_of_mem _ (List.mem_append_right _ (h))
  intro fu
  induction fu with
  | zero => intro σ x6 x7 H locs ls h hw hl; exact h.elim
  | succ fu hK82 =>
    intro σ x6 x7 H locs ls h hw hl
    have h : bd_X1_write_82 (ck_nc G) (ck_nb G) post (lk_3 (bd_X1_write_82 (ck_nc G) (ck_nb G) post) fu) σ x6 x7 := h
    unfold bd_X1_write_82 at h
    refine lv_iload hx hb dX1_write_82 (lv_at hl 2 rfl) ?_
    refine lv_aload_n hx hb dX1_write_84 rfl (lv_at hl 0 rfl) ?_
    refine ck_get hx hb hts inX1 hown hw (hC.1 6 (by decide)) rfl rfl 4 (by decide) (hts _ (List.mem_of_getElem? (i := 3) rfl)) rfl dX1_write_85 ?_
    obtain ⟨hA, hB⟩ := h
    refine lv_icmp_ge (tgt := 114) hx hb dX1_write_88 (by decide) (fun c1 => ?_) (fun c1 => ?_)
    · have h := hA c1
      refine lv_aload_n hx hb dX1_write_114 rfl (lv_at hl 0 rfl) ?_
      refine lv_dup hx hb dX1_write_115 rfl ?_
      refine ck_get hx hb hts inX1 hown hw (hC.1 6 (by decide)) rfl rfl 3 (by decide) (hts _ (List.mem_of_getElem? (i := 1) rfl)) rfl dX1_write_116 ?_
      refine lv_iconst (v := 1) hx hb dX1_write_119 (by decide) ?_
      refine lv_iadd hx hb dX1_write_120 ?_
      refine ck_puti hx hb hts inX1 tyX1 tyX1_ok nmX1 hown hw (hC.1 6 (by decide)) rfl rfl 3 (by decide) (hts _ (List.mem_of_getElem? (i := 1) rfl)) rfl rfl rfl (Nat.le_of_ble_eq_true rfl) rfl dX1_write_121 (fun H locs hw => ?_)
      obtain ⟨σ2, eσ2⟩ : ∃ z : ck_S, z = ck_ui σ 6 0 3 ((ck_gi σ 6 0 3) + 1) := ⟨_, rfl⟩
      rw [← eσ2] at hw
      have h := h σ2 eσ2
      refine lv_aload_n hx hb dX1_write_124 rfl (lv_at hl 0 rfl) ?_
      refine ck_get hx hb hts inX1 hown hw (hC.1 6 (by decide)) rfl rfl 4 (by decide) (hts _ (List.mem_of_getElem? (i := 3) rfl)) rfl dX1_write_125 ?_
      refine lv_bipush (v := 32) hx hb dX1_write_128 (by decide) ?_
      obtain ⟨hA, hB⟩ := h
      refine lv_icmp_ne (tgt := 137) hx hb dX1_write_130 (by decide) (fun c3 => ?_) (fun c3 => ?_)
      · have h := hA c3
        refine lv_iconst (v := 0) hx hb dX1_write_137 (by decide) ?_
        exact ck_zret X hw h dX1_write_138
      · have h := hB c3
        refine lv_iconst (v := 1) hx hb dX1_write_133 (by decide) ?_
        refine lv_goto (tgt := 138) hx hb dX1_write_134 (by decide) ?_
        exact ck_zret X hw h dX1_write_138
    · have h := hB c1
      refine lv_aload_n hx hb dX1_write_91 rfl (lv_at hl 0 rfl) ?_
      refine ck_get hx hb hts inX1 hown hw (hC.1 6 (by decide)) rfl rfl 1 (by decide) (hts _ (List.mem_of_getElem? (i := 4) rfl)) rfl dX1_write_92 ?_
      refine lv_iload hx hb dX1_write_95 (lv_at hl 1 rfl) ?_
      refine lv_iload hx hb dX1_write_97 (lv_at hl 2 rfl) ?_
      refine lv_iadd hx hb dX1_write_99 ?_
      refine lv_topi (fun x_4 ex_4 => ?_)
      have h := h x_4 ex_4
      refine lv_aload_n hx hb dX1_write_100 rfl (lv_at hl 0 rfl) ?_
      refine ck_get hx hb hts inX1 hown hw (hC.1 6 (by decide)) rfl rfl 2 (by decide) (hts _ (List.mem_of_getElem? (i := 2) rfl)) rfl dX1_write_101 ?_
      refine lv_iload hx hb dX1_write_104 (lv_at hl 2 rfl) ?_
      obtain ⟨n5, h⟩ := h
      refine ck_bald hx hb hw (hC.1 8 (by decide)) rfl n5 dX1_write_106 ?_
      obtain ⟨n6, h⟩ := h
      refine ck_bast hx hb hw (hC.1 7 (by decide)) (fun _ => rfl) n6 dX1_write_107 (fun H locs hw => ?_)
      obtain ⟨σ7, eσ7⟩ : ∃ z : ck_S, z = ck_ui σ 7 0 (Int32.toNatClampNeg x_4) (vp_nar .byte (ck_gi σ 8 0 (Int32.toNatClampNeg x7))) := ⟨_, rfl⟩
      rw [← eσ7] at hw
      have h := h σ7 eσ7
      obtain ⟨x_8, ex_8⟩ : ∃ z : Int32, z = x7 + 1 := ⟨_, rfl⟩
      have h := h x_8 ex_8
      refine lv_iinc (v := x_8) (lv' := [(7, .int x_8), (0, .ref (ck_ad G 6 0)), (6, .int x6)]) hx hb dX1_write_108 hl (k := 2) rfl (by rw [ex_8]; rfl) (by decide) rfl (fun ls hl => ?_)
      refine lv_goto (tgt := 82) hx hb dX1_write_111 (by decide) ?_
      exact hK82 _ _ _ _ _ _ h hw (lv_sub hl [1, 2, 0] rfl)
set_option maxHeartbeats 4000000 in
set_option maxRecDepth 100000 in
theorem wk_X1_write_0 {p : Program} {l : Launch} {e : Env} {s : State} {m : MethodId} {args : Array Value} {below : List Frame} {meth : Method} {c : Code} {G : ck_G} (X : ck_X p s m meth c args cX1_write 8 (some .boolean) RX1 wsX1_write) (hC : ck_inC G) {post : Int32 → ck_S → Prop} {σ : ck_S} {a0 : Int32} {a1 : Int64} {a2 : Int32} {a3 : Int32} {H : Heap} {locs : List Loc} {ls : Array Slot} (h : sp_X1_write (ck_nc G) (ck_nb G) σ a0 a1 a2 a3 post) (hw : ck_H G s H locs σ) (hl : lv_has ls 8 [(0, .ref (ck_ad G 6 0)), (1, .int a0), (2, .long a1), (4, .int a2), (5, .int a3)]) : W p l e ({ frames := 2, cells := 0, slots := 0, locals := 49 } : Room) s m args below meth c H locs 0 0 (MQ below (va_Qi post (ck_Q G) (ck_A G s.heap.size)) args s 0 0 (ck_A G s.heap.size)) (F0 m 0 ls []) := by
  obtain ⟨hx, hb, hr, hml, hown, hts, hlocks⟩ := id X
  have inX1 : ∀ w ∈ wsX10, w ∈ wsX1_write := fun _ h => List.mem_cons_of_mem _ (List.mem_append_right _ (h))
  unfold sp_X1_write at h
  refine lv_aload_n hx hb dX1_write_0 rfl (lv_at hl 0 rfl) ?_
  refine lv_iconst (v := 0) hx hb dX1_write_1 (by decide) ?_
  refine lv_iconst (v := 4) hx hb dX1_write_2 (by decide) ?_
  refine lv_aload_n hx hb dX1_write_3 rfl (lv_at hl 0 rfl) ?_
  refine ck_get hx hb hts inX1 hown hw (hC.1 6 (by decide)) rfl rfl 3 (by decide) (hts _ (List.mem_of_getElem? (i := 1) rfl)) rfl dX1_write_4 ?_
  refine lv_i2l hx hb dX1_write_7 rfl ?_
  refine ck_callVv (rest := []) ⟨hx, hb, hml, hown, hts⟩ hw (hC.1 6 (by decide)) rfl rfl (ct_X1_lay l G hC h) (cwV 3 hts gX1_write_X1_lay rfl rfl rfl (by decide +kernel) ⟨(Nat.le_of_ble_eq_true rfl), (Nat.le_of_ble_eq_true rfl)⟩) rfl hl.1 rfl (Nat.le_of_ble_eq_true rfl) dX1_write_8 ⟨(Nat.le_of_ble_eq_true rfl), (Nat.le_of_ble_eq_true rfl)⟩ (fun σ1 H locs h hw => ?_)
  refine lv_aload_n hx hb dX1_write_11 rfl (lv_at hl 0 rfl) ?_
  refine lv_iconst (v := 4) hx hb dX1_write_12 (by decide) ?_
  refine lv_iconst (v := 4) hx hb dX1_write_13 (by decide) ?_
  refine lv_iload_n hx hb dX1_write_14 rfl (lv_at hl 1 rfl) ?_
  refine lv_i2l hx hb dX1_write_15 rfl ?_
  refine ck_callVv (rest := []) ⟨hx, hb, hml, hown, hts⟩ hw (hC.1 6 (by decide)) rfl rfl (ct_X1_lay l G hC h) (cwV 3 hts gX1_write_X1_lay rfl rfl rfl (by decide +kernel) ⟨(Nat.le_of_ble_eq_true rfl), (Nat.le_of_ble_eq_true rfl)⟩) rfl hl.1 rfl (Nat.le_of_ble_eq_true rfl) dX1_write_16 ⟨(Nat.le_of_ble_eq_true rfl), (Nat.le_of_ble_eq_true rfl)⟩ (fun σ3 H locs h hw => ?_)
  refine lv_aload_n hx hb dX1_write_19 rfl (lv_at hl 0 rfl) ?_
  refine lv_bipush (v := 8) hx hb dX1_write_20 (by decide) ?_
  refine lv_bipush (v := 8) hx hb dX1_write_22 (by decide) ?_
  refine lv_lload_n hx hb dX1_write_24 rfl (lv_at hl 2 rfl) ?_
  refine ck_callVv (rest := []) ⟨hx, hb, hml, hown, hts⟩ hw (hC.1 6 (by decide)) rfl rfl (ct_X1_lay l G hC h) (cwV 3 hts gX1_write_X1_lay rfl rfl rfl (by decide +kernel) ⟨(Nat.le_of_ble_eq_true rfl), (Nat.le_of_ble_eq_true rfl)⟩) rfl hl.1 rfl (Nat.le_of_ble_eq_true rfl) dX1_write_25 ⟨(Nat.le_of_ble_eq_true rfl), (Nat.le_of_ble_eq_true rfl)⟩ (fun σ5 H locs h hw => ?_)
  refine lv_aload_n hx hb dX1_write_28 rfl (lv_at hl 0 rfl) ?_
  refine lv_bipush (v := 16) hx hb dX1_write_29 (by decide) ?_
  refine lv_iconst (v := 2) hx hb dX1_write_31 (by decide) ?_
  refine lv_iload hx hb dX1_write_32 (lv_at hl 3 rfl) ?_
  refine lv_i2l hx hb dX1_write_34 rfl ?_
  refine ck_callVv (rest := []) ⟨hx, hb, hml, hown, hts⟩ hw (hC.1 6 (by decide)) rfl rfl (ct_X1_lay l G hC h) (cwV 3 hts gX1_write_X1_lay rfl rfl rfl (by decide +kernel) ⟨(Nat.le_of_ble_eq_true rfl), (Nat.le_of_ble_eq_true rfl)⟩) rfl hl.1 rfl (Nat.le_of_ble_eq_true rfl) dX1_write_35 ⟨(Nat.le_of_ble_eq_true rfl), (Nat.le_of_ble_eq_true rfl)⟩ (fun σ7 H locs h hw => ?_)
  refine lv_aload_n hx hb dX1_write_38 rfl (lv_at hl 0 rfl) ?_
  refine lv_bipush (v := 18) hx hb dX1_write_39 (by decide) ?_
  refine lv_iconst (v := 2) hx hb dX1_write_41 (by decide) ?_
  refine lv_iload hx hb dX1_write_42 (lv_at hl 4 rfl) ?_
  refine lv_i2l hx hb dX1_write_44 rfl ?_
  refine ck_callVv (rest := []) ⟨hx, hb, hml, hown, hts⟩ hw (hC.1 6 (by decide)) rfl rfl (ct_X1_lay l G hC h) (cwV 3 hts gX1_write_X1_lay rfl rfl rfl (by decide +kernel) ⟨(Nat.le_of_ble_eq_true rfl), (Nat.le_of_ble_eq_true rfl)⟩) rfl hl.1 rfl (Nat.le_of_ble_eq_true rfl) dX1_write_45 ⟨(Nat.le_of_ble_eq_true rfl), (Nat.le_of_ble_eq_true rfl)⟩ (fun σ9 H locs h hw => ?_)
  refine lv_aload_n hx hb dX1_write_48 rfl (lv_at hl 0 rfl) ?_
  refine lv_bipush (v := 30) hx hb dX1_write_49 (by decide) ?_
  refine lv_iconst (v := 2) hx hb dX1_write_51 (by decide) ?_
  refine lv_aload_n hx hb dX1_write_52 rfl (lv_at hl 0 rfl) ?_
  refine ck_get hx hb hts inX1 hown hw (hC.1 6 (by decide)) rfl rfl 2 (by decide) (hts _ (List.mem_of_getElem? (i := 2) rfl)) rfl dX1_write_53 ?_
  refine lv_iconst (v := 0) hx hb dX1_write_56 (by decide) ?_
  refine lv_bipush (v := 30) hx hb dX1_write_57 (by decide) ?_
  refine ck_callSi (rest := [.int 2, .int 30, .ref (ck_ad G 6 0)]) ⟨hx, hb, hml, hown, hts⟩ hw (ct_X2_ofRow__8 l G hC h) (va_cwS 3 hts gX1_write_X2_ofRow rfl rfl rfl (by decide +kernel) ⟨(Nat.le_of_ble_eq_true rfl), (Nat.le_of_ble_eq_true rfl)⟩) rfl hl.1 rfl (Nat.le_of_ble_eq_true rfl) dX1_write_59 ⟨(Nat.le_of_ble_eq_true rfl), (Nat.le_of_ble_eq_true rfl)⟩ (fun x_12 σ11 H locs h hw => ?_)
  refine lv_i2l hx hb dX1_write_62 rfl ?_
  refine ck_callVv (rest := []) ⟨hx, hb, hml, hown, hts⟩ hw (hC.1 6 (by decide)) rfl rfl (ct_X1_lay l G hC h) (cwV 3 hts gX1_write_X1_lay rfl rfl rfl (by decide +kernel) ⟨(Nat.le_of_ble_eq_true rfl), (Nat.le_of_ble_eq_true rfl)⟩) rfl hl.1 rfl (Nat.le_of_ble_eq_true rfl) dX1_write_63 ⟨(Nat.le_of_ble_eq_true rfl), (Nat.le_of_ble_eq_true rfl)⟩ (fun σ13 H locs h hw => ?_)
  refine lv_aload_n hx hb dX1_write_66 rfl (lv_at hl 0 rfl) ?_
  refine lv_aload_n hx hb dX1_write_67 rfl (lv_at hl 0 rfl) ?_
  refine ck_get hx hb hts inX1 hown hw (hC.1 6 (by decide)) rfl rfl 3 (by decide) (hts _ (List.mem_of_getElem? (i := 1) rfl)) rfl dX1_write_68 ?_
  refine ck_callVi (rest := []) ⟨hx, hb, hml, hown, hts⟩ hw (hC.1 6 (by decide)) rfl rfl (ct_X1_placeOf l G hC h) (cwV 1 hts gX1_write_X1_placeOf rfl rfl rfl (by decide +kernel) ⟨(Nat.le_of_ble_eq_true rfl), (Nat.le_of_ble_eq_true rfl)⟩) rfl hl.1 rfl (Nat.le_of_ble_eq_true rfl) dX1_write_71 ⟨(Nat.le_of_ble_eq_true rfl), (Nat.le_of_ble_eq_true rfl)⟩ (fun x_16 σ15 H locs h hw => ?_)
  refine lv_bipush (v := 32) hx hb dX1_write_74 (by decide) ?_
  refine lv_imul hx hb dX1_write_76 ?_
  refine lv_topi (fun x_17 ex_17 => ?_)
  have h := h x_17 ex_17
  refine lv_istore (lv' := [(6, .int x_17), (0, .ref (ck_ad G 6 0)), (1, .int a0), (2, .long a1), (4, .int a2), (5, .int a3)]) hx hb dX1_write_77 hl (by decide) rfl (fun ls hl => ?_)
  refine lv_iconst (v := 0) hx hb dX1_write_79 (by decide) ?_
  refine lv_istore (lv' := [(7, .int 0), (6, .int x_17), (0, .ref (ck_ad G 6 0)), (1, .int a0), (2, .long a1), (4, .int a2), (5, .int a3)]) hx hb dX1_write_80 hl (by decide) rfl (fun ls hl => ?_)
  obtain ⟨fu, h⟩ := h
  exact wk_X1_write_82 X hC fu _ _ _ _ _ _ h hw (lv_sub hl [2, 1, 0] rfl)
set_option maxHeartbeats 4000000 in
set_option maxRecDepth 100000 in
theorem ct_X1_write (l : Launch) (G : ck_G) (hC : ck_inC G) {a0 : Int32} {a1 : Int64} {a2 : Int32} {a3 : Int32} {σ : ck_S} {post : Int32 → ck_S → Prop} (h : sp_X1_write (ck_nc G) (ck_nb G) σ a0 a1 a2 a3 post) : ck_Mi l yX1_write wsX1_write ({ frames := 2, cells := 0, slots := 0, locals := 49 } : Room) G σ [.ref (ck_ad G 6 0), .int a0, .long a1, .int a2, .int a3] post := by
  intro sz
  refine Met.ofW (cc := cX1_write) (maxL := 8) (ret := (some .boolean)) (by decide) rfl ?_
  intro p e s m args below meth c s₁ B hml hv
  obtain ⟨rfl, rfl, hw⟩ := ck_enter hv
  have hl := lv_entry ([.ref (ck_ad G 6 0), .int a0, .long a1, .int a2, .int a3]) (n := 8) (Nat.le_of_ble_eq_true rfl)
  rw [lg_entry_eq]
  generalize (lg_sl ([.ref (ck_ad G 6 0), .int a0, .long a1, .int a2, .int a3]) ++ List.replicate (8 - (lg_sl ([.ref (ck_ad G 6 0), .int a0, .long a1, .int a2, .int a3])).length) Slot.unset).toArray = ls at hl ⊢
  have hl : lv_has ls 8 [(0, .ref (ck_ad G 6 0)), (1, .int a0), (2, .long a1), (4, .int a2), (5, .int a3)] := hl
  exact wk_X1_write_0 ⟨B.exec, B.bytes, B.returns, hml, findClass_of_methodNamed B.named, atoms_spec (ws := wsX1_write) B.pre, B.notSynchronized⟩ hC h hw hl
