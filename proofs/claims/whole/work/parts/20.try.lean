def sp_X3_isStale (nc nb : Nat) (σ : ck_S) (i : Nat) (post : Int32 → ck_S → Prop) : Prop := (((ck_gi σ 30 i 4) = 0 → ((ck_b 1 ∧ post 1 σ))) ∧ (¬ (ck_gi σ 30 i 4) = 0 → ((((ck_gi σ 30 i 5) ≤ 10 → ((ck_b 0 ∧ post 0 σ))) ∧ (¬ (ck_gi σ 30 i 5) ≤ 10 → ((ck_b 1 ∧ post 1 σ)))))))
set_option maxHeartbeats 4000000 in
set_option maxRecDepth 100000 in
theorem wk_X3_isStale_0 {p : Program} {l : Launch} {e : Env} {s : State} {m : MethodId} {args : Array Value} {below : List Frame} {meth : Method} {c : Code} {G : ck_G} (X : ck_X p s m meth c args cX3_isStale 1 (some .boolean) RX3 wsX3_isStale) (hC : ck_inC G) {i : Nat} (hi : i < ck_nc G) {post : Int32 → ck_S → Prop} {σ : ck_S} {H : Heap} {locs : List Loc} {ls : Array Slot} (h : sp_X3_isStale (ck_nc G) (ck_nb G) σ i post) (hw : ck_H G s H locs σ) (hl : lv_has ls 1 [(0, .ref (ck_ad G 30 i))]) : W p l e ({ frames := 0, cells := 0, slots := 0, locals := 0 } : Room) s m args below meth c H locs 0 0 (MQ below (va_Qi post (ck_Q G) (ck_A G s.heap.size)) args s 0 0 (ck_A G s.heap.size)) (F0 m 0 ls []) := by
  obtain ⟨hx, hb, hr, hml, hown, hts, hlocks⟩ := id X
  have inX3 : ∀ w ∈ wsX30, w ∈ wsX3_isStale := fun _ h => List.mem_cons_of_mem _ (List.mem_append_right _ (h))
  unfold sp_X3_isStale at h
  refine lv_aload_n hx hb dX3_isStale_0 rfl (lv_at hl 0 rfl) ?_
  refine ck_get hx hb hts inX3 hown hw (hC.2 30 _ (by decide) (by decide) hi) rfl rfl 4 (by decide) (hts _ (List.mem_of_getElem? (i := 1) rfl)) rfl dX3_isStale_1 ?_
  obtain ⟨hA, hB⟩ := h
  refine lv_if_eq (tgt := 16) hx hb dX3_isStale_4 (by decide) (fun c1 => ?_) (fun c1 => ?_)
  · have h := hA c1
    refine lv_iconst (v := 1) hx hb dX3_isStale_16 (by decide) ?_
    refine lv_goto (tgt := 21) hx hb dX3_isStale_17 (by decide) ?_
    exact ck_zret X hw h dX3_isStale_21
  · have h := hB c1
    refine lv_aload_n hx hb dX3_isStale_7 rfl (lv_at hl 0 rfl) ?_
    refine ck_get hx hb hts inX3 hown hw (hC.2 30 _ (by decide) (by decide) hi) rfl rfl 5 (by decide) (hts _ (List.mem_of_getElem? (i := 2) rfl)) rfl dX3_isStale_8 ?_
    refine lv_bipush (v := 10) hx hb dX3_isStale_11 (by decide) ?_
    obtain ⟨hA, hB⟩ := h
    refine lv_icmp_le (tgt := 20) hx hb dX3_isStale_13 (by decide) (fun c2 => ?_) (fun c2 => ?_)
    · have h := hA c2
      refine lv_iconst (v := 0) hx hb dX3_isStale_20 (by decide) ?_
      exact ck_zret X hw h dX3_isStale_21
    · have h := hB c2
      refine lv_iconst (v := 1) hx hb dX3_isStale_16 (by decide) ?_
      refine lv_goto (tgt := 21) hx hb dX3_isStale_17 (by decide) ?_
      exact ck_zret X hw h dX3_isStale_21
set_option maxHeartbeats 4000000 in
set_option maxRecDepth 100000 in
theorem ct_X3_isStale (l : Launch) (G : ck_G) (hC : ck_inC G) {i : Nat} (hi : i < ck_nc G) {σ : ck_S} {post : Int32 → ck_S → Prop} (h : sp_X3_isStale (ck_nc G) (ck_nb G) σ i post) : ck_Mi l yX3_isStale wsX3_isStale ({ frames := 0, cells := 0, slots := 0, locals := 0 } : Room) G σ [.ref (ck_ad G 30 i)] post := by
  intro sz
  refine Met.ofW (cc := cX3_isStale) (maxL := 1) (ret := (some .boolean)) (by decide) rfl ?_
  intro p e s m args below meth c s₁ B hml hv
  obtain ⟨rfl, rfl, hw⟩ := ck_enter hv
  have hl := lv_entry ([.ref (ck_ad G 30 i)]) (n := 1) (Nat.le_of_ble_eq_true rfl)
  rw [lg_entry_eq]
  generalize (lg_sl ([.ref (ck_ad G 30 i)]) ++ List.replicate (1 - (lg_sl ([.ref (ck_ad G 30 i)])).length) Slot.unset).toArray = ls at hl ⊢
  have hl : lv_has ls 1 [(0, .ref (ck_ad G 30 i))] := hl
  exact wk_X3_isStale_0 ⟨B.exec, B.bytes, B.returns, hml, findClass_of_methodNamed B.named, atoms_spec (ws := wsX3_isStale) B.pre, B.notSynchronized⟩ hC hi h hw hl
def sp_X2_withByte_49 (nc nb : Nat) (post : Int32 → ck_S → Prop) (K5 : ck_S → Int32 → Int32 → Int32 → Prop) (σ : ck_S) (x1 : Int32) (x2 : Int32) (x3 : Int32) : Prop := ∀ x_1, x_1 = x3 + (-1) → K5 σ x1 x2 x_1
def sp_X2_withByte_28 (nc nb : Nat) (post : Int32 → ck_S → Prop) (K5 : ck_S → Int32 → Int32 → Int32 → Prop) (σ : ck_S) (x1 : Int32) (x2 : Int32) (x3 : Int32) (s0 : Int32) : Prop := ∀ x_1, x_1 = (x2 <<< (1 &&& 31)) &&& 32767 → ((s0 = 0 → (sp_X2_withByte_49 nc nb post K5 σ x1 x_1 x3)) ∧ (¬ s0 = 0 → (∀ x_3, x_3 = x_1 ^^^ 17817 → sp_X2_withByte_49 nc nb post K5 σ x1 x_3 x3)))
def bd_X2_withByte_5 (nc nb : Nat) (post : Int32 → ck_S → Prop) (K5 : ck_S → Int32 → Int32 → Int32 → Prop) (σ : ck_S) (x1 : Int32) (x2 : Int32) (x3 : Int32) : Prop := ((x3 < 0 → (post x2 σ)) ∧ (¬ x3 < 0 → ((((((x2.toUInt32 >>> ((14 : Int32).toUInt32 &&& Int32.toUInt32 31)).toInt32) &&& 1) = (((x1.toUInt32 >>> (x3.toUInt32 &&& Int32.toUInt32 31)).toInt32) &&& 1) → (sp_X2_withByte_28 nc nb post K5 σ x1 x2 x3 0)) ∧ (¬ (((x2.toUInt32 >>> ((14 : Int32).toUInt32 &&& Int32.toUInt32 31)).toInt32) &&& 1) = (((x1.toUInt32 >>> (x3.toUInt32 &&& Int32.toUInt32 31)).toInt32) &&& 1) → (sp_X2_withByte_28 nc nb post K5 σ x1 x2 x3 1))))))
def sp_X2_withByte (nc nb : Nat) (σ : ck_S) (a0 : Int32) (a1 : Int32) (post : Int32 → ck_S → Prop) : Prop := lx_4 (bd_X2_withByte_5 nc nb post) σ a1 a0 7
set_option maxHeartbeats 4000000 in
set_option maxRecDepth 100000 in
theorem wk_X2_withByte_49 {p : Program} {l : Launch} {e : Env} {s : State} {m : MethodId} {args : Array Value} {below : List Frame} {meth : Method} {c : Code} {G : ck_G} (X : ck_X p s m meth c args cX2_withByte 5 (some .int) RX2 wsX2_withByte) {post : Int32 → ck_S → Prop} {K5 : ck_S → Int32 → Int32 → Int32 → Prop} (hK5 : ∀ (σ : ck_S) (x1 : Int32) (x2 : Int32) (x3 : Int32) (H : Heap) (locs : List Loc) (ls : Array Slot), K5 σ x1 x2 x3 → ck_H G s H locs σ → lv_has ls 5 [(1, .int x1), (2, .int x2), (3, .int x3)] → W p l e ({ frames := 0, cells := 0, slots := 0, locals := 0 } : Room) s m args below meth c H locs 0 0 (MQ below (va_Qi post (ck_Q G) (ck_A G s.heap.size)) args s 0 0 (ck_A G s.heap.size)) (F0 m 5 ls [])) {σ : ck_S} {x1 : Int32} {x2 : Int32} {x3 : Int32} {H : Heap} {locs : List Loc} {ls : Array Slot} (h : sp_X2_withByte_49 (ck_nc G) (ck_nb G) post K5 σ x1 x2 x3) (hw : ck_H G s H locs σ) (hl : lv_has ls 5 [(1, .int x1), (2, .int x2), (3, .int x3)]) : W p l e ({ frames := 0, cells := 0, slots := 0, locals := 0 } : Room) s m args below meth c H locs 0 0 (MQ below (va_Qi post (ck_Q G) (ck_A G s.heap.size)) args s 0 0 (ck_A G s.heap.size)) (F0 m 49 ls []) := by
  obtain ⟨hx, hb, hr, hml, hown, hts, hlocks⟩ := id X
  unfold sp_X2_withByte_49 at h
  obtain ⟨x_1, ex_1⟩ : ∃ z : Int32, z = x3 + (-1) := ⟨_, rfl⟩
  have h := h x_1 ex_1
  refine lv_iinc (v := x_1) (lv' := [(3, .int x_1), (1, .int x1), (2, .int x2)]) hx hb dX2_withByte_49 hl (k := 2) rfl (by rw [ex_1]; rfl) (by decide) rfl (fun ls hl => ?_)
  refine lv_goto (tgt := 5) hx hb dX2_withByte_52 (by decide) ?_
  exact hK5 _ _ _ _ _ _ _ h hw (lv_sub hl [1, 2, 0] rfl)
set_option maxHeartbeats 4000000 in
set_option maxRecDepth 100000 in
theorem wk_X2_withByte_28 {p : Program} {l : Launch} {e : Env} {s : State} {m : MethodId} {args : Array Value} {below : List Frame} {meth : Method} {c : Code} {G : ck_G} (X : ck_X p s m meth c args cX2_withByte 5 (some .int) RX2 wsX2_withByte) {post : Int32 → ck_S → Prop} {K5 : ck_S → Int32 → Int32 → Int32 → Prop} (hK5 : ∀ (σ : ck_S) (x1 : Int32) (x2 : Int32) (x3 : Int32) (H : Heap) (locs : List Loc) (ls : Array Slot), K5 σ x1 x2 x3 → ck_H G s H locs σ → lv_has ls 5 [(1, .int x1), (2, .int x2), (3, .int x3)] → W p l e ({ frames := 0, cells := 0, slots := 0, locals := 0 } : Room) s m args below meth c H locs 0 0 (MQ below (va_Qi post (ck_Q G) (ck_A G s.heap.size)) args s 0 0 (ck_A G s.heap.size)) (F0 m 5 ls [])) {σ : ck_S} {x1 : Int32} {x2 : Int32} {x3 : Int32} {s0 : Int32} {H : Heap} {locs : List Loc} {ls : Array Slot} (h : sp_X2_withByte_28 (ck_nc G) (ck_nb G) post K5 σ x1 x2 x3 s0) (hw : ck_H G s H locs σ) (hl : lv_has ls 5 [(1, .int x1), (2, .int x2), (3, .int x3)]) : W p l e ({ frames := 0, cells := 0, slots := 0, locals := 0 } : Room) s m args below meth c H locs 0 0 (MQ below (va_Qi post (ck_Q G) (ck_A G s.heap.size)) args s 0 0 (ck_A G s.heap.size)) (F0 m 28 ls [.int s0]) := by
  obtain ⟨hx, hb, hr, hml, hown, hts, hlocks⟩ := id X
  unfold sp_X2_withByte_28 at h
  refine lv_istore (lv' := [(4, .int s0), (1, .int x1), (2, .int x2), (3, .int x3)]) hx hb dX2_withByte_28 hl (by decide) rfl (fun ls hl => ?_)
  refine lv_iload_n hx hb dX2_withByte_30 rfl (lv_at hl 2 rfl) ?_
  refine lv_iconst (v := 1) hx hb dX2_withByte_31 (by decide) ?_
  refine lv_ishl hx hb dX2_withByte_32 ?_
  refine lv_sipush (v := 32767) hx hb dX2_withByte_33 (by decide) ?_
  refine lv_iand hx hb dX2_withByte_36 ?_
  refine lv_topi (fun x_1 ex_1 => ?_)
  have h := h x_1 ex_1
  refine lv_istore_n (lv' := [(2, .int x_1), (4, .int s0), (1, .int x1), (3, .int x3)]) hx hb dX2_withByte_37 rfl hl (by decide) rfl (fun ls hl => ?_)
  refine lv_iload hx hb dX2_withByte_38 (lv_at hl 1 rfl) ?_
  obtain ⟨hA, hB⟩ := h
  refine lv_if_eq (tgt := 49) hx hb dX2_withByte_40 (by decide) (fun c2 => ?_) (fun c2 => ?_)
  · have h := hA c2
    exact wk_X2_withByte_49 X hK5 h hw (lv_sub hl [2, 0, 3] rfl)
  · have h := hB c2
    refine lv_iload_n hx hb dX2_withByte_43 rfl (lv_at hl 0 rfl) ?_
    refine lv_sipush (v := 17817) hx hb dX2_withByte_44 (by decide) ?_
    refine lv_ixor hx hb dX2_withByte_47 ?_
    refine lv_topi (fun x_3 ex_3 => ?_)
    have h := h x_3 ex_3
    refine lv_istore_n (lv' := [(2, .int x_3), (4, .int s0), (1, .int x1), (3, .int x3)]) hx hb dX2_withByte_48 rfl hl (by decide) rfl (fun ls hl => ?_)
    exact wk_X2_withByte_49 X hK5 h hw (lv_sub hl [2, 0, 3] rfl)
set_option maxHeartbeats 4000000 in
set_option maxRecDepth 100000 in
theorem wk_X2_withByte_5 {p : Program} {l : Launch} {e : Env} {s : State} {m : MethodId} {args : Array Value} {below : List Frame} {meth : Method} {c : Code} {G : ck_G} (X : ck_X p s m meth c args cX2_withByte 5 (some .int) RX2 wsX2_withByte) {post : Int32 → ck_S → Prop} : ∀ (fu : Nat) (σ : ck_S) (x1 : Int32) (x2 : Int32) (x3 : Int32) (H : Heap) (locs : List Loc) (ls : Array Slot), lk_4 (bd_X2_withByte_5 (ck_nc G) (ck_nb G) post) fu σ x1 x2 x3 → ck_H G s H locs σ → lv_has ls 5 [(1, .int x1), (2, .int x2), (3, .int x3)] → W p l e ({ frames := 0, cells := 0, slots := 0, locals := 0 } : Room) s m args below meth c H locs 0 0 (MQ below (va_Qi post (ck_Q G) (ck_A G s.heap.size)) args s 0 0 (ck_A G s.heap.size)) (F0 m 5 ls []) := by
  obtain ⟨hx, hb, hr, hml, hown, hts, hlocks⟩ := id X
  intro fu
  induction fu with
  | zero => intro σ x1 x2 x3 H locs ls h hw hl; exact h.elim
  | succ fu hK5 =>
    intro σ x1 x2 x3 H locs ls h hw hl
    have h : bd_X2_withByte_5 (ck_nc G) (ck_nb G) post (lk_4 (bd_X2_withByte_5 (ck_nc G) (ck_nb G) post) fu) σ x1 x2 x3 := h
    unfold bd_X2_withByte_5 at h
    refine lv_iload_n hx hb dX2_withByte_5 rfl (lv_at hl 2 rfl) ?_
    obtain ⟨hA, hB⟩ := h
    refine lv_if_lt (tgt := 55) hx hb dX2_withByte_6 (by decide) (fun c1 => ?_) (fun c1 => ?_)
    · have h := hA c1
      refine lv_iload_n hx hb dX2_withByte_55 rfl (lv_at hl 1 rfl) ?_
      exact ck_iret X hw h dX2_withByte_56
    · have h := hB c1
      refine lv_iload_n hx hb dX2_withByte_9 rfl (lv_at hl 1 rfl) ?_
      refine lv_bipush (v := 14) hx hb dX2_withByte_10 (by decide) ?_
      refine lv_iushr hx hb dX2_withByte_12 rfl ?_
      refine lv_iconst (v := 1) hx hb dX2_withByte_13 (by decide) ?_
      refine lv_iand hx hb dX2_withByte_14 ?_
      refine lv_iload_n hx hb dX2_withByte_15 rfl (lv_at hl 0 rfl) ?_
      refine lv_iload_n hx hb dX2_withByte_16 rfl (lv_at hl 2 rfl) ?_
      refine lv_iushr hx hb dX2_withByte_17 rfl ?_
      refine lv_iconst (v := 1) hx hb dX2_withByte_18 (by decide) ?_
      refine lv_iand hx hb dX2_withByte_19 ?_
      obtain ⟨hA, hB⟩ := h
      refine lv_icmp_eq (tgt := 27) hx hb dX2_withByte_20 (by decide) (fun c2 => ?_) (fun c2 => ?_)
      · have h := hA c2
        refine lv_iconst (v := 0) hx hb dX2_withByte_27 (by decide) ?_
        exact wk_X2_withByte_28 X hK5 h hw (lv_sub hl [0, 1, 2] rfl)
      · have h := hB c2
        refine lv_iconst (v := 1) hx hb dX2_withByte_23 (by decide) ?_
        refine lv_goto (tgt := 28) hx hb dX2_withByte_24 (by decide) ?_
        exact wk_X2_withByte_28 X hK5 h hw (lv_sub hl [0, 1, 2] rfl)
set_option maxHeartbeats 4000000 in
set_option maxRecDepth 100000 in
theorem wk_X2_withByte_0 {p : Program} {l : Launch} {e : Env} {s : State} {m : MethodId} {args : Array Value} {below : List Frame} {meth : Method} {c : Code} {G : ck_G} (X : ck_X p s m meth c args cX2_withByte 5 (some .int) RX2 wsX2_withByte) {post : Int32 → ck_S → Prop} {σ : ck_S} {a0 : Int32} {a1 : Int32} {H : Heap} {locs : List Loc} {ls : Array Slot} (h : sp_X2_withByte (ck_nc G) (ck_nb G) σ a0 a1 post) (hw : ck_H G s H locs σ) (hl : lv_has ls 5 [(0, .int a0), (1, .int a1)]) : W p l e ({ frames := 0, cells := 0, slots := 0, locals := 0 } : Room) s m args below meth c H locs 0 0 (MQ below (va_Qi post (ck_Q G) (ck_A G s.heap.size)) args s 0 0 (ck_A G s.heap.size)) (F0 m 0 ls []) := by
  obtain ⟨hx, hb, hr, hml, hown, hts, hlocks⟩ := id X
  unfold sp_X2_withByte at h
  refine lv_iload_n hx hb dX2_withByte_0 rfl (lv_at hl 0 rfl) ?_
  refine lv_istore_n (lv' := [(2, .int a0), (0, .int a0), (1, .int a1)]) hx hb dX2_withByte_1 rfl hl (by decide) rfl (fun ls hl => ?_)
  refine lv_bipush (v := 7) hx hb dX2_withByte_2 (by decide) ?_
  refine lv_istore_n (lv' := [(3, .int 7), (2, .int a0), (0, .int a0), (1, .int a1)]) hx hb dX2_withByte_4 rfl hl (by decide) rfl (fun ls hl => ?_)
  obtain ⟨fu, h⟩ := h
  exact wk_X2_withByte_5 X fu _ _ _ _ _ _ _ h hw (lv_sub hl [3, 1, 0] rfl)
set_option maxHeartbeats 4000000 in
set_option maxRecDepth 100000 in
theorem ct_X2_withByte (l : Launch) (G : ck_G) {a0 : Int32} {a1 : Int32} {σ : ck_S} {post : Int32 → ck_S → Prop} (h : sp_X2_withByte (ck_nc G) (ck_nb G) σ a0 a1 post) : ck_Mi l yX2_withByte wsX2_withByte ({ frames := 0, cells := 0, slots := 0, locals := 0 } : Room) G σ [.int a0, .int a1] post := by
  intro sz
  refine Met.ofW (cc := cX2_withByte) (maxL := 5) (ret := (some .int)) (by decide) rfl ?_
  intro p e s m args below meth c s₁ B hml hv
  obtain ⟨rfl, rfl, hw⟩ := ck_enter hv
  have hl := lv_entry ([.int a0, .int a1]) (n := 5) (Nat.le_of_ble_eq_true rfl)
  rw [lg_entry_eq]
  generalize (lg_sl ([.int a0, .int a1]) ++ List.replicate (5 - (lg_sl ([.int a0, .int a1])).length) Slot.unset).toArray = ls at hl ⊢
  have hl : lv_has ls 5 [(0, .int a0), (1, .int a1)] := hl
  exact wk_X2_withByte_0 ⟨B.exec, B.bytes, B.returns, hml, findClass_of_methodNamed B.named, atoms_spec (ws := wsX2_withByte) B.pre, B.notSynchronized⟩ h hw hl
def bd_X2_ofReply_34 (nc nb : Nat) (post : Int32 → ck_S → Prop) (K34 : ck_S → Int64 → Int32 → Int32 → Prop) (σ : ck_S) (x2 : Int64) (x4 : Int32) (x5 : Int32) : Prop := ((x5 < 16 → (post x4 σ)) ∧ (¬ x5 < 16 → (sp_X2_withByte nc nb σ x4 (((x2.toUInt64 >>> (x5.toInt64.toUInt64 &&& Int64.toUInt64 63)).toInt64).toInt32) (fun x_3 σ2 => ∀ x_4, x_4 = x5 + (-8) → K34 σ2 x2 x_3 x_4))))
def bd_X2_ofReply_7 (nc nb : Nat) (post : Int32 → ck_S → Prop) (K7 : ck_S → Int64 → Int64 → Int32 → Int32 → Prop) (σ : ck_S) (x0 : Int64) (x2 : Int64) (x4 : Int32) (x5 : Int32) : Prop := ((x5 < 0 → (lx_4 (bd_X2_ofReply_34 nc nb post) σ x2 x4 56)) ∧ (¬ x5 < 0 → (sp_X2_withByte nc nb σ x4 (((x0.toUInt64 >>> (x5.toInt64.toUInt64 &&& Int64.toUInt64 63)).toInt64).toInt32) (fun x_3 σ2 => ∀ x_4, x_4 = x5 + (-8) → K7 σ2 x0 x2 x_3 x_4))))
def sp_X2_ofReply (nc nb : Nat) (σ : ck_S) (a0 : Int64) (a1 : Int64) (post : Int32 → ck_S → Prop) : Prop := lx_5 (bd_X2_ofReply_7 nc nb post) σ a0 a1 0 56
set_option maxHeartbeats 4000000 in
set_option maxRecDepth 100000 in
theorem wk_X2_ofReply_34 {p : Program} {l : Launch} {e : Env} {s : State} {m : MethodId} {args : Array Value} {below : List Frame} {meth : Method} {c : Code} {G : ck_G} (X : ck_X p s m meth c args cX2_ofReply 6 (some .int) RX2 wsX2_ofReply) {post : Int32 → ck_S → Prop} : ∀ (fu : Nat) (σ : ck_S) (x2 : Int64) (x4 : Int32) (x5 : Int32) (H : Heap) (locs : List Loc) (ls : Array Slot), lk_4 (bd_X2_ofReply_34 (ck_nc G) (ck_nb G) post) fu σ x2 x4 x5 → ck_H G s H locs σ → lv_has ls 6 [(2, .long x2), (4, .int x4), (5, .int x5)] → W p l e ({ frames := 1, cells := 0, slots := 0, locals := 24 } : Room) s m args below meth c H locs 0 0 (MQ below (va_Qi post (ck_Q G) (ck_A G s.heap.size)) args s 0 0 (ck_A G s.heap.size)) (F0 m 34 ls []) := by
  obtain ⟨hx, hb, hr, hml, hown, hts, hlocks⟩ := id X
  intro fu
  induction fu with
  | zero => intro σ x2 x4 x5 H locs ls h hw hl; exact h.elim
  | succ fu hK34 =>
    intro σ x2 x4 x5 H locs ls h hw hl
    have h : bd_X2_ofReply_34 (ck_nc G) (ck_nb G) post (lk_4 (bd_X2_ofReply_34 (ck_nc G) (ck_nb G) post) fu) σ x2 x4 x5 := h
    unfold bd_X2_ofReply_34 at h
    refine lv_iload hx hb dX2_ofReply_34 (lv_at hl 2 rfl) ?_
    refine lv_bipush (v := 16) hx hb dX2_ofReply_36 (by decide) ?_
    obtain ⟨hA, hB⟩ := h
    refine lv_icmp_lt (tgt := 59) hx hb dX2_ofReply_38 (by decide) (fun c1 => ?_) (fun c1 => ?_)
    · have h := hA c1
      refine lv_iload hx hb dX2_ofReply_59 (lv_at hl 1 rfl) ?_
      exact ck_iret X hw h dX2_ofReply_61
    · have h := hB c1
      refine lv_iload hx hb dX2_ofReply_41 (lv_at hl 1 rfl) ?_
      refine lv_lload_n hx hb dX2_ofReply_43 rfl (lv_at hl 0 rfl) ?_
      refine lv_iload hx hb dX2_ofReply_44 (lv_at hl 2 rfl) ?_
      refine lv_lushr hx hb dX2_ofReply_46 rfl ?_
      refine lv_l2i hx hb dX2_ofReply_47 rfl ?_
      refine ck_callSi (rest := []) ⟨hx, hb, hml, hown, hts⟩ hw (ct_X2_withByte l G h) (va_cwS 2 hts gX2_ofReply_X2_withByte rfl rfl rfl (by decide +kernel) ⟨(Nat.le_of_ble_eq_true rfl), (Nat.le_of_ble_eq_true rfl)⟩) rfl hl.1 rfl (Nat.le_of_ble_eq_true rfl) dX2_ofReply_48 ⟨Nat.zero_le _, Nat.zero_le _⟩ (fun x_3 σ2 H locs h hw => ?_)
      refine lv_istore (lv' := [(4, .int x_3), (2, .long x2), (5, .int x5)]) hx hb dX2_ofReply_51 hl (by decide) rfl (fun ls hl => ?_)
      obtain ⟨x_4, ex_4⟩ : ∃ z : Int32, z = x5 + (-8) := ⟨_, rfl⟩
      have h := h x_4 ex_4
      refine lv_iinc (v := x_4) (lv' := [(5, .int x_4), (4, .int x_3), (2, .long x2)]) hx hb dX2_ofReply_53 hl (k := 2) rfl (by rw [ex_4]; rfl) (by decide) rfl (fun ls hl => ?_)
      refine lv_goto (tgt := 34) hx hb dX2_ofReply_56 (by decide) ?_
      exact hK34 _ _ _ _ _ _ _ h hw (lv_sub hl [2, 1, 0] rfl)
set_option maxHeartbeats 4000000 in
set_option maxRecDepth 100000 in
theorem wk_X2_ofReply_7 {p : Program} {l : Launch} {e : Env} {s : State} {m : MethodId} {args : Array Value} {below : List Frame} {meth : Method} {c : Code} {G : ck_G} (X : ck_X p s m meth c args cX2_ofReply 6 (some .int) RX2 wsX2_ofReply) {post : Int32 → ck_S → Prop} : ∀ (fu : Nat) (σ : ck_S) (x0 : Int64) (x2 : Int64) (x4 : Int32) (x5 : Int32) (H : Heap) (locs : List Loc) (ls : Array Slot), lk_5 (bd_X2_ofReply_7 (ck_nc G) (ck_nb G) post) fu σ x0 x2 x4 x5 → ck_H G s H locs σ → lv_has ls 6 [(0, .long x0), (2, .long x2), (4, .int x4), (5, .int x5)] → W p l e ({ frames := 1, cells := 0, slots := 0, locals := 24 } : Room) s m args below meth c H locs 0 0 (MQ below (va_Qi post (ck_Q G) (ck_A G s.heap.size)) args s 0 0 (ck_A G s.heap.size)) (F0 m 7 ls []) := by
  obtain ⟨hx, hb, hr, hml, hown, hts, hlocks⟩ := id X
  intro fu
  induction fu with
  | zero => intro σ x0 x2 x4 x5 H locs ls h hw hl; exact h.elim
  | succ fu hK7 =>
    intro σ x0 x2 x4 x5 H locs ls h hw hl
    have h : bd_X2_ofReply_7 (ck_nc G) (ck_nb G) post (lk_5 (bd_X2_ofReply_7 (ck_nc G) (ck_nb G) post) fu) σ x0 x2 x4 x5 := h
    unfold bd_X2_ofReply_7 at h
    refine lv_iload hx hb dX2_ofReply_7 (lv_at hl 3 rfl) ?_
    obtain ⟨hA, hB⟩ := h
    refine lv_if_lt (tgt := 30) hx hb dX2_ofReply_9 (by decide) (fun c1 => ?_) (fun c1 => ?_)
    · have h := hA c1
      refine lv_bipush (v := 56) hx hb dX2_ofReply_30 (by decide) ?_
      refine lv_istore (lv' := [(5, .int 56), (0, .long x0), (2, .long x2), (4, .int x4)]) hx hb dX2_ofReply_32 hl (by decide) rfl (fun ls hl => ?_)
      obtain ⟨fu, h⟩ := h
      exact wk_X2_ofReply_34 X fu _ _ _ _ _ _ _ h hw (lv_sub hl [2, 3, 0] rfl)
    · have h := hB c1
      refine lv_iload hx hb dX2_ofReply_12 (lv_at hl 2 rfl) ?_
      refine lv_lload_n hx hb dX2_ofReply_14 rfl (lv_at hl 0 rfl) ?_
      refine lv_iload hx hb dX2_ofReply_15 (lv_at hl 3 rfl) ?_
      refine lv_lushr hx hb dX2_ofReply_17 rfl ?_
      refine lv_l2i hx hb dX2_ofReply_18 rfl ?_
      refine ck_callSi (rest := []) ⟨hx, hb, hml, hown, hts⟩ hw (ct_X2_withByte l G h) (va_cwS 2 hts gX2_ofReply_X2_withByte rfl rfl rfl (by decide +kernel) ⟨(Nat.le_of_ble_eq_true rfl), (Nat.le_of_ble_eq_true rfl)⟩) rfl hl.1 rfl (Nat.le_of_ble_eq_true rfl) dX2_ofReply_19 ⟨Nat.zero_le _, Nat.zero_le _⟩ (fun x_3 σ2 H locs h hw => ?_)
      refine lv_istore (lv' := [(4, .int x_3), (0, .long x0), (2, .long x2), (5, .int x5)]) hx hb dX2_ofReply_22 hl (by decide) rfl (fun ls hl => ?_)
      obtain ⟨x_4, ex_4⟩ : ∃ z : Int32, z = x5 + (-8) := ⟨_, rfl⟩
      have h := h x_4 ex_4
      refine lv_iinc (v := x_4) (lv' := [(5, .int x_4), (4, .int x_3), (0, .long x0), (2, .long x2)]) hx hb dX2_ofReply_24 hl (k := 3) rfl (by rw [ex_4]; rfl) (by decide) rfl (fun ls hl => ?_)
      refine lv_goto (tgt := 7) hx hb dX2_ofReply_27 (by decide) ?_
      exact hK7 _ _ _ _ _ _ _ _ h hw (lv_sub hl [2, 3, 1, 0] rfl)
set_option maxHeartbeats 4000000 in
set_option maxRecDepth 100000 in
theorem wk_X2_ofReply_0 {p : Program} {l : Launch} {e : Env} {s : State} {m : MethodId} {args : Array Value} {below : List Frame} {meth : Method} {c : Code} {G : ck_G} (X : ck_X p s m meth c args cX2_ofReply 6 (some .int) RX2 wsX2_ofReply) {post : Int32 → ck_S → Prop} {σ : ck_S} {a0 : Int64} {a1 : Int64} {H : Heap} {locs : List Loc} {ls : Array Slot} (h : sp_X2_ofReply (ck_nc G) (ck_nb G) σ a0 a1 post) (hw : ck_H G s H locs σ) (hl : lv_has ls 6 [(0, .long a0), (2, .long a1)]) : W p l e ({ frames := 1, cells := 0, slots := 0, locals := 24 } : Room) s m args below meth c H locs 0 0 (MQ below (va_Qi post (ck_Q G) (ck_A G s.heap.size)) args s 0 0 (ck_A G s.heap.size)) (F0 m 0 ls []) := by
  obtain ⟨hx, hb, hr, hml, hown, hts, hlocks⟩ := id X
  unfold sp_X2_ofReply at h
  refine lv_iconst (v := 0) hx hb dX2_ofReply_0 (by decide) ?_
  refine lv_istore (lv' := [(4, .int 0), (0, .long a0), (2, .long a1)]) hx hb dX2_ofReply_1 hl (by decide) rfl (fun ls hl => ?_)
  refine lv_bipush (v := 56) hx hb dX2_ofReply_3 (by decide) ?_
  refine lv_istore (lv' := [(5, .int 56), (4, .int 0), (0, .long a0), (2, .long a1)]) hx hb dX2_ofReply_5 hl (by decide) rfl (fun ls hl => ?_)
  obtain ⟨fu, h⟩ := h
  exact wk_X2_ofReply_7 X fu _ _ _ _ _ _ _ _ h hw (lv_sub hl [2, 3, 1, 0] rfl)
set_option maxHeartbeats 4000000 in
set_option maxRecDepth 100000 in
theorem ct_X2_ofReply (l : Launch) (G : ck_G) {a0 : Int64} {a1 : Int64} {σ : ck_S} {post : Int32 → ck_S → Prop} (h : sp_X2_ofReply (ck_nc G) (ck_nb G) σ a0 a1 post) : ck_Mi l yX2_ofReply wsX2_ofReply ({ frames := 1, cells := 0, slots := 0, locals := 24 } : Room) G σ [.long a0, .long a1] post := by
  intro sz
  refine Met.ofW (cc := cX2_ofReply) (maxL := 6) (ret := (some .int)) (by decide) rfl ?_
  intro p e s m args below meth c s₁ B hml hv
  obtain ⟨rfl, rfl, hw⟩ := ck_enter hv
  have hl := lv_entry ([.long a0, .long a1]) (n := 6) (Nat.le_of_ble_eq_true rfl)
  rw [lg_entry_eq]
  generalize (lg_sl ([.long a0, .long a1]) ++ List.replicate (6 - (lg_sl ([.long a0, .long a1])).length) Slot.unset).toArray = ls at hl ⊢
  have hl : lv_has ls 6 [(0, .long a0), (2, .long a1)] := hl
  exact wk_X2_ofReply_0 ⟨B.exec, B.bytes, B.returns, hml, findClass_of_methodNamed B.named, atoms_spec (ws := wsX2_ofReply) B.pre, B.notSynchronized⟩ h hw hl
def sp_X0_isLatched (nc nb : Nat) (σ : ck_S) (a0 : Int32) (post : Int32 → ck_S → Prop) : Prop := ((((((ck_gi σ 3 0 2).toUInt32 >>> (a0.toUInt32 &&& Int32.toUInt32 31)).toInt32) &&& 1) = 0 → ((ck_b 0 ∧ post 0 σ))) ∧ (¬ ((((ck_gi σ 3 0 2).toUInt32 >>> (a0.toUInt32 &&& Int32.toUInt32 31)).toInt32) &&& 1) = 0 → ((ck_b 1 ∧ post 1 σ))))
set_option maxHeartbeats 4000000 in
set_option maxRecDepth 100000 in
theorem wk_X0_isLatched_0 {p : Program} {l : Launch} {e : Env} {s : State} {m : MethodId} {args : Array Value} {below : List Frame} {meth : Method} {c : Code} {G : ck_G} (X : ck_X p s m meth c args cX0_isLatched 2 (some .boolean) RX0 wsX0_isLatched) (hC : ck_inC G) {post : Int32 → ck_S → Prop} {σ : ck_S} {a0 : Int32} {H : Heap} {locs : List Loc} {ls : Array Slot} (h : sp_X0_isLatched (ck_nc G) (ck_nb G) σ a0 post) (hw : ck_H G s H locs σ) (hl : lv_has ls 2 [(0, .ref (ck_ad G 3 0)), (1, .int a0)]) : W p l e ({ frames := 0, cells := 0, slots := 0, locals := 0 } : Room) s m args below meth c H locs 0 0 (MQ below (va_Qi post (ck_Q G) (ck_A G s.heap.size)) args s 0 0 (ck_A G s.heap.size)) (F0 m 0 ls []) := by
  obtain ⟨hx, hb, hr, hml, hown, hts, hlocks⟩ := id X
  have inX0 : ∀ w ∈ wsX00, w ∈ wsX0_isLatched := fun _ h => List.mem_cons_of_mem _ (List.mem_append_right _ (h))
  unfold sp_X0_isLatched at h
  refine lv_aload_n hx hb dX0_isLatched_0 rfl (lv_at hl 0 rfl) ?_
  refine ck_get hx hb hts inX0 hown hw (hC.1 3 (by decide)) rfl rfl 2 (by decide) (hts _ (List.mem_of_getElem? (i := 1) rfl)) rfl dX0_isLatched_1 ?_
  refine lv_iload_n hx hb dX0_isLatched_4 rfl (lv_at hl 1 rfl) ?_
  refine lv_iushr hx hb dX0_isLatched_5 rfl ?_
  refine lv_iconst (v := 1) hx hb dX0_isLatched_6 (by decide) ?_
  refine lv_iand hx hb dX0_isLatched_7 ?_
  obtain ⟨hA, hB⟩ := h
  refine lv_if_eq (tgt := 15) hx hb dX0_isLatched_8 (by decide) (fun c1 => ?_) (fun c1 => ?_)
  · have h := hA c1
    refine lv_iconst (v := 0) hx hb dX0_isLatched_15 (by decide) ?_
    exact ck_zret X hw h dX0_isLatched_16
  · have h := hB c1
    refine lv_iconst (v := 1) hx hb dX0_isLatched_11 (by decide) ?_
    refine lv_goto (tgt := 16) hx hb dX0_isLatched_12 (by decide) ?_
    exact ck_zret X hw h dX0_isLatched_16
set_option maxHeartbeats 4000000 in
set_option maxRecDepth 100000 in
theorem ct_X0_isLatched (l : Launch) (G : ck_G) (hC : ck_inC G) {a0 : Int32} {σ : ck_S} {post : Int32 → ck_S → Prop} (h : sp_X0_isLatched (ck_nc G) (ck_nb G) σ a0 post) : ck_Mi l yX0_isLatched wsX0_isLatched ({ frames := 0, cells := 0, slots := 0, locals := 0 } : Room) G σ [.ref (ck_ad G 3 0), .int a0] post := by
  intro sz
  refine Met.ofW (cc := cX0_isLatched) (maxL := 2) (ret := (some .boolean)) (by decide) rfl ?_
  intro p e s m args below meth c s₁ B hml hv
  obtain ⟨rfl, rfl, hw⟩ := ck_enter hv
  have hl := lv_entry ([.ref (ck_ad G 3 0), .int a0]) (n := 2) (Nat.le_of_ble_eq_true rfl)
  rw [lg_entry_eq]
  generalize (lg_sl ([.ref (ck_ad G 3 0), .int a0]) ++ List.replicate (2 - (lg_sl ([.ref (ck_ad G 3 0), .int a0])).length) Slot.unset).toArray = ls at hl ⊢
  have hl : lv_has ls 2 [(0, .ref (ck_ad G 3 0)), (1, .int a0)] := hl
  exact wk_X0_isLatched_0 ⟨B.exec, B.bytes, B.returns, hml, findClass_of_methodNamed B.named, atoms_spec (ws := wsX0_isLatched) B.pre, B.notSynchronized⟩ hC h hw hl
