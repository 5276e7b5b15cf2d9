def sp_X7_floor (nc nb : Nat) (σ : ck_S) (a0 : Int64) (a1 : Int64) (post : Int64 → ck_S → Prop) : Prop := (¬ a1 = 0) ∧ ∀ y_2, y_2 = (a0 / a1) → (¬ a1 = 0) ∧ (((lg_cmp (a0 - a0 / a1 * a1) (0 : Int64)) = 0 → (post y_2 σ)) ∧ (¬ (lg_cmp (a0 - a0 / a1 * a1) (0 : Int64)) = 0 → (((0 ≤ (lg_cmp a0 (0 : Int64)) → (post y_2 σ)) ∧ (¬ 0 ≤ (lg_cmp a0 (0 : Int64)) → (post (y_2 - 1) σ))))))
set_option maxHeartbeats 4000000 in
set_option maxRecDepth 100000 in
theorem wk_X7_floor_0 {p : Program} {l : Launch} {e : Env} {s : State} {m : MethodId} {args : Array Value} {below : List Frame} {meth : Method} {c : Code} {G : ck_G} (X : ck_X p s m meth c args cX7_floor 6 (some .long) RX7 wsX7_floor) {post : Int64 → ck_S → Prop} {σ : ck_S} {a0 : Int64} {a1 : Int64} {H : Heap} {locs : List Loc} {ls : Array Slot} (h : sp_X7_floor (ck_nc G) (ck_nb G) σ a0 a1 post) (hw : ck_H G s H locs σ) (hl : lv_has ls 6 [(0, .long a0), (2, .long a1)]) : W p l e ({ frames := 0, cells := 0, slots := 0, locals := 0 } : Room) s m args below meth c H locs 0 0 (MQ below (va_Ql post (ck_Q G) (ck_A G s.heap.size)) args s 0 0 (ck_A G s.heap.size)) (F0 m 0 ls []) := by
  obtain ⟨hx, hb, hr, hml, hown, hts, hlocks⟩ := id X
  unfold sp_X7_floor at h
  refine lv_lload_n hx hb dX7_floor_0 rfl (lv_at hl 0 rfl) ?_
  refine lv_lload_n hx hb dX7_floor_1 rfl (lv_at hl 1 rfl) ?_
  obtain ⟨n1, h⟩ := h
  refine lv_ldiv hx hb dX7_floor_2 n1 ?_
  refine lv_topl (fun y_2 ey_2 => ?_)
  have h := h y_2 ey_2
  refine lv_lstore (lv' := [(4, .long y_2), (0, .long a0), (2, .long a1)]) hx hb dX7_floor_3 hl (by decide) rfl (fun ls hl => ?_)
  refine lv_lload_n hx hb dX7_floor_5 rfl (lv_at hl 1 rfl) ?_
  refine lv_lload_n hx hb dX7_floor_6 rfl (lv_at hl 2 rfl) ?_
  obtain ⟨n3, h⟩ := h
  refine lv_lrem hx hb dX7_floor_7 n3 ?_
  refine lv_lconst (v := 0) hx hb dX7_floor_8 (by decide) ?_
  refine W.lcmp hx hb dX7_floor_9 ?_
  obtain ⟨hA, hB⟩ := h
  refine lv_if_eq (tgt := 26) hx hb dX7_floor_10 (by decide) (fun c4 => ?_) (fun c4 => ?_)
  · have h := hA c4
    refine lv_lload hx hb dX7_floor_26 (lv_at hl 0 rfl) ?_
    exact ck_lret X hw h dX7_floor_28
  · have h := hB c4
    refine lv_lload_n hx hb dX7_floor_13 rfl (lv_at hl 1 rfl) ?_
    refine lv_lconst (v := 0) hx hb dX7_floor_14 (by decide) ?_
    refine W.lcmp hx hb dX7_floor_15 ?_
    obtain ⟨hA, hB⟩ := h
    refine lv_if_ge (tgt := 26) hx hb dX7_floor_16 (by decide) (fun c5 => ?_) (fun c5 => ?_)
    · have h := hA c5
      refine lv_lload hx hb dX7_floor_26 (lv_at hl 0 rfl) ?_
      exact ck_lret X hw h dX7_floor_28
    · have h := hB c5
      refine lv_lload hx hb dX7_floor_19 (lv_at hl 0 rfl) ?_
      refine lv_lconst (v := 1) hx hb dX7_floor_21 (by decide) ?_
      refine lv_lsub hx hb dX7_floor_22 ?_
      refine lv_goto (tgt := 28) hx hb dX7_floor_23 (by decide) ?_
      exact ck_lret X hw h dX7_floor_28
set_option maxHeartbeats 4000000 in
set_option maxRecDepth 100000 in
theorem ct_X7_floor (l : Launch) (G : ck_G) {a0 : Int64} {a1 : Int64} {σ : ck_S} {post : Int64 → ck_S → Prop} (h : sp_X7_floor (ck_nc G) (ck_nb G) σ a0 a1 post) : ck_Ml l yX7_floor wsX7_floor ({ frames := 0, cells := 0, slots := 0, locals := 0 } : Room) G σ [.long a0, .long a1] post := by
  intro sz
  refine Met.ofW (cc := cX7_floor) (maxL := 6) (ret := (some .long)) (by decide) rfl ?_
  intro p e s m args below meth c s₁ B hml hv
  obtain ⟨rfl, rfl, hw⟩ := ck_enter hv
  have hl := lv_entry ([.long a0, .long a1]) (n := 6) (Nat.le_of_ble_eq_true rfl)
  rw [lg_entry_eq]
  generalize (lg_sl ([.long a0, .long a1]) ++ List.replicate (6 - (lg_sl ([.long a0, .long a1])).length) Slot.unset).toArray = ls at hl ⊢
  have hl : lv_has ls 6 [(0, .long a0), (2, .long a1)] := hl
  exact wk_X7_floor_0 ⟨B.exec, B.bytes, B.returns, hml, findClass_of_methodNamed B.named, atoms_spec (ws := wsX7_floor) B.pre, B.notSynchronized⟩ h hw hl
def sp_X7_hottest_38 (nc nb : Nat) (post : Int64 → ck_S → Prop) (K9 : ck_S → Int64 → Int32 → Prop) (σ : ck_S) (x3 : Int32) (s0 : Int64) : Prop := ∀ x_1, x_1 = x3 + 1 → K9 σ s0 x_1
def bd_X7_hottest_9 (nc nb : Nat) (post : Int64 → ck_S → Prop) (K9 : ck_S → Int64 → Int32 → Prop) (σ : ck_S) (x1 : Int64) (x3 : Int32) : Prop := (((ck_gi σ 10 0 1) ≤ x3 → (post x1 σ)) ∧ (¬ (ck_gi σ 10 0 1) ≤ x3 → ((vp_in x3 4) ∧ (((lg_cmp (ck_gj σ 13 0 (Int32.toNatClampNeg x3)) x1) ≤ 0 → (sp_X7_hottest_38 nc nb post K9 σ x3 x1)) ∧ (¬ (lg_cmp (ck_gj σ 13 0 (Int32.toNatClampNeg x3)) x1) ≤ 0 → ((vp_in x3 4) ∧ sp_X7_hottest_38 nc nb post K9 σ x3 (ck_gj σ 13 0 (Int32.toNatClampNeg x3))))))))
def sp_X7_hottest (nc nb : Nat) (σ : ck_S) (post : Int64 → ck_S → Prop) : Prop := (vp_in 0 4) ∧ ∀ y_2, y_2 = (ck_gj σ 13 0 (Int32.toNatClampNeg 0)) → lx_3 (bd_X7_hottest_9 nc nb post) σ y_2 1
set_option maxHeartbeats 4000000 in
set_option maxRecDepth 100000 in
theorem wk_X7_hottest_38 {p : Program} {l : Launch} {e : Env} {s : State} {m : MethodId} {args : Array Value} {below : List Frame} {meth : Method} {c : Code} {G : ck_G} (X : ck_X p s m meth c args cX7_hottest 4 (some .long) RX7 wsX7_hottest) (hM : ck_inM G) {post : Int64 → ck_S → Prop} {K9 : ck_S → Int64 → Int32 → Prop} (hK9 : ∀ (σ : ck_S) (x1 : Int64) (x3 : Int32) (H : Heap) (locs : List Loc) (ls : Array Slot), K9 σ x1 x3 → ck_H G s H locs σ → lv_has ls 4 [(0, .ref (ck_ad G 10 0)), (1, .long x1), (3, .int x3)] → W p l e ({ frames := 0, cells := 0, slots := 0, locals := 0 } : Room) s m args below meth c H locs 0 0 (MQ below (va_Ql post (ck_Q G) (ck_A G s.heap.size)) args s 0 0 (ck_A G s.heap.size)) (F0 m 9 ls [])) {σ : ck_S} {x3 : Int32} {s0 : Int64} {H : Heap} {locs : List Loc} {ls : Array Slot} (h : sp_X7_hottest_38 (ck_nc G) (ck_nb G) post K9 σ x3 s0) (hw : ck_H G s H locs σ) (hl : lv_has ls 4 [(0, .ref (ck_ad G 10 0)), (3, .int x3)]) : W p l e ({ frames := 0, cells := 0, slots := 0, locals := 0 } : Room) s m args below meth c H locs 0 0 (MQ below (va_Ql post (ck_Q G) (ck_A G s.heap.size)) args s 0 0 (ck_A G s.heap.size)) (F0 m 38 ls [.long s0]) := by
  obtain ⟨hx, hb, hr, hml, hown, hts, hlocks⟩ := id X
  have inX7 : ∀ w ∈ wsX70, w ∈ wsX7_hottest := fun _ h => List.mem_cons_of_mem _ (List.mem_append_right _ (h))
  unfold sp_X7_hottest_38 at h
  refine lv_lstore_n (lv' := [(1, .long s0), (0, .ref (ck_ad G 10 0)), (3, .int x3)]) hx hb dX7_hottest_38 rfl hl (by decide) rfl (fun ls hl => ?_)
  obtain ⟨x_1, ex_1⟩ : ∃ z : Int32, z = x3 + 1 := ⟨_, rfl⟩
  have h := h x_1 ex_1
  refine lv_iinc (v := x_1) (lv' := [(3, .int x_1), (1, .long s0), (0, .ref (ck_ad G 10 0))]) hx hb dX7_hottest_39 hl (k := 2) rfl (by rw [ex_1]; rfl) (by decide) rfl (fun ls hl => ?_)
  refine lv_goto (tgt := 9) hx hb dX7_hottest_42 (by decide) ?_
  exact hK9 _ _ _ _ _ _ h hw (lv_sub hl [2, 1, 0] rfl)
set_option maxHeartbeats 4000000 in
set_option maxRecDepth 100000 in
theorem wk_X7_hottest_9 {p : Program} {l : Launch} {e : Env} {s : State} {m : MethodId} {args : Array Value} {below : List Frame} {meth : Method} {c : Code} {G : ck_G} (X : ck_X p s m meth c args cX7_hottest 4 (some .long) RX7 wsX7_hottest) (hM : ck_inM G) {post : Int64 → ck_S → Prop} : ∀ (fu : Nat) (σ : ck_S) (x1 : Int64) (x3 : Int32) (H : Heap) (locs : List Loc) (ls : Array Slot), lk_3 (bd_X7_hottest_9 (ck_nc G) (ck_nb G) post) fu σ x1 x3 → ck_H G s H locs σ → lv_has ls 4 [(0, .ref (ck_ad G 10 0)), (1, .long x1), (3, .int x3)] → W p l e ({ frames := 0, cells := 0, slots := 0, locals := 0 } : Room) s m args below meth c H locs 0 0 (MQ below (va_Ql post (ck_Q G) (ck_A G s.heap.size)) args s 0 0 (ck_A G s.heap.size)) (F0 m 9 ls []) := by
  obtain ⟨hx, hb, hr, hml, hown, hts, hlocks⟩ := id X
  have inX7 : ∀ w ∈ wsX70, w ∈ wsX7_hottest := fun _ h => List.mem_cons_of_mem _ (List.mem_append_right _ (h))
  intro fu
  induction fu with
  | zero => intro σ x1 x3 H locs ls h hw hl; exact h.elim
  | succ fu hK9 =>
    intro σ x1 x3 H locs ls h hw hl
    have h : bd_X7_hottest_9 (ck_nc G) (ck_nb G) post (lk_3 (bd_X7_hottest_9 (ck_nc G) (ck_nb G) post) fu) σ x1 x3 := h
    unfold bd_X7_hottest_9 at h
    refine lv_iload_n hx hb dX7_hottest_9 rfl (lv_at hl 2 rfl) ?_
    refine lv_aload_n hx hb dX7_hottest_10 rfl (lv_at hl 0 rfl) ?_
    refine ck_get hx hb hts inX7 hown hw (hM 10 (by decide) (by decide)) rfl rfl 1 (by decide) (hts _ (List.mem_of_getElem? (i := 2) rfl)) rfl dX7_hottest_11 ?_
    obtain ⟨hA, hB⟩ := h
    refine lv_icmp_ge (tgt := 45) hx hb dX7_hottest_14 (by decide) (fun c1 => ?_) (fun c1 => ?_)
    · have h := hA c1
      refine lv_lload_n hx hb dX7_hottest_45 rfl (lv_at hl 1 rfl) ?_
      exact ck_lret X hw h dX7_hottest_46
    · have h := hB c1
      refine lv_aload_n hx hb dX7_hottest_17 rfl (lv_at hl 0 rfl) ?_
      refine ck_get hx hb hts inX7 hown hw (hM 10 (by decide) (by decide)) rfl rfl 14 (by decide) (hts _ (List.mem_of_getElem? (i := 1) rfl)) rfl dX7_hottest_18 ?_
      refine lv_iload_n hx hb dX7_hottest_21 rfl (lv_at hl 2 rfl) ?_
      obtain ⟨n2, h⟩ := h
      refine ck_lald hx hb hw (hM 13 (by decide) (by decide)) rfl n2 dX7_hottest_22 ?_
      refine lv_lload_n hx hb dX7_hottest_23 rfl (lv_at hl 1 rfl) ?_
      refine W.lcmp hx hb dX7_hottest_24 ?_
      obtain ⟨hA, hB⟩ := h
      refine lv_if_le (tgt := 37) hx hb dX7_hottest_25 (by decide) (fun c3 => ?_) (fun c3 => ?_)
      · have h := hA c3
        refine lv_lload_n hx hb dX7_hottest_37 rfl (lv_at hl 1 rfl) ?_
        exact wk_X7_hottest_38 X hM hK9 h hw (lv_sub hl [0, 2] rfl)
      · have h := hB c3
        refine lv_aload_n hx hb dX7_hottest_28 rfl (lv_at hl 0 rfl) ?_
        refine ck_get hx hb hts inX7 hown hw (hM 10 (by decide) (by decide)) rfl rfl 14 (by decide) (hts _ (List.mem_of_getElem? (i := 1) rfl)) rfl dX7_hottest_29 ?_
        refine lv_iload_n hx hb dX7_hottest_32 rfl (lv_at hl 2 rfl) ?_
        obtain ⟨n4, h⟩ := h
        refine ck_lald hx hb hw (hM 13 (by decide) (by decide)) rfl n4 dX7_hottest_33 ?_
        refine lv_goto (tgt := 38) hx hb dX7_hottest_34 (by decide) ?_
        exact wk_X7_hottest_38 X hM hK9 h hw (lv_sub hl [0, 2] rfl)
set_option maxHeartbeats 4000000 in
set_option maxRecDepth 100000 in
theorem wk_X7_hottest_0 {p : Program} {l : Launch} {e : Env} {s : State} {m : MethodId} {args : Array Value} {below : List Frame} {meth : Method} {c : Code} {G : ck_G} (X : ck_X p s m meth c args cX7_hottest 4 (some .long) RX7 wsX7_hottest) (hM : ck_inM G) {post : Int64 → ck_S → Prop} {σ : ck_S} {H : Heap} {locs : List Loc} {ls : Array Slot} (h : sp_X7_hottest (ck_nc G) (ck_nb G) σ post) (hw : ck_H G s H locs σ) (hl : lv_has ls 4 [(0, .ref (ck_ad G 10 0))]) : W p l e ({ frames := 0, cells := 0, slots := 0, locals := 0 } : Room) s m args below meth c H locs 0 0 (MQ below (va_Ql post (ck_Q G) (ck_A G s.heap.size)) args s 0 0 (ck_A G s.heap.size)) (F0 m 0 ls []) := by
  obtain ⟨hx, hb, hr, hml, hown, hts, hlocks⟩ := id X
  have inX7 : ∀ w ∈ wsX70, w ∈ wsX7_hottest := fun _ h => List.mem_cons_of_mem _ (List.mem_append_right _ (h))
  unfold sp_X7_hottest at h
  refine lv_aload_n hx hb dX7_hottest_0 rfl (lv_at hl 0 rfl) ?_
  refine ck_get hx hb hts inX7 hown hw (hM 10 (by decide) (by decide)) rfl rfl 14 (by decide) (hts _ (List.mem_of_getElem? (i := 1) rfl)) rfl dX7_hottest_1 ?_
  refine lv_iconst (v := 0) hx hb dX7_hottest_4 (by decide) ?_
  obtain ⟨n1, h⟩ := h
  refine ck_lald hx hb hw (hM 13 (by decide) (by decide)) rfl n1 dX7_hottest_5 ?_
  refine lv_topl (fun y_2 ey_2 => ?_)
  have h := h y_2 ey_2
  refine lv_lstore_n (lv' := [(1, .long y_2), (0, .ref (ck_ad G 10 0))]) hx hb dX7_hottest_6 rfl hl (by decide) rfl (fun ls hl => ?_)
  refine lv_iconst (v := 1) hx hb dX7_hottest_7 (by decide) ?_
  refine lv_istore_n (lv' := [(3, .int 1), (1, .long y_2), (0, .ref (ck_ad G 10 0))]) hx hb dX7_hottest_8 rfl hl (by decide) rfl (fun ls hl => ?_)
  obtain ⟨fu, h⟩ := h
  exact wk_X7_hottest_9 X hM fu _ _ _ _ _ _ h hw (lv_sub hl [2, 1, 0] rfl)
set_option maxHeartbeats 4000000 in
set_option maxRecDepth 100000 in
theorem ct_X7_hottest (l : Launch) (G : ck_G) (hM : ck_inM G) {σ : ck_S} {post : Int64 → ck_S → Prop} (h : sp_X7_hottest (ck_nc G) (ck_nb G) σ post) : ck_Ml l yX7_hottest wsX7_hottest ({ frames := 0, cells := 0, slots := 0, locals := 0 } : Room) G σ [.ref (ck_ad G 10 0)] post := by
  intro sz
  refine Met.ofW (cc := cX7_hottest) (maxL := 4) (ret := (some .long)) (by decide) rfl ?_
  intro p e s m args below meth c s₁ B hml hv
  obtain ⟨rfl, rfl, hw⟩ := ck_enter hv
  have hl := lv_entry ([.ref (ck_ad G 10 0)]) (n := 4) (Nat.le_of_ble_eq_true rfl)
  rw [lg_entry_eq]
  generalize (lg_sl ([.ref (ck_ad G 10 0)]) ++ List.replicate (4 - (lg_sl ([.ref (ck_ad G 10 0)])).length) Slot.unset).toArray = ls at hl ⊢
  have hl : lv_has ls 4 [(0, .ref (ck_ad G 10 0))] := hl
  exact wk_X7_hottest_0 ⟨B.exec, B.bytes, B.returns, hml, findClass_of_methodNamed B.named, atoms_spec (ws := wsX7_hottest) B.pre, B.notSynchronized⟩ hM h hw hl
def sp_X7_coldest_38 (nc nb : Nat) (post : Int64 → ck_S → Prop) (K9 : ck_S → Int64 → Int32 → Prop) (σ : ck_S) (x3 : Int32) (s0 : Int64) : Prop := ∀ x_1, x_1 = x3 + 1 → K9 σ s0 x_1
def bd_X7_coldest_9 (nc nb : Nat) (post : Int64 → ck_S → Prop) (K9 : ck_S → Int64 → Int32 → Prop) (σ : ck_S) (x1 : Int64) (x3 : Int32) : Prop := (((ck_gi σ 10 0 1) ≤ x3 → (post x1 σ)) ∧ (¬ (ck_gi σ 10 0 1) ≤ x3 → ((vp_in x3 4) ∧ ((0 ≤ (lg_cmp (ck_gj σ 13 0 (Int32.toNatClampNeg x3)) x1) → (sp_X7_coldest_38 nc nb post K9 σ x3 x1)) ∧ (¬ 0 ≤ (lg_cmp (ck_gj σ 13 0 (Int32.toNatClampNeg x3)) x1) → ((vp_in x3 4) ∧ sp_X7_coldest_38 nc nb post K9 σ x3 (ck_gj σ 13 0 (Int32.toNatClampNeg x3))))))))
def sp_X7_coldest (nc nb : Nat) (σ : ck_S) (post : Int64 → ck_S → Prop) : Prop := (vp_in 0 4) ∧ ∀ y_2, y_2 = (ck_gj σ 13 0 (Int32.toNatClampNeg 0)) → lx_3 (bd_X7_coldest_9 nc nb post) σ y_2 1
set_option maxHeartbeats 4000000 in
set_option maxRecDepth 100000 in
theorem wk_X7_coldest_38 {p : Program} {l : Launch} {e : Env} {s : State} {m : MethodId} {args : Array Value} {below : List Frame} {meth : Method} {c : Code} {G : ck_G} (X : ck_X p s m meth c args cX7_coldest 4 (some .long) RX7 wsX7_coldest) (hM : ck_inM G) {post : Int64 → ck_S → Prop} {K9 : ck_S → Int64 → Int32 → Prop} (hK9 : ∀ (σ : ck_S) (x1 : Int64) (x3 : Int32) (H : Heap) (locs : List Loc) (ls : Array Slot), K9 σ x1 x3 → ck_H G s H locs σ → lv_has ls 4 [(0, .ref (ck_ad G 10 0)), (1, .long x1), (3, .int x3)] → W p l e ({ frames := 0, cells := 0, slots := 0, locals := 0 } : Room) s m args below meth c H locs 0 0 (MQ below (va_Ql post (ck_Q G) (ck_A G s.heap.size)) args s 0 0 (ck_A G s.heap.size)) (F0 m 9 ls [])) {σ : ck_S} {x3 : Int32} {s0 : Int64} {H : Heap} {locs : List Loc} {ls : Array Slot} (h : sp_X7_coldest_38 (ck_nc G) (ck_nb G) post K9 σ x3 s0) (hw : ck_H G s H locs σ) (hl : lv_has ls 4 [(0, .ref (ck_ad G 10 0)), (3, .int x3)]) : W p l e ({ frames := 0, cells := 0, slots := 0, locals := 0 } : Room) s m args below meth c H locs 0 0 (MQ below (va_Ql post (ck_Q G) (ck_A G s.heap.size)) args s 0 0 (ck_A G s.heap.size)) (F0 m 38 ls [.long s0]) := by
  obtain ⟨hx, hb, hr, hml, hown, hts, hlocks⟩ := id X
  have inX7 : ∀ w ∈ wsX70, w ∈ wsX7_coldest := fun _ h => List.mem_cons_of_mem _ (List.mem_append_right _ (h))
  unfold sp_X7_coldest_38 at h
  refine lv_lstore_n (lv' := [(1, .long s0), (0, .ref (ck_ad G 10 0)), (3, .int x3)]) hx hb dX7_coldest_38 rfl hl (by decide) rfl (fun ls hl => ?_)
  obtain ⟨x_1, ex_1⟩ : ∃ z : Int32, z = x3 + 1 := ⟨_, rfl⟩
  have h := h x_1 ex_1
  refine lv_iinc (v := x_1) (lv' := [(3, .int x_1), (1, .long s0), (0, .ref (ck_ad G 10 0))]) hx hb dX7_coldest_39 hl (k := 2) rfl (by rw [ex_1]; rfl) (by decide) rfl (fun ls hl => ?_)
  refine lv_goto (tgt := 9) hx hb dX7_coldest_42 (by decide) ?_
  exact hK9 _ _ _ _ _ _ h hw (lv_sub hl [2, 1, 0] rfl)
set_option maxHeartbeats 4000000 in
set_option maxRecDepth 100000 in
theorem wk_X7_coldest_9 {p : Program} {l : Launch} {e : Env} {s : State} {m : MethodId} {args : Array Value} {below : List Frame} {meth : Method} {c : Code} {G : ck_G} (X : ck_X p s m meth c args cX7_coldest 4 (some .long) RX7 wsX7_coldest) (hM : ck_inM G) {post : Int64 → ck_S → Prop} : ∀ (fu : Nat) (σ : ck_S) (x1 : Int64) (x3 : Int32) (H : Heap) (locs : List Loc) (ls : Array Slot), lk_3 (bd_X7_coldest_9 (ck_nc G) (ck_nb G) post) fu σ x1 x3 → ck_H G s H locs σ → lv_has ls 4 [(0, .ref (ck_ad G 10 0)), (1, .long x1), (3, .int x3)] → W p l e ({ frames := 0, cells := 0, slots := 0, locals := 0 } : Room) s m args below meth c H locs 0 0 (MQ below (va_Ql post (ck_Q G) (ck_A G s.heap.size)) args s 0 0 (ck_A G s.heap.size)) (F0 m 9 ls []) := by
  obtain ⟨hx, hb, hr, hml, hown, hts, hlocks⟩ := id X
  have inX7 : ∀ w ∈ wsX70, w ∈ wsX7_coldest := fun _ h => List.mem_cons_of_mem _ (List.mem_append_right _ (h))
  intro fu
  induction fu with
  | zero => intro σ x1 x3 H locs ls h hw hl; exact h.elim
  | succ fu hK9 =>
    intro σ x1 x3 H locs ls h hw hl
    have h : bd_X7_coldest_9 (ck_nc G) (ck_nb G) post (lk_3 (bd_X7_coldest_9 (ck_nc G) (ck_nb G) post) fu) σ x1 x3 := h
    unfold bd_X7_coldest_9 at h
    refine lv_iload_n hx hb dX7_coldest_9 rfl (lv_at hl 2 rfl) ?_
    refine lv_aload_n hx hb dX7_coldest_10 rfl (lv_at hl 0 rfl) ?_
    refine ck_get hx hb hts inX7 hown hw (hM 10 (by decide) (by decide)) rfl rfl 1 (by decide) (hts _ (List.mem_of_getElem? (i := 2) rfl)) rfl dX7_coldest_11 ?_
    obtain ⟨hA, hB⟩ := h
    refine lv_icmp_ge (tgt := 45) hx hb dX7_coldest_14 (by decide) (fun c1 => ?_) (fun c1 => ?_)
    · have h := hA c1
      refine lv_lload_n hx hb dX7_coldest_45 rfl (lv_at hl 1 rfl) ?_
      exact ck_lret X hw h dX7_coldest_46
    · have h := hB c1
      refine lv_aload_n hx hb dX7_coldest_17 rfl (lv_at hl 0 rfl) ?_
      refine ck_get hx hb hts inX7 hown hw (hM 10 (by decide) (by decide)) rfl rfl 14 (by decide) (hts _ (List.mem_of_getElem? (i := 1) rfl)) rfl dX7_coldest_18 ?_
      refine lv_iload_n hx hb dX7_coldest_21 rfl (lv_at hl 2 rfl) ?_
      obtain ⟨n2, h⟩ := h
      refine ck_lald hx hb hw (hM 13 (by decide) (by decide)) rfl n2 dX7_coldest_22 ?_
      refine lv_lload_n hx hb dX7_coldest_23 rfl (lv_at hl 1 rfl) ?_
      refine W.lcmp hx hb dX7_coldest_24 ?_
      obtain ⟨hA, hB⟩ := h
      refine lv_if_ge (tgt := 37) hx hb dX7_coldest_25 (by decide) (fun c3 => ?_) (fun c3 => ?_)
      · have h := hA c3
        refine lv_lload_n hx hb dX7_coldest_37 rfl (lv_at hl 1 rfl) ?_
        exact wk_X7_coldest_38 X hM hK9 h hw (lv_sub hl [0, 2] rfl)
      · have h := hB c3
        refine lv_aload_n hx hb dX7_coldest_28 rfl (lv_at hl 0 rfl) ?_
        refine ck_get hx hb hts inX7 hown hw (hM 10 (by decide) (by decide)) rfl rfl 14 (by decide) (hts _ (List.mem_of_getElem? (i := 1) rfl)) rfl dX7_coldest_29 ?_
        refine lv_iload_n hx hb dX7_coldest_32 rfl (lv_at hl 2 rfl) ?_
        obtain ⟨n4, h⟩ := h
        refine ck_lald hx hb hw (hM 13 (by decide) (by decide)) rfl n4 dX7_coldest_33 ?_
        refine lv_goto (tgt := 38) hx hb dX7_coldest_34 (by decide) ?_
        exact wk_X7_coldest_38 X hM hK9 h hw (lv_sub hl [0, 2] rfl)
set_option maxHeartbeats 4000000 in
set_option maxRecDepth 100000 in
theorem wk_X7_coldest_0 {p : Program} {l : Launch} {e : Env} {s : State} {m : MethodId} {args : Array Value} {below : List Frame} {meth : Method} {c : Code} {G : ck_G} (X : ck_X p s m meth c args cX7_coldest 4 (some .long) RX7 wsX7_coldest) (hM : ck_inM G) {post : Int64 → ck_S → Prop} {σ : ck_S} {H : Heap} {locs : List Loc} {ls : Array Slot} (h : sp_X7_coldest (ck_nc G) (ck_nb G) σ post) (hw : ck_H G s H locs σ) (hl : lv_has ls 4 [(0, .ref (ck_ad G 10 0))]) : W p l e ({ frames := 0, cells := 0, slots := 0, locals := 0 } : Room) s m args below meth c H locs 0 0 (MQ below (va_Ql post (ck_Q G) (ck_A G s.heap.size)) args s 0 0 (ck_A G s.heap.size)) (F0 m 0 ls []) := by
  obtain ⟨hx, hb, hr, hml, hown, hts, hlocks⟩ := id X
  have inX7 : ∀ w ∈ wsX70, w ∈ wsX7_coldest := fun _ h => List.mem_cons_of_mem _ (List.mem_append_right _ (h))
  unfold sp_X7_coldest at h
  refine lv_aload_n hx hb dX7_coldest_0 rfl (lv_at hl 0 rfl) ?_
  refine ck_get hx hb hts inX7 hown hw (hM 10 (by decide) (by decide)) rfl rfl 14 (by decide) (hts _ (List.mem_of_getElem? (i := 1) rfl)) rfl dX7_coldest_1 ?_
  refine lv_iconst (v := 0) hx hb dX7_coldest_4 (by decide) ?_
  obtain ⟨n1, h⟩ := h
  refine ck_lald hx hb hw (hM 13 (by decide) (by decide)) rfl n1 dX7_coldest_5 ?_
  refine lv_topl (fun y_2 ey_2 => ?_)
  have h := h y_2 ey_2
  refine lv_lstore_n (lv' := [(1, .long y_2), (0, .ref (ck_ad G 10 0))]) hx hb dX7_coldest_6 rfl hl (by decide) rfl (fun ls hl => ?_)
  refine lv_iconst (v := 1) hx hb dX7_coldest_7 (by decide) ?_
  refine lv_istore_n (lv' := [(3, .int 1), (1, .long y_2), (0, .ref (ck_ad G 10 0))]) hx hb dX7_coldest_8 rfl hl (by decide) rfl (fun ls hl => ?_)
  obtain ⟨fu, h⟩ := h
  exact wk_X7_coldest_9 X hM fu _ _ _ _ _ _ h hw (lv_sub hl [2, 1, 0] rfl)
set_option maxHeartbeats 4000000 in
set_option maxRecDepth 100000 in
theorem ct_X7_coldest (l : Launch) (G : ck_G) (hM : ck_inM G) {σ : ck_S} {post : Int64 → ck_S → Prop} (h : sp_X7_coldest (ck_nc G) (ck_nb G) σ post) : ck_Ml l yX7_coldest wsX7_coldest ({ frames := 0, cells := 0, slots := 0, locals := 0 } : Room) G σ [.ref (ck_ad G 10 0)] post := by
  intro sz
  refine Met.ofW (cc := cX7_coldest) (maxL := 4) (ret := (some .long)) (by decide) rfl ?_
  intro p e s m args below meth c s₁ B hml hv
  obtain ⟨rfl, rfl, hw⟩ := ck_enter hv
  have hl := lv_entry ([.ref (ck_ad G 10 0)]) (n := 4) (Nat.le_of_ble_eq_true rfl)
  rw [lg_entry_eq]
  generalize (lg_sl ([.ref (ck_ad G 10 0)]) ++ List.replicate (4 - (lg_sl ([.ref (ck_ad G 10 0)])).length) Slot.unset).toArray = ls at hl ⊢
  have hl : lv_has ls 4 [(0, .ref (ck_ad G 10 0))] := hl
  exact wk_X7_coldest_0 ⟨B.exec, B.bytes, B.returns, hml, findClass_of_methodNamed B.named, atoms_spec (ws := wsX7_coldest) B.pre, B.notSynchronized⟩ hM h hw hl
def sp_X7_full (nc nb : Nat) (σ : ck_S) (a0 : Int64) (post : Int64 → ck_S → Prop) : Prop := (((lg_cmp (8 * a0) (8192 * (ck_gj σ 10 0 3))) < 0 → (sp_X7_floor nc nb σ (512 * a0) (8192 * (ck_gj σ 10 0 3)) (fun y_3 σ2 => post y_3 σ2))) ∧ (¬ (lg_cmp (8 * a0) (8192 * (ck_gj σ 10 0 3))) < 0 → (post 64 σ)))
set_option maxHeartbeats 4000000 in
set_option maxRecDepth 100000 in
theorem wk_X7_full_0 {p : Program} {l : Launch} {e : Env} {s : State} {m : MethodId} {args : Array Value} {below : List Frame} {meth : Method} {c : Code} {G : ck_G} (X : ck_X p s m meth c args cX7_full 3 (some .long) RX7 wsX7_full) (hM : ck_inM G) {post : Int64 → ck_S → Prop} {σ : ck_S} {a0 : Int64} {H : Heap} {locs : List Loc} {ls : Array Slot} (h : sp_X7_full (ck_nc G) (ck_nb G) σ a0 post) (hw : ck_H G s H locs σ) (hl : lv_has ls 3 [(0, .ref (ck_ad G 10 0)), (1, .long a0)]) : W p l e ({ frames := 1, cells := 0, slots := 0, locals := 25 } : Room) s m args below meth c H locs 0 0 (MQ below (va_Ql post (ck_Q G) (ck_A G s.heap.size)) args s 0 0 (ck_A G s.heap.size)) (F0 m 0 ls []) := by
  obtain ⟨hx, hb, hr, hml, hown, hts, hlocks⟩ := id X
  have inX7 : ∀ w ∈ wsX70, w ∈ wsX7_full := fun _ h => List.mem_cons_of_mem _ (List.mem_append_right _ (h))
  unfold sp_X7_full at h
  refine lv_ldc2 hx hb hown (hts _ (List.mem_of_getElem? (i := 1) rfl)) dX7_full_0 ?_
  refine lv_lload_n hx hb dX7_full_3 rfl (lv_at hl 1 rfl) ?_
  refine lv_lmul hx hb dX7_full_4 ?_
  refine lv_ldc2 hx hb hown (hts _ (List.mem_of_getElem? (i := 2) rfl)) dX7_full_5 ?_
  refine lv_aload_n hx hb dX7_full_8 rfl (lv_at hl 0 rfl) ?_
  refine ck_get hx hb hts inX7 hown hw (hM 10 (by decide) (by decide)) rfl rfl 3 (by decide) (hts _ (List.mem_of_getElem? (i := 3) rfl)) rfl dX7_full_9 ?_
  refine lv_lmul hx hb dX7_full_12 ?_
  refine W.lcmp hx hb dX7_full_13 ?_
  obtain ⟨hA, hB⟩ := h
  refine lv_if_lt (tgt := 23) hx hb dX7_full_14 (by decide) (fun c1 => ?_) (fun c1 => ?_)
  · have h := hA c1
    refine lv_ldc2 hx hb hown (hts _ (List.mem_of_getElem? (i := 5) rfl)) dX7_full_23 ?_
    refine lv_lload_n hx hb dX7_full_26 rfl (lv_at hl 1 rfl) ?_
    refine lv_lmul hx hb dX7_full_27 ?_
    refine lv_ldc2 hx hb hown (hts _ (List.mem_of_getElem? (i := 2) rfl)) dX7_full_28 ?_
    refine lv_aload_n hx hb dX7_full_31 rfl (lv_at hl 0 rfl) ?_
    refine ck_get hx hb hts inX7 hown hw (hM 10 (by decide) (by decide)) rfl rfl 3 (by decide) (hts _ (List.mem_of_getElem? (i := 3) rfl)) rfl dX7_full_32 ?_
    refine lv_lmul hx hb dX7_full_35 ?_
    refine ck_callSl (rest := []) ⟨hx, hb, hml, hown, hts⟩ hw (ct_X7_floor l G h) (va_cwS 2 hts gX7_full_X7_floor rfl rfl rfl (by decide +kernel) ⟨(Nat.le_of_ble_eq_true rfl), (Nat.le_of_ble_eq_true rfl)⟩) rfl hl.1 rfl (Nat.le_of_ble_eq_true rfl) dX7_full_36 ⟨(Nat.le_of_ble_eq_true rfl), (Nat.le_of_ble_eq_true rfl)⟩ (fun y_3 σ2 H locs h hw => ?_)
    exact ck_lret X hw h dX7_full_39
  · have h := hB c1
    refine lv_ldc2 hx hb hown (hts _ (List.mem_of_getElem? (i := 4) rfl)) dX7_full_17 ?_
    refine lv_goto (tgt := 39) hx hb dX7_full_20 (by decide) ?_
    exact ck_lret X hw h dX7_full_39
set_option maxHeartbeats 4000000 in
set_option maxRecDepth 100000 in
theorem ct_X7_full (l : Launch) (G : ck_G) (hM : ck_inM G) {a0 : Int64} {σ : ck_S} {post : Int64 → ck_S → Prop} (h : sp_X7_full (ck_nc G) (ck_nb G) σ a0 post) : ck_Ml l yX7_full wsX7_full ({ frames := 1, cells := 0, slots := 0, locals := 25 } : Room) G σ [.ref (ck_ad G 10 0), .long a0] post := by
  intro sz
  refine Met.ofW (cc := cX7_full) (maxL := 3) (ret := (some .long)) (by decide) rfl ?_
  intro p e s m args below meth c s₁ B hml hv
  obtain ⟨rfl, rfl, hw⟩ := ck_enter hv
  have hl := lv_entry ([.ref (ck_ad G 10 0), .long a0]) (n := 3) (Nat.le_of_ble_eq_true rfl)
  rw [lg_entry_eq]
  generalize (lg_sl ([.ref (ck_ad G 10 0), .long a0]) ++ List.replicate (3 - (lg_sl ([.ref (ck_ad G 10 0), .long a0])).length) Slot.unset).toArray = ls at hl ⊢
  have hl : lv_has ls 3 [(0, .ref (ck_ad G 10 0)), (1, .long a0)] := hl
  exact wk_X7_full_0 ⟨B.exec, B.bytes, B.returns, hml, findClass_of_methodNamed B.named, atoms_spec (ws := wsX7_full) B.pre, B.notSynchronized⟩ hM h hw hl
def sp_X7_least_11 (nc nb : Nat) (post : Int64 → ck_S → Prop) (σ : ck_S) (x4 : Int64) (s0 : Int64) : Prop := ((0 ≤ (lg_cmp s0 x4) → (post x4 σ)) ∧ (¬ 0 ≤ (lg_cmp s0 x4) → (post s0 σ)))
def sp_X7_least (nc nb : Nat) (σ : ck_S) (a0 : Int64) (a1 : Int64) (a2 : Int64) (post : Int64 → ck_S → Prop) : Prop := ((0 ≤ (lg_cmp a0 a1) → (sp_X7_least_11 nc nb post σ a2 a1)) ∧ (¬ 0 ≤ (lg_cmp a0 a1) → (sp_X7_least_11 nc nb post σ a2 a0)))
set_option maxHeartbeats 4000000 in
set_option maxRecDepth 100000 in
theorem wk_X7_least_11 {p : Program} {l : Launch} {e : Env} {s : State} {m : MethodId} {args : Array Value} {below : List Frame} {meth : Method} {c : Code} {G : ck_G} (X : ck_X p s m meth c args cX7_least 8 (some .long) RX7 wsX7_least) {post : Int64 → ck_S → Prop} {σ : ck_S} {x4 : Int64} {s0 : Int64} {H : Heap} {locs : List Loc} {ls : Array Slot} (h : sp_X7_least_11 (ck_nc G) (ck_nb G) post σ x4 s0) (hw : ck_H G s H locs σ) (hl : lv_has ls 8 [(4, .long x4)]) : W p l e ({ frames := 0, cells := 0, slots := 0, locals := 0 } : Room) s m args below meth c H locs 0 0 (MQ below (va_Ql post (ck_Q G) (ck_A G s.heap.size)) args s 0 0 (ck_A G s.heap.size)) (F0 m 11 ls [.long s0]) := by
  obtain ⟨hx, hb, hr, hml, hown, hts, hlocks⟩ := id X
  unfold sp_X7_least_11 at h
  refine lv_lstore (lv' := [(6, .long s0), (4, .long x4)]) hx hb dX7_least_11 hl (by decide) rfl (fun ls hl => ?_)
  refine lv_lload hx hb dX7_least_13 (lv_at hl 0 rfl) ?_
  refine lv_lload hx hb dX7_least_15 (lv_at hl 1 rfl) ?_
  refine W.lcmp hx hb dX7_least_17 ?_
  obtain ⟨hA, hB⟩ := h
  refine lv_if_ge (tgt := 26) hx hb dX7_least_18 (by decide) (fun c1 => ?_) (fun c1 => ?_)
  · have h := hA c1
    refine lv_lload hx hb dX7_least_26 (lv_at hl 1 rfl) ?_
    exact ck_lret X hw h dX7_least_28
  · have h := hB c1
    refine lv_lload hx hb dX7_least_21 (lv_at hl 0 rfl) ?_
    refine lv_goto (tgt := 28) hx hb dX7_least_23 (by decide) ?_
    exact ck_lret X hw h dX7_least_28
set_option maxHeartbeats 4000000 in
set_option maxRecDepth 100000 in
theorem wk_X7_least_0 {p : Program} {l : Launch} {e : Env} {s : State} {m : MethodId} {args : Array Value} {below : List Frame} {meth : Method} {c : Code} {G : ck_G} (X : ck_X p s m meth c args cX7_least 8 (some .long) RX7 wsX7_least) {post : Int64 → ck_S → Prop} {σ : ck_S} {a0 : Int64} {a1 : Int64} {a2 : Int64} {H : Heap} {locs : List Loc} {ls : Array Slot} (h : sp_X7_least (ck_nc G) (ck_nb G) σ a0 a1 a2 post) (hw : ck_H G s H locs σ) (hl : lv_has ls 8 [(0, .long a0), (2, .long a1), (4, .long a2)]) : W p l e ({ frames := 0, cells := 0, slots := 0, locals := 0 } : Room) s m args below meth c H locs 0 0 (MQ below (va_Ql post (ck_Q G) (ck_A G s.heap.size)) args s 0 0 (ck_A G s.heap.size)) (F0 m 0 ls []) := by
  obtain ⟨hx, hb, hr, hml, hown, hts, hlocks⟩ := id X
  unfold sp_X7_least at h
  refine lv_lload_n hx hb dX7_least_0 rfl (lv_at hl 0 rfl) ?_
  refine lv_lload_n hx hb dX7_least_1 rfl (lv_at hl 1 rfl) ?_
  refine W.lcmp hx hb dX7_least_2 ?_
  obtain ⟨hA, hB⟩ := h
  refine lv_if_ge (tgt := 10) hx hb dX7_least_3 (by decide) (fun c1 => ?_) (fun c1 => ?_)
  · have h := hA c1
    refine lv_lload_n hx hb dX7_least_10 rfl (lv_at hl 1 rfl) ?_
    exact wk_X7_least_11 X h hw (lv_sub hl [2] rfl)
  · have h := hB c1
    refine lv_lload_n hx hb dX7_least_6 rfl (lv_at hl 0 rfl) ?_
    refine lv_goto (tgt := 11) hx hb dX7_least_7 (by decide) ?_
    exact wk_X7_least_11 X h hw (lv_sub hl [2] rfl)
set_option maxHeartbeats 4000000 in
set_option maxRecDepth 100000 in
theorem ct_X7_least (l : Launch) (G : ck_G) {a0 : Int64} {a1 : Int64} {a2 : Int64} {σ : ck_S} {post : Int64 → ck_S → Prop} (h : sp_X7_least (ck_nc G) (ck_nb G) σ a0 a1 a2 post) : ck_Ml l yX7_least wsX7_least ({ frames := 0, cells := 0, slots := 0, locals := 0 } : Room) G σ [.long a0, .long a1, .long a2] post := by
  intro sz
  refine Met.ofW (cc := cX7_least) (maxL := 8) (ret := (some .long)) (by decide) rfl ?_
  intro p e s m args below meth c s₁ B hml hv
  obtain ⟨rfl, rfl, hw⟩ := ck_enter hv
  have hl := lv_entry ([.long a0, .long a1, .long a2]) (n := 8) (Nat.le_of_ble_eq_true rfl)
  rw [lg_entry_eq]
  generalize (lg_sl ([.long a0, .long a1, .long a2]) ++ List.replicate (8 - (lg_sl ([.long a0, .long a1, .long a2])).length) Slot.unset).toArray = ls at hl ⊢
  have hl : lv_has ls 8 [(0, .long a0), (2, .long a1), (4, .long a2)] := hl
  exact wk_X7_least_0 ⟨B.exec, B.bytes, B.returns, hml, findClass_of_methodNamed B.named, atoms_spec (ws := wsX7_least) B.pre, B.notSynchronized⟩ h hw hl
def sp_X7_allow_86 (nc nb : Nat) (post : ck_S → Prop) (σ : ck_S) (x5 : Int64) (s0 : Int64) : Prop := sp_X7_full nc nb σ (ck_gj σ 10 0 11) (fun y_2 σ1 => sp_X7_least nc nb σ1 x5 s0 y_2 (fun y_4 σ3 => ∀ σ5, σ5 = ck_uj σ3 10 0 23 (300 * y_4) → sp_X7_full nc nb σ5 ((8192 * (ck_gj σ5 10 0 3)) - (ck_gj σ5 10 0 11)) (fun y_7 σ6 => sp_X7_least nc nb σ6 x5 s0 y_7 (fun y_9 σ8 => ∀ σ10, σ10 = ck_uj σ8 10 0 24 (150 * y_9) → post σ10))))
def sp_X7_allow_47 (nc nb : Nat) (post : ck_S → Prop) (σ : ck_S) (x3 : Int64) (s0 : Int64) : Prop := (((lg_cmp x3 (80 : Int64)) < 0 → (((0 < (lg_cmp x3 (-176 : Int64)) → (sp_X7_floor nc nb σ (x3 + 176) 4 (fun y_4 σ3 => sp_X7_allow_86 nc nb post σ3 s0 y_4))) ∧ (¬ 0 < (lg_cmp x3 (-176 : Int64)) → (sp_X7_allow_86 nc nb post σ s0 0))))) ∧ (¬ (lg_cmp x3 (80 : Int64)) < 0 → (sp_X7_allow_86 nc nb post σ s0 64)))
def sp_X7_allow (nc nb : Nat) (σ : ck_S) (post : ck_S → Prop) : Prop := sp_X7_hottest nc nb σ (fun y_2 σ1 => sp_X7_coldest nc nb σ1 (fun y_4 σ3 => ((0 < (lg_cmp y_2 (360 : Int64)) → ((((lg_cmp y_2 (488 : Int64)) < 0 → (sp_X7_floor nc nb σ3 (488 - y_2) 2 (fun y_8 σ7 => sp_X7_allow_47 nc nb post σ7 y_4 y_8))) ∧ (¬ (lg_cmp y_2 (488 : Int64)) < 0 → (sp_X7_allow_47 nc nb post σ3 y_4 0))))) ∧ (¬ 0 < (lg_cmp y_2 (360 : Int64)) → (sp_X7_allow_47 nc nb post σ3 y_4 64)))))
set_option maxHeartbeats 4000000 in
set_option maxRecDepth 100000 in
theorem wk_X7_allow_86 {p : Program} {l : Launch} {e : Env} {s : State} {m : MethodId} {args : Array Value} {below : List Frame} {meth : Method} {c : Code} {G : ck_G} (X : ck_X p s m meth c args cX7_allow 9 none RX7 wsX7_allow) (hM : ck_inM G) {post : ck_S → Prop} {σ : ck_S} {x5 : Int64} {s0 : Int64} {H : Heap} {locs : List Loc} {ls : Array Slot} (h : sp_X7_allow_86 (ck_nc G) (ck_nb G) post σ x5 s0) (hw : ck_H G s H locs σ) (hl : lv_has ls 9 [(0, .ref (ck_ad G 10 0)), (5, .long x5)]) : W p l e ({ frames := 2, cells := 0, slots := 0, locals := 47 } : Room) s m args below meth c H locs 0 0 (MQ below (va_Qv post (ck_Q G) (ck_A G s.heap.size)) args s 0 0 (ck_A G s.heap.size)) (F0 m 86 ls [.long s0]) := by
  obtain ⟨hx, hb, hr, hml, hown, hts, hlocks⟩ := id X
  have inX7 : ∀ w ∈ wsX70, w ∈ wsX7_allow := fun _ h => List.mem_cons_of_mem _ (List.mem_append_right _ (h))
  unfold sp_X7_allow_86 at h
  refine lv_lstore (lv' := [(7, .long s0), (0, .ref (ck_ad G 10 0)), (5, .long x5)]) hx hb dX7_allow_86 hl (by decide) rfl (fun ls hl => ?_)
  refine lv_aload_n hx hb dX7_allow_88 rfl (lv_at hl 1 rfl) ?_
  refine lv_ldc2 hx hb hown (hts _ (List.mem_of_getElem? (i := 9) rfl)) dX7_allow_89 ?_
  refine lv_lload hx hb dX7_allow_92 (lv_at hl 2 rfl) ?_
  refine lv_lload hx hb dX7_allow_94 (lv_at hl 0 rfl) ?_
  refine lv_aload_n hx hb dX7_allow_96 rfl (lv_at hl 1 rfl) ?_
  refine lv_aload_n hx hb dX7_allow_97 rfl (lv_at hl 1 rfl) ?_
  refine ck_get hx hb hts inX7 hown hw (hM 10 (by decide) (by decide)) rfl rfl 11 (by decide) (hts _ (List.mem_of_getElem? (i := 10) rfl)) rfl dX7_allow_98 ?_
  refine ck_callVl (rest := [.long s0, .long x5, .long 300, .ref (ck_ad G 10 0)]) ⟨hx, hb, hml, hown, hts⟩ hw (hM 10 (by decide) (by decide)) rfl rfl (ct_X7_full l G hM h) (cwV 1 hts gX7_allow_X7_full rfl rfl rfl (by decide +kernel) ⟨(Nat.le_of_ble_eq_true rfl), (Nat.le_of_ble_eq_true rfl)⟩) rfl hl.1 rfl (Nat.le_of_ble_eq_true rfl) dX7_allow_101 ⟨(Nat.le_of_ble_eq_true rfl), (Nat.le_of_ble_eq_true rfl)⟩ (fun y_2 σ1 H locs h hw => ?_)
  refine ck_callSl (rest := [.long 300, .ref (ck_ad G 10 0)]) ⟨hx, hb, hml, hown, hts⟩ hw (ct_X7_least l G h) (va_cwS 3 hts gX7_allow_X7_least rfl rfl rfl (by decide +kernel) ⟨(Nat.le_of_ble_eq_true rfl), (Nat.le_of_ble_eq_true rfl)⟩) rfl hl.1 rfl (Nat.le_of_ble_eq_true rfl) dX7_allow_104 ⟨(Nat.le_of_ble_eq_true rfl), (Nat.le_of_ble_eq_true rfl)⟩ (fun y_4 σ3 H locs h hw => ?_)
  refine lv_lmul hx hb dX7_allow_107 ?_
  refine ck_putj hx hb hts inX7 tyX7 tyX7_ok nmX7 hown hw (hM 10 (by decide) (by decide)) rfl rfl 23 (by decide) (hts _ (List.mem_of_getElem? (i := 11) rfl)) rfl rfl rfl (Nat.le_of_ble_eq_true rfl) rfl dX7_allow_108 (fun H locs hw => ?_)
  obtain ⟨σ5, eσ5⟩ : ∃ z : ck_S, z = ck_uj σ3 10 0 23 (300 * y_4) := ⟨_, rfl⟩
  rw [← eσ5] at hw
  have h := h σ5 eσ5
  refine lv_aload_n hx hb dX7_allow_111 rfl (lv_at hl 1 rfl) ?_
  refine lv_ldc2 hx hb hown (hts _ (List.mem_of_getElem? (i := 12) rfl)) dX7_allow_112 ?_
  refine lv_lload hx hb dX7_allow_115 (lv_at hl 2 rfl) ?_
  refine lv_lload hx hb dX7_allow_117 (lv_at hl 0 rfl) ?_
  refine lv_aload_n hx hb dX7_allow_119 rfl (lv_at hl 1 rfl) ?_
  refine lv_ldc2 hx hb hown (hts _ (List.mem_of_getElem? (i := 13) rfl)) dX7_allow_120 ?_
  refine lv_aload_n hx hb dX7_allow_123 rfl (lv_at hl 1 rfl) ?_
  refine ck_get hx hb hts inX7 hown hw (hM 10 (by decide) (by decide)) rfl rfl 3 (by decide) (hts _ (List.mem_of_getElem? (i := 14) rfl)) rfl dX7_allow_124 ?_
  refine lv_lmul hx hb dX7_allow_127 ?_
  refine lv_aload_n hx hb dX7_allow_128 rfl (lv_at hl 1 rfl) ?_
  refine ck_get hx hb hts inX7 hown hw (hM 10 (by decide) (by decide)) rfl rfl 11 (by decide) (hts _ (List.mem_of_getElem? (i := 10) rfl)) rfl dX7_allow_129 ?_
  refine lv_lsub hx hb dX7_allow_132 ?_
  refine ck_callVl (rest := [.long s0, .long x5, .long 150, .ref (ck_ad G 10 0)]) ⟨hx, hb, hml, hown, hts⟩ hw (hM 10 (by decide) (by decide)) rfl rfl (ct_X7_full l G hM h) (cwV 1 hts gX7_allow_X7_full rfl rfl rfl (by decide +kernel) ⟨(Nat.le_of_ble_eq_true rfl), (Nat.le_of_ble_eq_true rfl)⟩) rfl hl.1 rfl (Nat.le_of_ble_eq_true rfl) dX7_allow_133 ⟨(Nat.le_of_ble_eq_true rfl), (Nat.le_of_ble_eq_true rfl)⟩ (fun y_7 σ6 H locs h hw => ?_)
  refine ck_callSl (rest := [.long 150, .ref (ck_ad G 10 0)]) ⟨hx, hb, hml, hown, hts⟩ hw (ct_X7_least l G h) (va_cwS 3 hts gX7_allow_X7_least rfl rfl rfl (by decide +kernel) ⟨(Nat.le_of_ble_eq_true rfl), (Nat.le_of_ble_eq_true rfl)⟩) rfl hl.1 rfl (Nat.le_of_ble_eq_true rfl) dX7_allow_136 ⟨(Nat.le_of_ble_eq_true rfl), (Nat.le_of_ble_eq_true rfl)⟩ (fun y_9 σ8 H locs h hw => ?_)
  refine lv_lmul hx hb dX7_allow_139 ?_
  refine ck_putj hx hb hts inX7 tyX7 tyX7_ok nmX7 hown hw (hM 10 (by decide) (by decide)) rfl rfl 24 (by decide) (hts _ (List.mem_of_getElem? (i := 15) rfl)) rfl rfl rfl (Nat.le_of_ble_eq_true rfl) rfl dX7_allow_140 (fun H locs hw => ?_)
  obtain ⟨σ10, eσ10⟩ : ∃ z : ck_S, z = ck_uj σ8 10 0 24 (150 * y_9) := ⟨_, rfl⟩
  rw [← eσ10] at hw
  have h := h σ10 eσ10
  exact ck_vret X hw h dX7_allow_143
set_option maxHeartbeats 4000000 in
set_option maxRecDepth 100000 in
theorem wk_X7_allow_47 {p : Program} {l : Launch} {e : Env} {s : State} {m : MethodId} {args : Array Value} {below : List Frame} {meth : Method} {c : Code} {G : ck_G} (X : ck_X p s m meth c args cX7_allow 9 none RX7 wsX7_allow) (hM : ck_inM G) {post : ck_S → Prop} {σ : ck_S} {x3 : Int64} {s0 : Int64} {H : Heap} {locs : List Loc} {ls : Array Slot} (h : sp_X7_allow_47 (ck_nc G) (ck_nb G) post σ x3 s0) (hw : ck_H G s H locs σ) (hl : lv_has ls 9 [(0, .ref (ck_ad G 10 0)), (3, .long x3)]) : W p l e ({ frames := 2, cells := 0, slots := 0, locals := 47 } : Room) s m args below meth c H locs 0 0 (MQ below (va_Qv post (ck_Q G) (ck_A G s.heap.size)) args s 0 0 (ck_A G s.heap.size)) (F0 m 47 ls [.long s0]) := by
  obtain ⟨hx, hb, hr, hml, hown, hts, hlocks⟩ := id X
  have inX7 : ∀ w ∈ wsX70, w ∈ wsX7_allow := fun _ h => List.mem_cons_of_mem _ (List.mem_append_right _ (h))
  unfold sp_X7_allow_47 at h
  refine lv_lstore (lv' := [(5, .long s0), (0, .ref (ck_ad G 10 0)), (3, .long x3)]) hx hb dX7_allow_47 hl (by decide) rfl (fun ls hl => ?_)
  refine lv_lload_n hx hb dX7_allow_49 rfl (lv_at hl 2 rfl) ?_
  refine lv_ldc2 hx hb hown (hts _ (List.mem_of_getElem? (i := 5) rfl)) dX7_allow_50 ?_
  refine W.lcmp hx hb dX7_allow_53 ?_
  obtain ⟨hA, hB⟩ := h
  refine lv_if_lt (tgt := 63) hx hb dX7_allow_54 (by decide) (fun c1 => ?_) (fun c1 => ?_)
  · have h := hA c1
    refine lv_lload_n hx hb dX7_allow_63 rfl (lv_at hl 2 rfl) ?_
    refine lv_ldc2 hx hb hown (hts _ (List.mem_of_getElem? (i := 6) rfl)) dX7_allow_64 ?_
    refine W.lcmp hx hb dX7_allow_67 ?_
    obtain ⟨hA, hB⟩ := h
    refine lv_if_gt (tgt := 75) hx hb dX7_allow_68 (by decide) (fun c2 => ?_) (fun c2 => ?_)
    · have h := hA c2
      refine lv_lload_n hx hb dX7_allow_75 rfl (lv_at hl 2 rfl) ?_
      refine lv_ldc2 hx hb hown (hts _ (List.mem_of_getElem? (i := 7) rfl)) dX7_allow_76 ?_
      refine lv_ladd hx hb dX7_allow_79 ?_
      refine lv_ldc2 hx hb hown (hts _ (List.mem_of_getElem? (i := 8) rfl)) dX7_allow_80 ?_
      refine ck_callSl (rest := []) ⟨hx, hb, hml, hown, hts⟩ hw (ct_X7_floor l G h) (va_cwS 2 hts gX7_allow_X7_floor rfl rfl rfl (by decide +kernel) ⟨(Nat.le_of_ble_eq_true rfl), (Nat.le_of_ble_eq_true rfl)⟩) rfl hl.1 rfl (Nat.le_of_ble_eq_true rfl) dX7_allow_83 ⟨(Nat.le_of_ble_eq_true rfl), (Nat.le_of_ble_eq_true rfl)⟩ (fun y_4 σ3 H locs h hw => ?_)
      exact wk_X7_allow_86 X hM h hw (lv_sub hl [1, 0] rfl)
    · have h := hB c2
      refine lv_lconst (v := 0) hx hb dX7_allow_71 (by decide) ?_
      refine lv_goto (tgt := 86) hx hb dX7_allow_72 (by decide) ?_
      exact wk_X7_allow_86 X hM h hw (lv_sub hl [1, 0] rfl)
  · have h := hB c1
    refine lv_ldc2 hx hb hown (hts _ (List.mem_of_getElem? (i := 2) rfl)) dX7_allow_57 ?_
    refine lv_goto (tgt := 86) hx hb dX7_allow_60 (by decide) ?_
    exact wk_X7_allow_86 X hM h hw (lv_sub hl [1, 0] rfl)
set_option maxHeartbeats 4000000 in
set_option maxRecDepth 100000 in
theorem wk_X7_allow_0 {p : Program} {l : Launch} {e : Env} {s : State} {m : MethodId} {args : Array Value} {below : List Frame} {meth : Method} {c : Code} {G : ck_G} (X : ck_X p s m meth c args cX7_allow 9 none RX7 wsX7_allow) (hM : ck_inM G) {post : ck_S → Prop} {σ : ck_S} {H : Heap} {locs : List Loc} {ls : Array Slot} (h : sp_X7_allow (ck_nc G) (ck_nb G) σ post) (hw : ck_H G s H locs σ) (hl : lv_has ls 9 [(0, .ref (ck_ad G 10 0))]) : W p l e ({ frames := 2, cells := 0, slots := 0, locals := 47 } : Room) s m args below meth c H locs 0 0 (MQ below (va_Qv post (ck_Q G) (ck_A G s.heap.size)) args s 0 0 (ck_A G s.heap.size)) (F0 m 0 ls []) := by
  obtain ⟨hx, hb, hr, hml, hown, hts, hlocks⟩ := id X
  have inX7 : ∀ w ∈ wsX70, w ∈ wsX7_allow := fun _ h => List.mem_cons_of_mem _ (List.mem_append_right _ (h))
  unfold sp_X7_allow at h
  refine lv_aload_n hx hb dX7_allow_0 rfl (lv_at hl 0 rfl) ?_
  refine ck_callVl (rest := []) ⟨hx, hb, hml, hown, hts⟩ hw (hM 10 (by decide) (by decide)) rfl rfl (ct_X7_hottest l G hM h) (cwV 0 hts gX7_allow_X7_hottest rfl rfl rfl (by decide +kernel) ⟨(Nat.le_of_ble_eq_true rfl), (Nat.le_of_ble_eq_true rfl)⟩) rfl hl.1 rfl (Nat.le_of_ble_eq_true rfl) dX7_allow_1 ⟨(Nat.le_of_ble_eq_true rfl), (Nat.le_of_ble_eq_true rfl)⟩ (fun y_2 σ1 H locs h hw => ?_)
  refine lv_lstore_n (lv' := [(1, .long y_2), (0, .ref (ck_ad G 10 0))]) hx hb dX7_allow_4 rfl hl (by decide) rfl (fun ls hl => ?_)
  refine lv_aload_n hx hb dX7_allow_5 rfl (lv_at hl 1 rfl) ?_
  refine ck_callVl (rest := []) ⟨hx, hb, hml, hown, hts⟩ hw (hM 10 (by decide) (by decide)) rfl rfl (ct_X7_coldest l G hM h) (cwV 0 hts gX7_allow_X7_coldest rfl rfl rfl (by decide +kernel) ⟨(Nat.le_of_ble_eq_true rfl), (Nat.le_of_ble_eq_true rfl)⟩) rfl hl.1 rfl (Nat.le_of_ble_eq_true rfl) dX7_allow_6 ⟨(Nat.le_of_ble_eq_true rfl), (Nat.le_of_ble_eq_true rfl)⟩ (fun y_4 σ3 H locs h hw => ?_)
  refine lv_lstore_n (lv' := [(3, .long y_4), (1, .long y_2), (0, .ref (ck_ad G 10 0))]) hx hb dX7_allow_9 rfl hl (by decide) rfl (fun ls hl => ?_)
  refine lv_lload_n hx hb dX7_allow_10 rfl (lv_at hl 1 rfl) ?_
  refine lv_ldc2 hx hb hown (hts _ (List.mem_of_getElem? (i := 1) rfl)) dX7_allow_11 ?_
  refine W.lcmp hx hb dX7_allow_14 ?_
  obtain ⟨hA, hB⟩ := h
  refine lv_if_gt (tgt := 24) hx hb dX7_allow_15 (by decide) (fun c5 => ?_) (fun c5 => ?_)
  · have h := hA c5
    refine lv_lload_n hx hb dX7_allow_24 rfl (lv_at hl 1 rfl) ?_
    refine lv_ldc2 hx hb hown (hts _ (List.mem_of_getElem? (i := 3) rfl)) dX7_allow_25 ?_
    refine W.lcmp hx hb dX7_allow_28 ?_
    obtain ⟨hA, hB⟩ := h
    refine lv_if_lt (tgt := 36) hx hb dX7_allow_29 (by decide) (fun c6 => ?_) (fun c6 => ?_)
    · have h := hA c6
      refine lv_ldc2 hx hb hown (hts _ (List.mem_of_getElem? (i := 3) rfl)) dX7_allow_36 ?_
      refine lv_lload_n hx hb dX7_allow_39 rfl (lv_at hl 1 rfl) ?_
      refine lv_lsub hx hb dX7_allow_40 ?_
      refine lv_ldc2 hx hb hown (hts _ (List.mem_of_getElem? (i := 4) rfl)) dX7_allow_41 ?_
      refine ck_callSl (rest := []) ⟨hx, hb, hml, hown, hts⟩ hw (ct_X7_floor l G h) (va_cwS 2 hts gX7_allow_X7_floor rfl rfl rfl (by decide +kernel) ⟨(Nat.le_of_ble_eq_true rfl), (Nat.le_of_ble_eq_true rfl)⟩) rfl hl.1 rfl (Nat.le_of_ble_eq_true rfl) dX7_allow_44 ⟨(Nat.le_of_ble_eq_true rfl), (Nat.le_of_ble_eq_true rfl)⟩ (fun y_8 σ7 H locs h hw => ?_)
      exact wk_X7_allow_47 X hM h hw (lv_sub hl [2, 0] rfl)
    · have h := hB c6
      refine lv_lconst (v := 0) hx hb dX7_allow_32 (by decide) ?_
      refine lv_goto (tgt := 47) hx hb dX7_allow_33 (by decide) ?_
      exact wk_X7_allow_47 X hM h hw (lv_sub hl [2, 0] rfl)
  · have h := hB c5
    refine lv_ldc2 hx hb hown (hts _ (List.mem_of_getElem? (i := 2) rfl)) dX7_allow_18 ?_
    refine lv_goto (tgt := 47) hx hb dX7_allow_21 (by decide) ?_
    exact wk_X7_allow_47 X hM h hw (lv_sub hl [2, 0] rfl)
set_option maxHeartbeats 4000000 in
set_option maxRecDepth 100000 in
theorem ct_X7_allow (l : Launch) (G : ck_G) (hM : ck_inM G) {σ : ck_S} {post : ck_S → Prop} (h : sp_X7_allow (ck_nc G) (ck_nb G) σ post) : ck_Mv l yX7_allow wsX7_allow ({ frames := 2, cells := 0, slots := 0, locals := 47 } : Room) G σ [.ref (ck_ad G 10 0)] post := by
  intro sz
  refine Met.ofW (cc := cX7_allow) (maxL := 9) (ret := none) (by decide) rfl ?_
  intro p e s m args below meth c s₁ B hml hv
  obtain ⟨rfl, rfl, hw⟩ := ck_enter hv
  have hl := lv_entry ([.ref (ck_ad G 10 0)]) (n := 9) (Nat.le_of_ble_eq_true rfl)
  rw [lg_entry_eq]
  generalize (lg_sl ([.ref (ck_ad G 10 0)]) ++ List.replicate (9 - (lg_sl ([.ref (ck_ad G 10 0)])).length) Slot.unset).toArray = ls at hl ⊢
  have hl : lv_has ls 9 [(0, .ref (ck_ad G 10 0))] := hl
  exact wk_X7_allow_0 ⟨B.exec, B.bytes, B.returns, hml, findClass_of_methodNamed B.named, atoms_spec (ws := wsX7_allow) B.pre, B.notSynchronized⟩ hM h hw hl
def sp_X7_isSo_211 (nc nb : Nat) (post : Int32 → ck_S → Prop) (K98 : ck_S → Int32 → Int32 → Prop) (σ : ck_S) (x1 : Int32) (x2 : Int32) : Prop := ∀ x_1, x_1 = x2 + 1 → K98 σ x1 x_1
def sp_X7_isSo_153 (nc nb : Nat) (post : Int32 → ck_S → Prop) (K98 : ck_S → Int32 → Int32 → Prop) (σ : ck_S) (x1 : Int32) (x2 : Int32) (x4 : Int32) (x5 : Int32) (s0 : Int32) : Prop := ((¬ x1 = 0 → (((¬ x1 = 1 → (((¬ x1 = 2 → (((2500 ≤ s0 → (sp_X7_isSo_211 nc nb post K98 σ x1 x2)) ∧ (¬ 2500 ≤ s0 → ((ck_b 1 ∧ post 1 σ)))))) ∧ (x1 = 2 → (((s0 ≤ 4200 → (sp_X7_isSo_211 nc nb post K98 σ x1 x2)) ∧ (¬ s0 ≤ 4200 → ((ck_b 1 ∧ post 1 σ))))))))) ∧ (x1 = 1 → (((¬ x4 = 0 → (sp_X7_isSo_211 nc nb post K98 σ x1 x2)) ∧ (x4 = 0 → (((¬ x5 = 0 → (sp_X7_isSo_211 nc nb post K98 σ x1 x2)) ∧ (x5 = 0 → ((ck_b 1 ∧ post 1 σ)))))))))))) ∧ (x1 = 0 → (((x4 = 0 → (sp_X7_isSo_211 nc nb post K98 σ x1 x2)) ∧ (¬ x4 = 0 → ((ck_b 1 ∧ post 1 σ)))))))
def bd_X7_isSo_98 (nc nb : Nat) (post : Int32 → ck_S → Prop) (K98 : ck_S → Int32 → Int32 → Prop) (σ : ck_S) (x1 : Int32) (x2 : Int32) : Prop := (((6 * (ck_gi σ 10 0 1)) ≤ x2 → ((ck_b 0 ∧ post 0 σ))) ∧ (¬ (6 * (ck_gi σ 10 0 1)) ≤ x2 → (∀ x_2, x_2 = (x2 / 6) → sp_X7_isStale nc nb σ x_2 (fun x_4 σ3 => sp_X7_isValid nc nb σ3 x_2 (x2 - x2 / 6 * 6) (fun x_6 σ5 => ((x_6 = 0 → (sp_X7_isSo_153 nc nb post K98 σ5 x1 x2 x_4 x_6 3000)) ∧ (¬ x_6 = 0 → (sp_X7_numberOf nc nb σ5 x_2 (x2 - x2 / 6 * 6) 0 (fun x_9 σ8 => sp_X7_isSo_153 nc nb post K98 σ8 x1 x2 x_4 x_6 x_9)))))))))
def sp_X7_isSo (nc nb : Nat) (σ : ck_S) (a0 : Int32) (post : Int32 → ck_S → Prop) : Prop := ((¬ a0 = 4 → (((¬ a0 = 5 → (((¬ a0 = 6 → (lx_3 (bd_X7_isSo_98 nc nb post) σ a0 0)) ∧ (a0 = 6 → (((0 < (lg_cmp (8 * (ck_gj σ 10 0 13)) ((ck_gj σ 10 0 23) + 640)) → ((ck_b 1 ∧ post 1 σ))) ∧ (¬ 0 < (lg_cmp (8 * (ck_gj σ 10 0 13)) ((ck_gj σ 10 0 23) + 640)) → ((((lg_cmp ((-8) * (ck_gj σ 10 0 13)) ((ck_gj σ 10 0 24) + 640)) ≤ 0 → ((ck_b 0 ∧ post 0 σ))) ∧ (¬ (lg_cmp ((-8) * (ck_gj σ 10 0 13)) ((ck_gj σ 10 0 24) + 640)) ≤ 0 → ((ck_b 1 ∧ post 1 σ)))))))))))) ∧ (a0 = 5 → (sp_X7_coldest nc nb σ (fun y_7 σ6 => ((0 ≤ (lg_cmp y_7 (-240 : Int64)) → ((ck_b 0 ∧ post 0 σ6))) ∧ (¬ 0 ≤ (lg_cmp y_7 (-240 : Int64)) → ((ck_b 1 ∧ post 1 σ6)))))))))) ∧ (a0 = 4 → (sp_X7_hottest nc nb σ (fun y_10 σ9 => (((lg_cmp y_10 (480 : Int64)) ≤ 0 → ((ck_b 0 ∧ post 0 σ9))) ∧ (¬ (lg_cmp y_10 (480 : Int64)) ≤ 0 → ((ck_b 1 ∧ post 1 σ9))))))))
set_option maxHeartbeats 4000000 in
set_option maxRecDepth 100000 in
theorem wk_X7_isSo_211 {p : Program} {l : Launch} {e : Env} {s : State} {m : MethodId} {args : Array Value} {below : List Frame} {meth : Method} {c : Code} {G : ck_G} (X : ck_X p s m meth c args cX7_isSo 7 (some .boolean) RX7 wsX7_isSo) (hM : ck_inM G) {post : Int32 → ck_S → Prop} {K98 : ck_S → Int32 → Int32 → Prop} (hK98 : ∀ (σ : ck_S) (x1 : Int32) (x2 : Int32) (H : Heap) (locs : List Loc) (ls : Array Slot), K98 σ x1 x2 → ck_H G s H locs σ → lv_has ls 7 [(0, .ref (ck_ad G 10 0)), (1, .int x1), (2, .int x2)] → W p l e ({ frames := 3, cells := 0, slots := 0, locals := 77 } : Room) s m args below meth c H locs 0 0 (MQ below (va_Qi post (ck_Q G) (ck_A G s.heap.size)) args s 0 0 (ck_A G s.heap.size)) (F0 m 98 ls [])) {σ : ck_S} {x1 : Int32} {x2 : Int32} {H : Heap} {locs : List Loc} {ls : Array Slot} (h : sp_X7_isSo_211 (ck_nc G) (ck_nb G) post K98 σ x1 x2) (hw : ck_H G s H locs σ) (hl : lv_has ls 7 [(0, .ref (ck_ad G 10 0)), (1, .int x1), (2, .int x2)]) : W p l e ({ frames := 3, cells := 0, slots := 0, locals := 77 } : Room) s m args below meth c H locs 0 0 (MQ below (va_Qi post (ck_Q G) (ck_A G s.heap.size)) args s 0 0 (ck_A G s.heap.size)) (F0 m 211 ls []) := by
  obtain ⟨hx, hb, hr, hml, hown, hts, hlocks⟩ := id X
  have inX7 : ∀ w ∈ wsX70, w ∈ wsX7_isSo := fun _ h => List.mem_cons_of_mem _ (List.mem_append_right _ (h))
  unfold sp_X7_isSo_211 at h
  obtain ⟨x_1, ex_1⟩ : ∃ z : Int32, z = x2 + 1 := ⟨_, rfl⟩
  have h := h x_1 ex_1
  refine lv_iinc (v := x_1) (lv' := [(2, .int x_1), (0, .ref (ck_ad G 10 0)), (1, .int x1)]) hx hb dX7_isSo_211 hl (k := 2) rfl (by rw [ex_1]; rfl) (by decide) rfl (fun ls hl => ?_)
  refine lv_goto (tgt := 98) hx hb dX7_isSo_214 (by decide) ?_
  exact hK98 _ _ _ _ _ _ h hw (lv_sub hl [1, 2, 0] rfl)
set_option maxHeartbeats 4000000 in
set_option maxRecDepth 100000 in
theorem wk_X7_isSo_153 {p : Program} {l : Launch} {e : Env} {s : State} {m : MethodId} {args : Array Value} {below : List Frame} {meth : Method} {c : Code} {G : ck_G} (X : ck_X p s m meth c args cX7_isSo 7 (some .boolean) RX7 wsX7_isSo) (hM : ck_inM G) {post : Int32 → ck_S → Prop} {K98 : ck_S → Int32 → Int32 → Prop} (hK98 : ∀ (σ : ck_S) (x1 : Int32) (x2 : Int32) (H : Heap) (locs : List Loc) (ls : Array Slot), K98 σ x1 x2 → ck_H G s H locs σ → lv_has ls 7 [(0, .ref (ck_ad G 10 0)), (1, .int x1), (2, .int x2)] → W p l e ({ frames := 3, cells := 0, slots := 0, locals := 77 } : Room) s m args below meth c H locs 0 0 (MQ below (va_Qi post (ck_Q G) (ck_A G s.heap.size)) args s 0 0 (ck_A G s.heap.size)) (F0 m 98 ls [])) {σ : ck_S} {x1 : Int32} {x2 : Int32} {x4 : Int32} {x5 : Int32} {s0 : Int32} {H : Heap} {locs : List Loc} {ls : Array Slot} (h : sp_X7_isSo_153 (ck_nc G) (ck_nb G) post K98 σ x1 x2 x4 x5 s0) (hw : ck_H G s H locs σ) (hl : lv_has ls 7 [(0, .ref (ck_ad G 10 0)), (1, .int x1), (2, .int x2), (4, .int x4), (5, .int x5)]) : W p l e ({ frames := 3, cells := 0, slots := 0, locals := 77 } : Room) s m args below meth c H locs 0 0 (MQ below (va_Qi post (ck_Q G) (ck_A G s.heap.size)) args s 0 0 (ck_A G s.heap.size)) (F0 m 153 ls [.int s0]) := by
  obtain ⟨hx, hb, hr, hml, hown, hts, hlocks⟩ := id X
  have inX7 : ∀ w ∈ wsX70, w ∈ wsX7_isSo := fun _ h => List.mem_cons_of_mem _ (List.mem_append_right _ (h))
  unfold sp_X7_isSo_153 at h
  refine lv_istore (lv' := [(6, .int s0), (0, .ref (ck_ad G 10 0)), (1, .int x1), (2, .int x2), (4, .int x4), (5, .int x5)]) hx hb dX7_isSo_153 hl (by decide) rfl (fun ls hl => ?_)
  refine lv_iload_n hx hb dX7_isSo_155 rfl (lv_at hl 2 rfl) ?_
  obtain ⟨hA, hB⟩ := h
  refine lv_if_ne (tgt := 167) hx hb dX7_isSo_156 (by decide) (fun c1 => ?_) (fun c1 => ?_)
  · have h := hA c1
    refine lv_iload_n hx hb dX7_isSo_167 rfl (lv_at hl 2 rfl) ?_
    refine lv_iconst (v := 1) hx hb dX7_isSo_168 (by decide) ?_
    obtain ⟨hA, hB⟩ := h
    refine lv_icmp_ne (tgt := 185) hx hb dX7_isSo_169 (by decide) (fun c2 => ?_) (fun c2 => ?_)
    · have h := hA c2
      refine lv_iload_n hx hb dX7_isSo_185 rfl (lv_at hl 2 rfl) ?_
      refine lv_iconst (v := 2) hx hb dX7_isSo_186 (by decide) ?_
      obtain ⟨hA, hB⟩ := h
      refine lv_icmp_ne (tgt := 201) hx hb dX7_isSo_187 (by decide) (fun c3 => ?_) (fun c3 => ?_)
      · have h := hA c3
        refine lv_iload hx hb dX7_isSo_201 (lv_at hl 0 rfl) ?_
        refine lv_sipush (v := 2500) hx hb dX7_isSo_203 (by decide) ?_
        obtain ⟨hA, hB⟩ := h
        refine lv_icmp_ge (tgt := 211) hx hb dX7_isSo_206 (by decide) (fun c4 => ?_) (fun c4 => ?_)
        · have h := hA c4
          exact wk_X7_isSo_211 X hM hK98 h hw (lv_sub hl [1, 2, 3] rfl)
        · have h := hB c4
          refine lv_iconst (v := 1) hx hb dX7_isSo_209 (by decide) ?_
          exact ck_zret X hw h dX7_isSo_210
      · have h := hB c3
        refine lv_iload hx hb dX7_isSo_190 (lv_at hl 0 rfl) ?_
        refine lv_sipush (v := 4200) hx hb dX7_isSo_192 (by decide) ?_
        obtain ⟨hA, hB⟩ := h
        refine lv_icmp_le (tgt := 211) hx hb dX7_isSo_195 (by decide) (fun c5 => ?_) (fun c5 => ?_)
        · have h := hA c5
          exact wk_X7_isSo_211 X hM hK98 h hw (lv_sub hl [1, 2, 3] rfl)
        · have h := hB c5
          refine lv_goto (tgt := 209) hx hb dX7_isSo_198 (by decide) ?_
          refine lv_iconst (v := 1) hx hb dX7_isSo_209 (by decide) ?_
          exact ck_zret X hw h dX7_isSo_210
    · have h := hB c2
      refine lv_iload hx hb dX7_isSo_172 (lv_at hl 4 rfl) ?_
      obtain ⟨hA, hB⟩ := h
      refine lv_if_ne (tgt := 211) hx hb dX7_isSo_174 (by decide) (fun c6 => ?_) (fun c6 => ?_)
      · have h := hA c6
        exact wk_X7_isSo_211 X hM hK98 h hw (lv_sub hl [1, 2, 3] rfl)
      · have h := hB c6
        refine lv_iload hx hb dX7_isSo_177 (lv_at hl 5 rfl) ?_
        obtain ⟨hA, hB⟩ := h
        refine lv_if_ne (tgt := 211) hx hb dX7_isSo_179 (by decide) (fun c7 => ?_) (fun c7 => ?_)
        · have h := hA c7
          exact wk_X7_isSo_211 X hM hK98 h hw (lv_sub hl [1, 2, 3] rfl)
        · have h := hB c7
          refine lv_goto (tgt := 209) hx hb dX7_isSo_182 (by decide) ?_
          refine lv_iconst (v := 1) hx hb dX7_isSo_209 (by decide) ?_
          exact ck_zret X hw h dX7_isSo_210
  · have h := hB c1
    refine lv_iload hx hb dX7_isSo_159 (lv_at hl 4 rfl) ?_
    obtain ⟨hA, hB⟩ := h
    refine lv_if_eq (tgt := 211) hx hb dX7_isSo_161 (by decide) (fun c8 => ?_) (fun c8 => ?_)
    · have h := hA c8
      exact wk_X7_isSo_211 X hM hK98 h hw (lv_sub hl [1, 2, 3] rfl)
    · have h := hB c8
      refine lv_goto (tgt := 209) hx hb dX7_isSo_164 (by decide) ?_
      refine lv_iconst (v := 1) hx hb dX7_isSo_209 (by decide) ?_
      exact ck_zret X hw h dX7_isSo_210
set_option maxHeartbeats 4000000 in
set_option maxRecDepth 100000 in
theorem wk_X7_isSo_98 {p : Program} {l : Launch} {e : Env} {s : State} {m : MethodId} {args : Array Value} {below : List Frame} {meth : Method} {c : Code} {G : ck_G} (X : ck_X p s m meth c args cX7_isSo 7 (some .boolean) RX7 wsX7_isSo) (hM : ck_inM G) {post : Int32 → ck_S → Prop} : ∀ (fu : Nat) (σ : ck_S) (x1 : Int32) (x2 : Int32) (H : Heap) (locs : List Loc) (ls : Array Slot), lk_3 (bd_X7_isSo_98 (ck_nc G) (ck_nb G) post) fu σ x1 x2 → ck_H G s H locs σ → lv_has ls 7 [(0, .ref (ck_ad G 10 0)), (1, .int x1), (2, .int x2)] → W p l e ({ frames := 3, cells := 0, slots := 0, locals := 77 } : Room) s m args below meth c H locs 0 0 (MQ below (va_Qi post (ck_Q G) (ck_A G s.heap.size)) args s 0 0 (ck_A G s.heap.size)) (F0 m 98 ls []) := by
  obtain ⟨hx, hb, hr, hml, hown, hts, hlocks⟩ := id X
  have inX7 : ∀ w ∈ wsX70, w ∈ wsX7_isSo := fun _ h => List.mem_cons_of_mem _ (List.mem_append_right _ (h))
  intro fu
  induction fu with
  | zero => intro σ x1 x2 H locs ls h hw hl; exact h.elim
  | succ fu hK98 =>
    intro σ x1 x2 H locs ls h hw hl
    have h : bd_X7_isSo_98 (ck_nc G) (ck_nb G) post (lk_3 (bd_X7_isSo_98 (ck_nc G) (ck_nb G) post) fu) σ x1 x2 := h
    unfold bd_X7_isSo_98 at h
    refine lv_iload_n hx hb dX7_isSo_98 rfl (lv_at hl 2 rfl) ?_
    refine lv_bipush (v := 6) hx hb dX7_isSo_99 (by decide) ?_
    refine lv_aload_n hx hb dX7_isSo_101 rfl (lv_at hl 0 rfl) ?_
    refine ck_get hx hb hts inX7 hown hw (hM 10 (by decide) (by decide)) rfl rfl 1 (by decide) (hts _ (List.mem_of_getElem? (i := 9) rfl)) rfl dX7_isSo_102 ?_
    refine lv_imul hx hb dX7_isSo_105 ?_
    obtain ⟨hA, hB⟩ := h
    refine lv_icmp_ge (tgt := 217) hx hb dX7_isSo_106 (by decide) (fun c1 => ?_) (fun c1 => ?_)
    · have h := hA c1
      refine lv_iconst (v := 0) hx hb dX7_isSo_217 (by decide) ?_
      exact ck_zret X hw h dX7_isSo_218
    · have h := hB c1
      refine lv_iload_n hx hb dX7_isSo_109 rfl (lv_at hl 2 rfl) ?_
      refine lv_bipush (v := 6) hx hb dX7_isSo_110 (by decide) ?_
      refine lv_idiv hx hb dX7_isSo_112 (by decide) ?_
      refine lv_topi (fun x_2 ex_2 => ?_)
      have h := h x_2 ex_2
      refine lv_istore_n (lv' := [(3, .int x_2), (0, .ref (ck_ad G 10 0)), (1, .int x1), (2, .int x2)]) hx hb dX7_isSo_113 rfl hl (by decide) rfl (fun ls hl => ?_)
      refine lv_aload_n hx hb dX7_isSo_114 rfl (lv_at hl 1 rfl) ?_
      refine lv_iload_n hx hb dX7_isSo_115 rfl (lv_at hl 0 rfl) ?_
      refine ck_callVi (rest := []) ⟨hx, hb, hml, hown, hts⟩ hw (hM 10 (by decide) (by decide)) rfl rfl (ct_X7_isStale l G hM h) (cwV 1 hts gX7_isSo_X7_isStale rfl rfl rfl (by decide +kernel) ⟨(Nat.le_of_ble_eq_true rfl), (Nat.le_of_ble_eq_true rfl)⟩) rfl hl.1 rfl (Nat.le_of_ble_eq_true rfl) dX7_isSo_116 ⟨(Nat.le_of_ble_eq_true rfl), (Nat.le_of_ble_eq_true rfl)⟩ (fun x_4 σ3 H locs h hw => ?_)
      refine lv_istore (lv' := [(4, .int x_4), (3, .int x_2), (0, .ref (ck_ad G 10 0)), (1, .int x1), (2, .int x2)]) hx hb dX7_isSo_119 hl (by decide) rfl (fun ls hl => ?_)
      refine lv_aload_n hx hb dX7_isSo_121 rfl (lv_at hl 2 rfl) ?_
      refine lv_iload_n hx hb dX7_isSo_122 rfl (lv_at hl 1 rfl) ?_
      refine lv_iload_n hx hb dX7_isSo_123 rfl (lv_at hl 4 rfl) ?_
      refine lv_bipush (v := 6) hx hb dX7_isSo_124 (by decide) ?_
      refine lv_irem hx hb dX7_isSo_126 (by decide) ?_
      refine ck_callVi (rest := []) ⟨hx, hb, hml, hown, hts⟩ hw (hM 10 (by decide) (by decide)) rfl rfl (ct_X7_isValid l G hM h) (cwV 2 hts gX7_isSo_X7_isValid rfl rfl rfl (by decide +kernel) ⟨(Nat.le_of_ble_eq_true rfl), (Nat.le_of_ble_eq_true rfl)⟩) rfl hl.1 rfl (Nat.le_of_ble_eq_true rfl) dX7_isSo_127 ⟨(Nat.le_of_ble_eq_true rfl), (Nat.le_of_ble_eq_true rfl)⟩ (fun x_6 σ5 H locs h hw => ?_)
      refine lv_istore (lv' := [(5, .int x_6), (4, .int x_4), (3, .int x_2), (0, .ref (ck_ad G 10 0)), (1, .int x1), (2, .int x2)]) hx hb dX7_isSo_130 hl (by decide) rfl (fun ls hl => ?_)
      refine lv_iload hx hb dX7_isSo_132 (lv_at hl 0 rfl) ?_
      obtain ⟨hA, hB⟩ := h
      refine lv_if_eq (tgt := 150) hx hb dX7_isSo_134 (by decide) (fun c7 => ?_) (fun c7 => ?_)
      · have h := hA c7
        refine lv_sipush (v := 3000) hx hb dX7_isSo_150 (by decide) ?_
        exact wk_X7_isSo_153 X hM hK98 h hw (lv_sub hl [3, 4, 5, 1, 0] rfl)
      · have h := hB c7
        refine lv_aload_n hx hb dX7_isSo_137 rfl (lv_at hl 3 rfl) ?_
        refine lv_iload_n hx hb dX7_isSo_138 rfl (lv_at hl 2 rfl) ?_
        refine lv_iload_n hx hb dX7_isSo_139 rfl (lv_at hl 5 rfl) ?_
        refine lv_bipush (v := 6) hx hb dX7_isSo_140 (by decide) ?_
        refine lv_irem hx hb dX7_isSo_142 (by decide) ?_
        refine lv_iconst (v := 0) hx hb dX7_isSo_143 (by decide) ?_
        refine ck_callVi (rest := []) ⟨hx, hb, hml, hown, hts⟩ hw (hM 10 (by decide) (by decide)) rfl rfl (ct_X7_numberOf l G hM h) (cwV 3 hts gX7_isSo_X7_numberOf rfl rfl rfl (by decide +kernel) ⟨(Nat.le_of_ble_eq_true rfl), (Nat.le_of_ble_eq_true rfl)⟩) rfl hl.1 rfl (Nat.le_of_ble_eq_true rfl) dX7_isSo_144 ⟨(Nat.le_of_ble_eq_true rfl), (Nat.le_of_ble_eq_true rfl)⟩ (fun x_9 σ8 H locs h hw => ?_)
        refine lv_goto (tgt := 153) hx hb dX7_isSo_147 (by decide) ?_
        exact wk_X7_isSo_153 X hM hK98 h hw (lv_sub hl [3, 4, 5, 1, 0] rfl)
set_option maxHeartbeats 4000000 in
set_option maxRecDepth 100000 in
theorem wk_X7_isSo_0 {p : Program} {l : Launch} {e : Env} {s : State} {m : MethodId} {args : Array Value} {below : List Frame} {meth : Method} {c : Code} {G : ck_G} (X : ck_X p s m meth c args cX7_isSo 7 (some .boolean) RX7 wsX7_isSo) (hM : ck_inM G) {post : Int32 → ck_S → Prop} {σ : ck_S} {a0 : Int32} {H : Heap} {locs : List Loc} {ls : Array Slot} (h : sp_X7_isSo (ck_nc G) (ck_nb G) σ a0 post) (hw : ck_H G s H locs σ) (hl : lv_has ls 7 [(0, .ref (ck_ad G 10 0)), (1, .int a0)]) : W p l e ({ frames := 3, cells := 0, slots := 0, locals := 77 } : Room) s m args below meth c H locs 0 0 (MQ below (va_Qi post (ck_Q G) (ck_A G s.heap.size)) args s 0 0 (ck_A G s.heap.size)) (F0 m 0 ls []) := by
  obtain ⟨hx, hb, hr, hml, hown, hts, hlocks⟩ := id X
  have inX7 : ∀ w ∈ wsX70, w ∈ wsX7_isSo := fun _ h => List.mem_cons_of_mem _ (List.mem_append_right _ (h))
  unfold sp_X7_isSo at h
  refine lv_iload_n hx hb dX7_isSo_0 rfl (lv_at hl 1 rfl) ?_
  refine lv_iconst (v := 4) hx hb dX7_isSo_1 (by decide) ?_
  obtain ⟨hA, hB⟩ := h
  refine lv_icmp_ne (tgt := 22) hx hb dX7_isSo_2 (by decide) (fun c1 => ?_) (fun c1 => ?_)
  · have h := hA c1
    refine lv_iload_n hx hb dX7_isSo_22 rfl (lv_at hl 1 rfl) ?_
    refine lv_iconst (v := 5) hx hb dX7_isSo_23 (by decide) ?_
    obtain ⟨hA, hB⟩ := h
    refine lv_icmp_ne (tgt := 44) hx hb dX7_isSo_24 (by decide) (fun c2 => ?_) (fun c2 => ?_)
    · have h := hA c2
      refine lv_iload_n hx hb dX7_isSo_44 rfl (lv_at hl 1 rfl) ?_
      refine lv_bipush (v := 6) hx hb dX7_isSo_45 (by decide) ?_
      obtain ⟨hA, hB⟩ := h
      refine lv_icmp_ne (tgt := 96) hx hb dX7_isSo_47 (by decide) (fun c3 => ?_) (fun c3 => ?_)
      · have h := hA c3
        refine lv_iconst (v := 0) hx hb dX7_isSo_96 (by decide) ?_
        refine lv_istore_n (lv' := [(2, .int 0), (0, .ref (ck_ad G 10 0)), (1, .int a0)]) hx hb dX7_isSo_97 rfl hl (by decide) rfl (fun ls hl => ?_)
        obtain ⟨fu, h⟩ := h
        exact wk_X7_isSo_98 X hM fu _ _ _ _ _ _ h hw (lv_sub hl [1, 2, 0] rfl)
      · have h := hB c3
        refine lv_ldc2 hx hb hown (hts _ (List.mem_of_getElem? (i := 3) rfl)) dX7_isSo_50 ?_
        refine lv_aload_n hx hb dX7_isSo_53 rfl (lv_at hl 0 rfl) ?_
        refine ck_get hx hb hts inX7 hown hw (hM 10 (by decide) (by decide)) rfl rfl 13 (by decide) (hts _ (List.mem_of_getElem? (i := 4) rfl)) rfl dX7_isSo_54 ?_
        refine lv_lmul hx hb dX7_isSo_57 ?_
        refine lv_aload_n hx hb dX7_isSo_58 rfl (lv_at hl 0 rfl) ?_
        refine ck_get hx hb hts inX7 hown hw (hM 10 (by decide) (by decide)) rfl rfl 23 (by decide) (hts _ (List.mem_of_getElem? (i := 5) rfl)) rfl dX7_isSo_59 ?_
        refine lv_ldc2 hx hb hown (hts _ (List.mem_of_getElem? (i := 6) rfl)) dX7_isSo_62 ?_
        refine lv_ladd hx hb dX7_isSo_65 ?_
        refine W.lcmp hx hb dX7_isSo_66 ?_
        obtain ⟨hA, hB⟩ := h
        refine lv_if_gt (tgt := 90) hx hb dX7_isSo_67 (by decide) (fun c4 => ?_) (fun c4 => ?_)
        · have h := hA c4
          refine lv_iconst (v := 1) hx hb dX7_isSo_90 (by decide) ?_
          refine lv_goto (tgt := 95) hx hb dX7_isSo_91 (by decide) ?_
          exact ck_zret X hw h dX7_isSo_95
        · have h := hB c4
          refine lv_ldc2 hx hb hown (hts _ (List.mem_of_getElem? (i := 7) rfl)) dX7_isSo_70 ?_
          refine lv_aload_n hx hb dX7_isSo_73 rfl (lv_at hl 0 rfl) ?_
          refine ck_get hx hb hts inX7 hown hw (hM 10 (by decide) (by decide)) rfl rfl 13 (by decide) (hts _ (List.mem_of_getElem? (i := 4) rfl)) rfl dX7_isSo_74 ?_
          refine lv_lmul hx hb dX7_isSo_77 ?_
          refine lv_aload_n hx hb dX7_isSo_78 rfl (lv_at hl 0 rfl) ?_
          refine ck_get hx hb hts inX7 hown hw (hM 10 (by decide) (by decide)) rfl rfl 24 (by decide) (hts _ (List.mem_of_getElem? (i := 8) rfl)) rfl dX7_isSo_79 ?_
          refine lv_ldc2 hx hb hown (hts _ (List.mem_of_getElem? (i := 6) rfl)) dX7_isSo_82 ?_
          refine lv_ladd hx hb dX7_isSo_85 ?_
          refine W.lcmp hx hb dX7_isSo_86 ?_
          obtain ⟨hA, hB⟩ := h
          refine lv_if_le (tgt := 94) hx hb dX7_isSo_87 (by decide) (fun c5 => ?_) (fun c5 => ?_)
          · have h := hA c5
            refine lv_iconst (v := 0) hx hb dX7_isSo_94 (by decide) ?_
            exact ck_zret X hw h dX7_isSo_95
          · have h := hB c5
            refine lv_iconst (v := 1) hx hb dX7_isSo_90 (by decide) ?_
            refine lv_goto (tgt := 95) hx hb dX7_isSo_91 (by decide) ?_
            exact ck_zret X hw h dX7_isSo_95
    · have h := hB c2
      refine lv_aload_n hx hb dX7_isSo_27 rfl (lv_at hl 0 rfl) ?_
      refine ck_callVl (rest := []) ⟨hx, hb, hml, hown, hts⟩ hw (hM 10 (by decide) (by decide)) rfl rfl (ct_X7_coldest l G hM h) (cwV 0 hts gX7_isSo_X7_coldest rfl rfl rfl (by decide +kernel) ⟨(Nat.le_of_ble_eq_true rfl), (Nat.le_of_ble_eq_true rfl)⟩) rfl hl.1 rfl (Nat.le_of_ble_eq_true rfl) dX7_isSo_28 ⟨(Nat.le_of_ble_eq_true rfl), (Nat.le_of_ble_eq_true rfl)⟩ (fun y_7 σ6 H locs h hw => ?_)
      refine lv_ldc2 hx hb hown (hts _ (List.mem_of_getElem? (i := 2) rfl)) dX7_isSo_31 ?_
      refine W.lcmp hx hb dX7_isSo_34 ?_
      obtain ⟨hA, hB⟩ := h
      refine lv_if_ge (tgt := 42) hx hb dX7_isSo_35 (by decide) (fun c8 => ?_) (fun c8 => ?_)
      · have h := hA c8
        refine lv_iconst (v := 0) hx hb dX7_isSo_42 (by decide) ?_
        exact ck_zret X hw h dX7_isSo_43
      · have h := hB c8
        refine lv_iconst (v := 1) hx hb dX7_isSo_38 (by decide) ?_
        refine lv_goto (tgt := 43) hx hb dX7_isSo_39 (by decide) ?_
        exact ck_zret X hw h dX7_isSo_43
  · have h := hB c1
    refine lv_aload_n hx hb dX7_isSo_5 rfl (lv_at hl 0 rfl) ?_
    refine ck_callVl (rest := []) ⟨hx, hb, hml, hown, hts⟩ hw (hM 10 (by decide) (by decide)) rfl rfl (ct_X7_hottest l G hM h) (cwV 0 hts gX7_isSo_X7_hottest rfl rfl rfl (by decide +kernel) ⟨(Nat.le_of_ble_eq_true rfl), (Nat.le_of_ble_eq_true rfl)⟩) rfl hl.1 rfl (Nat.le_of_ble_eq_true rfl) dX7_isSo_6 ⟨(Nat.le_of_ble_eq_true rfl), (Nat.le_of_ble_eq_true rfl)⟩ (fun y_10 σ9 H locs h hw => ?_)
    refine lv_ldc2 hx hb hown (hts _ (List.mem_of_getElem? (i := 1) rfl)) dX7_isSo_9 ?_
    refine W.lcmp hx hb dX7_isSo_12 ?_
    obtain ⟨hA, hB⟩ := h
    refine lv_if_le (tgt := 20) hx hb dX7_isSo_13 (by decide) (fun c11 => ?_) (fun c11 => ?_)
    · have h := hA c11
      refine lv_iconst (v := 0) hx hb dX7_isSo_20 (by decide) ?_
      exact ck_zret X hw h dX7_isSo_21
    · have h := hB c11
      refine lv_iconst (v := 1) hx hb dX7_isSo_16 (by decide) ?_
      refine lv_goto (tgt := 21) hx hb dX7_isSo_17 (by decide) ?_
      exact ck_zret X hw h dX7_isSo_21
set_option maxHeartbeats 4000000 in
set_option maxRecDepth 100000 in
theorem ct_X7_isSo (l : Launch) (G : ck_G) (hM : ck_inM G) {a0 : Int32} {σ : ck_S} {post : Int32 → ck_S → Prop} (h : sp_X7_isSo (ck_nc G) (ck_nb G) σ a0 post) : ck_Mi l yX7_isSo wsX7_isSo ({ frames := 3, cells := 0, slots := 0, locals := 77 } : Room) G σ [.ref (ck_ad G 10 0), .int a0] post := by
  intro sz
  refine Met.ofW (cc := cX7_isSo) (maxL := 7) (ret := (some .boolean)) (by decide) rfl ?_
  intro p e s m args below meth c s₁ B hml hv
  obtain ⟨rfl, rfl, hw⟩ := ck_enter hv
  have hl := lv_entry ([.ref (ck_ad G 10 0), .int a0]) (n := 7) (Nat.le_of_ble_eq_true rfl)
  rw [lg_entry_eq]
  generalize (lg_sl ([.ref (ck_ad G 10 0), .int a0]) ++ List.replicate (7 - (lg_sl ([.ref (ck_ad G 10 0), .int a0])).length) Slot.unset).toArray = ls at hl ⊢
  have hl : lv_has ls 7 [(0, .ref (ck_ad G 10 0)), (1, .int a0)] := hl
  exact wk_X7_isSo_0 ⟨B.exec, B.bytes, B.returns, hml, findClass_of_methodNamed B.named, atoms_spec (ws := wsX7_isSo) B.pre, B.notSynchronized⟩ hM h hw hl
def sp_X7_latch_24 (nc nb : Nat) (post : ck_S → Prop) (σ : ck_S) (x1 : Int32) (s0 : Int32) : Prop := (ck_b s0) ∧ ∀ σ2, σ2 = ck_ui σ 10 0 27 s0 → ∀ σ3, σ3 = ck_ui σ2 10 0 26 ((ck_gi σ2 10 0 26) ||| (1 <<< (x1 &&& 31))) → post σ3
def sp_X7_latch_19 (nc nb : Nat) (post : ck_S → Prop) (σ : ck_S) (x1 : Int32) : Prop := sp_X7_latch_24 nc nb post σ x1 1
def sp_X7_latch (nc nb : Nat) (σ : ck_S) (a0 : Int32) (post : ck_S → Prop) : Prop := ((¬ (ck_gi σ 10 0 27) = 0 → (sp_X7_latch_19 nc nb post σ a0)) ∧ ((ck_gi σ 10 0 27) = 0 → (((¬ (((ck_gi σ 10 0 26) >>> (a0 &&& 31)) &&& 1) = 0 → (sp_X7_latch_24 nc nb post σ a0 0)) ∧ ((((ck_gi σ 10 0 26) >>> (a0 &&& 31)) &&& 1) = 0 → (sp_X7_latch_19 nc nb post σ a0))))))
set_option maxHeartbeats 4000000 in
set_option maxRecDepth 100000 in
theorem wk_X7_latch_24 {p : Program} {l : Launch} {e : Env} {s : State} {m : MethodId} {args : Array Value} {below : List Frame} {meth : Method} {c : Code} {G : ck_G} (X : ck_X p s m meth c args cX7_latch 2 none RX7 wsX7_latch) (hM : ck_inM G) {post : ck_S → Prop} {σ : ck_S} {x1 : Int32} {s0 : Int32} {H : Heap} {locs : List Loc} {ls : Array Slot} (h : sp_X7_latch_24 (ck_nc G) (ck_nb G) post σ x1 s0) (hw : ck_H G s H locs σ) (hl : lv_has ls 2 [(0, .ref (ck_ad G 10 0)), (1, .int x1)]) : W p l e ({ frames := 0, cells := 0, slots := 0, locals := 0 } : Room) s m args below meth c H locs 0 0 (MQ below (va_Qv post (ck_Q G) (ck_A G s.heap.size)) args s 0 0 (ck_A G s.heap.size)) (F0 m 24 ls [.int s0, .ref (ck_ad G 10 0)]) := by
  obtain ⟨hx, hb, hr, hml, hown, hts, hlocks⟩ := id X
  have inX7 : ∀ w ∈ wsX70, w ∈ wsX7_latch := fun _ h => List.mem_cons_of_mem _ (List.mem_append_right _ (h))
  unfold sp_X7_latch_24 at h
  obtain ⟨n1, h⟩ := h
  refine ck_puti hx hb hts inX7 tyX7 tyX7_ok nmX7 hown hw (hM 10 (by decide) (by decide)) rfl rfl 27 (by decide) (hts _ (List.mem_of_getElem? (i := 1) rfl)) rfl (ck_b_n n1) (ck_b_f n1) (Nat.le_of_ble_eq_true rfl) rfl dX7_latch_24 (fun H locs hw => ?_)
  obtain ⟨σ2, eσ2⟩ : ∃ z : ck_S, z = ck_ui σ 10 0 27 s0 := ⟨_, rfl⟩
  rw [← eσ2] at hw
  have h := h σ2 eσ2
  refine lv_aload_n hx hb dX7_latch_27 rfl (lv_at hl 0 rfl) ?_
  refine lv_aload_n hx hb dX7_latch_28 rfl (lv_at hl 0 rfl) ?_
  refine ck_get hx hb hts inX7 hown hw (hM 10 (by decide) (by decide)) rfl rfl 26 (by decide) (hts _ (List.mem_of_getElem? (i := 2) rfl)) rfl dX7_latch_29 ?_
  refine lv_iconst (v := 1) hx hb dX7_latch_32 (by decide) ?_
  refine lv_iload_n hx hb dX7_latch_33 rfl (lv_at hl 1 rfl) ?_
  refine lv_ishl hx hb dX7_latch_34 ?_
  refine lv_ior hx hb dX7_latch_35 ?_
  refine ck_puti hx hb hts inX7 tyX7 tyX7_ok nmX7 hown hw (hM 10 (by decide) (by decide)) rfl rfl 26 (by decide) (hts _ (List.mem_of_getElem? (i := 2) rfl)) rfl rfl rfl (Nat.le_of_ble_eq_true rfl) rfl dX7_latch_36 (fun H locs hw => ?_)
  obtain ⟨σ3, eσ3⟩ : ∃ z : ck_S, z = ck_ui σ2 10 0 26 ((ck_gi σ2 10 0 26) ||| (1 <<< (x1 &&& 31))) := ⟨_, rfl⟩
  rw [← eσ3] at hw
  have h := h σ3 eσ3
  exact ck_vret X hw h dX7_latch_39
set_option maxHeartbeats 4000000 in
set_option maxRecDepth 100000 in
theorem wk_X7_latch_19 {p : Program} {l : Launch} {e : Env} {s : State} {m : MethodId} {args : Array Value} {below : List Frame} {meth : Method} {c : Code} {G : ck_G} (X : ck_X p s m meth c args cX7_latch 2 none RX7 wsX7_latch) (hM : ck_inM G) {post : ck_S → Prop} {σ : ck_S} {x1 : Int32} {H : Heap} {locs : List Loc} {ls : Array Slot} (h : sp_X7_latch_19 (ck_nc G) (ck_nb G) post σ x1) (hw : ck_H G s H locs σ) (hl : lv_has ls 2 [(0, .ref (ck_ad G 10 0)), (1, .int x1)]) : W p l e ({ frames := 0, cells := 0, slots := 0, locals := 0 } : Room) s m args below meth c H locs 0 0 (MQ below (va_Qv post (ck_Q G) (ck_A G s.heap.size)) args s 0 0 (ck_A G s.heap.size)) (F0 m 19 ls [.ref (ck_ad G 10 0)]) := by
  obtain ⟨hx, hb, hr, hml, hown, hts, hlocks⟩ := id X
  have inX7 : ∀ w ∈ wsX70, w ∈ wsX7_latch := fun _ h => List.mem_cons_of_mem _ (List.mem_append_right _ (h))
  unfold sp_X7_latch_19 at h
  refine lv_iconst (v := 1) hx hb dX7_latch_19 (by decide) ?_
  refine lv_goto (tgt := 24) hx hb dX7_latch_20 (by decide) ?_
  exact wk_X7_latch_24 X hM h hw (lv_sub hl [0, 1] rfl)
set_option maxHeartbeats 4000000 in
set_option maxRecDepth 100000 in
theorem wk_X7_latch_0 {p : Program} {l : Launch} {e : Env} {s : State} {m : MethodId} {args : Array Value} {below : List Frame} {meth : Method} {c : Code} {G : ck_G} (X : ck_X p s m meth c args cX7_latch 2 none RX7 wsX7_latch) (hM : ck_inM G) {post : ck_S → Prop} {σ : ck_S} {a0 : Int32} {H : Heap} {locs : List Loc} {ls : Array Slot} (h : sp_X7_latch (ck_nc G) (ck_nb G) σ a0 post) (hw : ck_H G s H locs σ) (hl : lv_has ls 2 [(0, .ref (ck_ad G 10 0)), (1, .int a0)]) : W p l e ({ frames := 0, cells := 0, slots := 0, locals := 0 } : Room) s m args below meth c H locs 0 0 (MQ below (va_Qv post (ck_Q G) (ck_A G s.heap.size)) args s 0 0 (ck_A G s.heap.size)) (F0 m 0 ls []) := by
  obtain ⟨hx, hb, hr, hml, hown, hts, hlocks⟩ := id X
  have inX7 : ∀ w ∈ wsX70, w ∈ wsX7_latch := fun _ h => List.mem_cons_of_mem _ (List.mem_append_right _ (h))
  unfold sp_X7_latch at h
  refine lv_aload_n hx hb dX7_latch_0 rfl (lv_at hl 0 rfl) ?_
  refine lv_aload_n hx hb dX7_latch_1 rfl (lv_at hl 0 rfl) ?_
  refine ck_get hx hb hts inX7 hown hw (hM 10 (by decide) (by decide)) rfl rfl 27 (by decide) (hts _ (List.mem_of_getElem? (i := 1) rfl)) rfl dX7_latch_2 ?_
  obtain ⟨hA, hB⟩ := h
  refine lv_if_ne (tgt := 19) hx hb dX7_latch_5 (by decide) (fun c1 => ?_) (fun c1 => ?_)
  · have h := hA c1
    exact wk_X7_latch_19 X hM h hw (lv_sub hl [0, 1] rfl)
  · have h := hB c1
    refine lv_aload_n hx hb dX7_latch_8 rfl (lv_at hl 0 rfl) ?_
    refine ck_get hx hb hts inX7 hown hw (hM 10 (by decide) (by decide)) rfl rfl 26 (by decide) (hts _ (List.mem_of_getElem? (i := 2) rfl)) rfl dX7_latch_9 ?_
    refine lv_iload_n hx hb dX7_latch_12 rfl (lv_at hl 1 rfl) ?_
    refine lv_ishr hx hb dX7_latch_13 ?_
    refine lv_iconst (v := 1) hx hb dX7_latch_14 (by decide) ?_
    refine lv_iand hx hb dX7_latch_15 ?_
    obtain ⟨hA, hB⟩ := h
    refine lv_if_ne (tgt := 23) hx hb dX7_latch_16 (by decide) (fun c2 => ?_) (fun c2 => ?_)
    · have h := hA c2
      refine lv_iconst (v := 0) hx hb dX7_latch_23 (by decide) ?_
      exact wk_X7_latch_24 X hM h hw (lv_sub hl [0, 1] rfl)
    · have h := hB c2
      exact wk_X7_latch_19 X hM h hw (lv_sub hl [0, 1] rfl)
set_option maxHeartbeats 4000000 in
set_option maxRecDepth 100000 in
theorem ct_X7_latch (l : Launch) (G : ck_G) (hM : ck_inM G) {a0 : Int32} {σ : ck_S} {post : ck_S → Prop} (h : sp_X7_latch (ck_nc G) (ck_nb G) σ a0 post) : ck_Mv l yX7_latch wsX7_latch ({ frames := 0, cells := 0, slots := 0, locals := 0 } : Room) G σ [.ref (ck_ad G 10 0), .int a0] post := by
  intro sz
  refine Met.ofW (cc := cX7_latch) (maxL := 2) (ret := none) (by decide) rfl ?_
  intro p e s m args below meth c s₁ B hml hv
  obtain ⟨rfl, rfl, hw⟩ := ck_enter hv
  have hl := lv_entry ([.ref (ck_ad G 10 0), .int a0]) (n := 2) (Nat.le_of_ble_eq_true rfl)
  rw [lg_entry_eq]
  generalize (lg_sl ([.ref (ck_ad G 10 0), .int a0]) ++ List.replicate (2 - (lg_sl ([.ref (ck_ad G 10 0), .int a0])).length) Slot.unset).toArray = ls at hl ⊢
  have hl : lv_has ls 2 [(0, .ref (ck_ad G 10 0)), (1, .int a0)] := hl
  exact wk_X7_latch_0 ⟨B.exec, B.bytes, B.returns, hml, findClass_of_methodNamed B.named, atoms_spec (ws := wsX7_latch) B.pre, B.notSynchronized⟩ hM h hw hl
def sp_X7_isSerious (nc nb : Nat) (σ : ck_S) (post : Int32 → ck_S → Prop) : Prop := ((((ck_gi σ 10 0 26) &&& (-35)) = 0 → ((ck_b 0 ∧ post 0 σ))) ∧ (¬ ((ck_gi σ 10 0 26) &&& (-35)) = 0 → ((ck_b 1 ∧ post 1 σ))))
set_option maxHeartbeats 4000000 in
set_option maxRecDepth 100000 in
theorem wk_X7_isSerious_0 {p : Program} {l : Launch} {e : Env} {s : State} {m : MethodId} {args : Array Value} {below : List Frame} {meth : Method} {c : Code} {G : ck_G} (X : ck_X p s m meth c args cX7_isSerious 1 (some .boolean) RX7 wsX7_isSerious) (hM : ck_inM G) {post : Int32 → ck_S → Prop} {σ : ck_S} {H : Heap} {locs : List Loc} {ls : Array Slot} (h : sp_X7_isSerious (ck_nc G) (ck_nb G) σ post) (hw : ck_H G s H locs σ) (hl : lv_has ls 1 [(0, .ref (ck_ad G 10 0))]) : W p l e ({ frames := 0, cells := 0, slots := 0, locals := 0 } : Room) s m args below meth c H locs 0 0 (MQ below (va_Qi post (ck_Q G) (ck_A G s.heap.size)) args s 0 0 (ck_A G s.heap.size)) (F0 m 0 ls []) := by
  obtain ⟨hx, hb, hr, hml, hown, hts, hlocks⟩ := id X
  have inX7 : ∀ w ∈ wsX70, w ∈ wsX7_isSerious := fun _ h => List.mem_cons_of_mem _ (List.mem_append_right _ (h))
  unfold sp_X7_isSerious at h
  refine lv_aload_n hx hb dX7_isSerious_0 rfl (lv_at hl 0 rfl) ?_
  refine ck_get hx hb hts inX7 hown hw (hM 10 (by decide) (by decide)) rfl rfl 26 (by decide) (hts _ (List.mem_of_getElem? (i := 1) rfl)) rfl dX7_isSerious_1 ?_
  refine lv_bipush (v := (-35)) hx hb dX7_isSerious_4 (by decide) ?_
  refine lv_iand hx hb dX7_isSerious_6 ?_
  obtain ⟨hA, hB⟩ := h
  refine lv_if_eq (tgt := 14) hx hb dX7_isSerious_7 (by decide) (fun c1 => ?_) (fun c1 => ?_)
  · have h := hA c1
    refine lv_iconst (v := 0) hx hb dX7_isSerious_14 (by decide) ?_
    exact ck_zret X hw h dX7_isSerious_15
  · have h := hB c1
    refine lv_iconst (v := 1) hx hb dX7_isSerious_10 (by decide) ?_
    refine lv_goto (tgt := 15) hx hb dX7_isSerious_11 (by decide) ?_
    exact ck_zret X hw h dX7_isSerious_15
set_option maxHeartbeats 4000000 in
set_option maxRecDepth 100000 in
theorem ct_X7_isSerious (l : Launch) (G : ck_G) (hM : ck_inM G) {σ : ck_S} {post : Int32 → ck_S → Prop} (h : sp_X7_isSerious (ck_nc G) (ck_nb G) σ post) : ck_Mi l yX7_isSerious wsX7_isSerious ({ frames := 0, cells := 0, slots := 0, locals := 0 } : Room) G σ [.ref (ck_ad G 10 0)] post := by
  intro sz
  refine Met.ofW (cc := cX7_isSerious) (maxL := 1) (ret := (some .boolean)) (by decide) rfl ?_
  intro p e s m args below meth c s₁ B hml hv
  obtain ⟨rfl, rfl, hw⟩ := ck_enter hv
  have hl := lv_entry ([.ref (ck_ad G 10 0)]) (n := 1) (Nat.le_of_ble_eq_true rfl)
  rw [lg_entry_eq]
  generalize (lg_sl ([.ref (ck_ad G 10 0)]) ++ List.replicate (1 - (lg_sl ([.ref (ck_ad G 10 0)])).length) Slot.unset).toArray = ls at hl ⊢
  have hl : lv_has ls 1 [(0, .ref (ck_ad G 10 0))] := hl
  exact wk_X7_isSerious_0 ⟨B.exec, B.bytes, B.returns, hml, findClass_of_methodNamed B.named, atoms_spec (ws := wsX7_isSerious) B.pre, B.notSynchronized⟩ hM h hw hl
def sp_X7_causes_70 (nc nb : Nat) (post : ck_S → Prop) (K2 : ck_S → Int32 → Prop) (σ : ck_S) (x1 : Int32) : Prop := ∀ x_1, x_1 = x1 + 1 → K2 σ x_1
def sp_X7_causes_51 (nc nb : Nat) (post : ck_S → Prop) (K2 : ck_S → Int32 → Prop) (σ : ck_S) (x1 : Int32) (s0 : Int32) (s1 : Int32) : Prop := (vp_in s1 7) ∧ ∀ σ2, σ2 = ck_ui σ 19 0 (Int32.toNatClampNeg s1) s0 → (vp_in x1 7) ∧ (((ck_gi σ2 19 0 (Int32.toNatClampNeg x1)) < (ck_gi σ2 10 0 4) → (sp_X7_causes_70 nc nb post K2 σ2 x1)) ∧ (¬ (ck_gi σ2 19 0 (Int32.toNatClampNeg x1)) < (ck_gi σ2 10 0 4) → (sp_X7_latch nc nb σ2 x1 (fun σ5 => sp_X7_causes_70 nc nb post K2 σ5 x1))))
def bd_X7_causes_2 (nc nb : Nat) (post : ck_S → Prop) (K2 : ck_S → Int32 → Prop) (σ : ck_S) (x1 : Int32) : Prop := ((7 ≤ x1 → (post σ)) ∧ (¬ 7 ≤ x1 → (sp_X7_isSo nc nb σ x1 (fun x_3 σ2 => ((¬ x_3 = 0 → ((vp_in x1 7) ∧ ((255 ≤ (ck_gi σ2 19 0 (Int32.toNatClampNeg x1)) → (sp_X7_causes_51 nc nb post K2 σ2 x1 255 x1)) ∧ (¬ 255 ≤ (ck_gi σ2 19 0 (Int32.toNatClampNeg x1)) → ((vp_in x1 7) ∧ sp_X7_causes_51 nc nb post K2 σ2 x1 ((ck_gi σ2 19 0 (Int32.toNatClampNeg x1)) + 1) x1))))) ∧ (x_3 = 0 → (sp_X7_causes_51 nc nb post K2 σ2 x1 0 x1)))))))
def sp_X7_causes (nc nb : Nat) (σ : ck_S) (post : ck_S → Prop) : Prop := lx_2 (bd_X7_causes_2 nc nb post) σ 0
set_option maxHeartbeats 4000000 in
set_option maxRecDepth 100000 in
theorem wk_X7_causes_70 {p : Program} {l : Launch} {e : Env} {s : State} {m : MethodId} {args : Array Value} {below : List Frame} {meth : Method} {c : Code} {G : ck_G} (X : ck_X p s m meth c args cX7_causes 2 none RX7 wsX7_causes) (hM : ck_inM G) {post : ck_S → Prop} {K2 : ck_S → Int32 → Prop} (hK2 : ∀ (σ : ck_S) (x1 : Int32) (H : Heap) (locs : List Loc) (ls : Array Slot), K2 σ x1 → ck_H G s H locs σ → lv_has ls 2 [(0, .ref (ck_ad G 10 0)), (1, .int x1)] → W p l e ({ frames := 4, cells := 0, slots := 0, locals := 103 } : Room) s m args below meth c H locs 0 0 (MQ below (va_Qv post (ck_Q G) (ck_A G s.heap.size)) args s 0 0 (ck_A G s.heap.size)) (F0 m 2 ls [])) {σ : ck_S} {x1 : Int32} {H : Heap} {locs : List Loc} {ls : Array Slot} (h : sp_X7_causes_70 (ck_nc G) (ck_nb G) post K2 σ x1) (hw : ck_H G s H locs σ) (hl : lv_has ls 2 [(0, .ref (ck_ad G 10 0)), (1, .int x1)]) : W p l e ({ frames := 4, cells := 0, slots := 0, locals := 103 } : Room) s m args below meth c H locs 0 0 (MQ below (va_Qv post (ck_Q G) (ck_A G s.heap.size)) args s 0 0 (ck_A G s.heap.size)) (F0 m 70 ls []) := by
  obtain ⟨hx, hb, hr, hml, hown, hts, hlocks⟩ := id X
  have inX7 : ∀ w ∈ wsX70, w ∈ wsX7_causes := fun _ h => List.mem_cons_of_mem _ (List.mem_append_right _ (h))
  unfold sp_X7_causes_70 at h
  obtain ⟨x_1, ex_1⟩ : ∃ z : Int32, z = x1 + 1 := ⟨_, rfl⟩
  have h := h x_1 ex_1
  refine lv_iinc (v := x_1) (lv' := [(1, .int x_1), (0, .ref (ck_ad G 10 0))]) hx hb dX7_causes_70 hl (k := 1) rfl (by rw [ex_1]; rfl) (by decide) rfl (fun ls hl => ?_)
  refine lv_goto (tgt := 2) hx hb dX7_causes_73 (by decide) ?_
  exact hK2 _ _ _ _ _ h hw (lv_sub hl [1, 0] rfl)
set_option maxHeartbeats 4000000 in
set_option maxRecDepth 100000 in
theorem wk_X7_causes_51 {p : Program} {l : Launch} {e : Env} {s : State} {m : MethodId} {args : Array Value} {below : List Frame} {meth : Method} {c : Code} {G : ck_G} (X : ck_X p s m meth c args cX7_causes 2 none RX7 wsX7_causes) (hM : ck_inM G) {post : ck_S → Prop} {K2 : ck_S → Int32 → Prop} (hK2 : ∀ (σ : ck_S) (x1 : Int32) (H : Heap) (locs : List Loc) (ls : Array Slot), K2 σ x1 → ck_H G s H locs σ → lv_has ls 2 [(0, .ref (ck_ad G 10 0)), (1, .int x1)] → W p l e ({ frames := 4, cells := 0, slots := 0, locals := 103 } : Room) s m args below meth c H locs 0 0 (MQ below (va_Qv post (ck_Q G) (ck_A G s.heap.size)) args s 0 0 (ck_A G s.heap.size)) (F0 m 2 ls [])) {σ : ck_S} {x1 : Int32} {s0 : Int32} {s1 : Int32} {H : Heap} {locs : List Loc} {ls : Array Slot} (h : sp_X7_causes_51 (ck_nc G) (ck_nb G) post K2 σ x1 s0 s1) (hw : ck_H G s H locs σ) (hl : lv_has ls 2 [(0, .ref (ck_ad G 10 0)), (1, .int x1)]) : W p l e ({ frames := 4, cells := 0, slots := 0, locals := 103 } : Room) s m args below meth c H locs 0 0 (MQ below (va_Qv post (ck_Q G) (ck_A G s.heap.size)) args s 0 0 (ck_A G s.heap.size)) (F0 m 51 ls [.int s0, .int s1, .ref (ck_ad G 19 0)]) := by
  obtain ⟨hx, hb, hr, hml, hown, hts, hlocks⟩ := id X
  have inX7 : ∀ w ∈ wsX70, w ∈ wsX7_causes := fun _ h => List.mem_cons_of_mem _ (List.mem_append_right _ (h))
  unfold sp_X7_causes_51 at h
  obtain ⟨n1, h⟩ := h
  refine ck_iast hx hb hw (hM 19 (by decide) (by decide)) (fun _ => rfl) n1 dX7_causes_51 (fun H locs hw => ?_)
  obtain ⟨σ2, eσ2⟩ : ∃ z : ck_S, z = ck_ui σ 19 0 (Int32.toNatClampNeg s1) s0 := ⟨_, rfl⟩
  rw [← eσ2] at hw
  have h := h σ2 eσ2
  refine lv_aload_n hx hb dX7_causes_52 rfl (lv_at hl 0 rfl) ?_
  refine ck_get hx hb hts inX7 hown hw (hM 10 (by decide) (by decide)) rfl rfl 25 (by decide) (hts _ (List.mem_of_getElem? (i := 1) rfl)) rfl dX7_causes_53 ?_
  refine lv_iload_n hx hb dX7_causes_56 rfl (lv_at hl 1 rfl) ?_
  obtain ⟨n3, h⟩ := h
  refine ck_iald hx hb hw (hM 19 (by decide) (by decide)) rfl n3 dX7_causes_57 ?_
  refine lv_aload_n hx hb dX7_causes_58 rfl (lv_at hl 0 rfl) ?_
  refine ck_get hx hb hts inX7 hown hw (hM 10 (by decide) (by decide)) rfl rfl 4 (by decide) (hts _ (List.mem_of_getElem? (i := 2) rfl)) rfl dX7_causes_59 ?_
  obtain ⟨hA, hB⟩ := h
  refine lv_icmp_lt (tgt := 70) hx hb dX7_causes_62 (by decide) (fun c4 => ?_) (fun c4 => ?_)
  · have h := hA c4
    exact wk_X7_causes_70 X hM hK2 h hw (lv_sub hl [0, 1] rfl)
  · have h := hB c4
    refine lv_aload_n hx hb dX7_causes_65 rfl (lv_at hl 0 rfl) ?_
    refine lv_iload_n hx hb dX7_causes_66 rfl (lv_at hl 1 rfl) ?_
    refine ck_callVv (rest := []) ⟨hx, hb, hml, hown, hts⟩ hw (hM 10 (by decide) (by decide)) rfl rfl (ct_X7_latch l G hM h) (cwV 1 hts gX7_causes_X7_latch rfl rfl rfl (by decide +kernel) ⟨(Nat.le_of_ble_eq_true rfl), (Nat.le_of_ble_eq_true rfl)⟩) rfl hl.1 rfl (Nat.le_of_ble_eq_true rfl) dX7_causes_67 ⟨(Nat.le_of_ble_eq_true rfl), (Nat.le_of_ble_eq_true rfl)⟩ (fun σ5 H locs h hw => ?_)
    exact wk_X7_causes_70 X hM hK2 h hw (lv_sub hl [0, 1] rfl)
set_option maxHeartbeats 4000000 in
set_option maxRecDepth 100000 in
theorem wk_X7_causes_2 {p : Program} {l : Launch} {e : Env} {s : State} {m : MethodId} {args : Array Value} {below : List Frame} {meth : Method} {c : Code} {G : ck_G} (X : ck_X p s m meth c args cX7_causes 2 none RX7 wsX7_causes) (hM : ck_inM G) {post : ck_S → Prop} : ∀ (fu : Nat) (σ : ck_S) (x1 : Int32) (H : Heap) (locs : List Loc) (ls : Array Slot), lk_2 (bd_X7_causes_2 (ck_nc G) (ck_nb G) post) fu σ x1 → ck_H G s H locs σ → lv_has ls 2 [(0, .ref (ck_ad G 10 0)), (1, .int x1)] → W p l e ({ frames := 4, cells := 0, slots := 0, locals := 103 } : Room) s m args below meth c H locs 0 0 (MQ below (va_Qv post (ck_Q G) (ck_A G s.heap.size)) args s 0 0 (ck_A G s.heap.size)) (F0 m 2 ls []) := by
  obtain ⟨hx, hb, hr, hml, hown, hts, hlocks⟩ := id X
  have inX7 : ∀ w ∈ wsX70, w ∈ wsX7_causes := fun _ h => List.mem_cons_of_mem _ (List.mem_append_right _ (h))
  intro fu
  induction fu with
  | zero => intro σ x1 H locs ls h hw hl; exact h.elim
  | succ fu hK2 =>
    intro σ x1 H locs ls h hw hl
    have h : bd_X7_causes_2 (ck_nc G) (ck_nb G) post (lk_2 (bd_X7_causes_2 (ck_nc G) (ck_nb G) post) fu) σ x1 := h
    unfold bd_X7_causes_2 at h
    refine lv_iload_n hx hb dX7_causes_2 rfl (lv_at hl 1 rfl) ?_
    refine lv_bipush (v := 7) hx hb dX7_causes_3 (by decide) ?_
    obtain ⟨hA, hB⟩ := h
    refine lv_icmp_ge (tgt := 76) hx hb dX7_causes_5 (by decide) (fun c1 => ?_) (fun c1 => ?_)
    · have h := hA c1
      exact ck_vret X hw h dX7_causes_76
    · have h := hB c1
      refine lv_aload_n hx hb dX7_causes_8 rfl (lv_at hl 0 rfl) ?_
      refine ck_get hx hb hts inX7 hown hw (hM 10 (by decide) (by decide)) rfl rfl 25 (by decide) (hts _ (List.mem_of_getElem? (i := 1) rfl)) rfl dX7_causes_9 ?_
      refine lv_iload_n hx hb dX7_causes_12 rfl (lv_at hl 1 rfl) ?_
      refine lv_aload_n hx hb dX7_causes_13 rfl (lv_at hl 0 rfl) ?_
      refine lv_iload_n hx hb dX7_causes_14 rfl (lv_at hl 1 rfl) ?_
      refine ck_callVi (rest := [.int x1, .ref (ck_ad G 19 0)]) ⟨hx, hb, hml, hown, hts⟩ hw (hM 10 (by decide) (by decide)) rfl rfl (ct_X7_isSo l G hM h) (cwV 1 hts gX7_causes_X7_isSo rfl rfl rfl (by decide +kernel) ⟨(Nat.le_of_ble_eq_true rfl), (Nat.le_of_ble_eq_true rfl)⟩) rfl hl.1 rfl (Nat.le_of_ble_eq_true rfl) dX7_causes_15 ⟨(Nat.le_of_ble_eq_true rfl), (Nat.le_of_ble_eq_true rfl)⟩ (fun x_3 σ2 H locs h hw => ?_)
      obtain ⟨hA, hB⟩ := h
      refine lv_if_ne (tgt := 25) hx hb dX7_causes_18 (by decide) (fun c4 => ?_) (fun c4 => ?_)
      · have h := hA c4
        refine lv_aload_n hx hb dX7_causes_25 rfl (lv_at hl 0 rfl) ?_
        refine ck_get hx hb hts inX7 hown hw (hM 10 (by decide) (by decide)) rfl rfl 25 (by decide) (hts _ (List.mem_of_getElem? (i := 1) rfl)) rfl dX7_causes_26 ?_
        refine lv_iload_n hx hb dX7_causes_29 rfl (lv_at hl 1 rfl) ?_
        obtain ⟨n5, h⟩ := h
        refine ck_iald hx hb hw (hM 19 (by decide) (by decide)) rfl n5 dX7_causes_30 ?_
        refine lv_sipush (v := 255) hx hb dX7_causes_31 (by decide) ?_
        obtain ⟨hA, hB⟩ := h
        refine lv_icmp_ge (tgt := 48) hx hb dX7_causes_34 (by decide) (fun c6 => ?_) (fun c6 => ?_)
        · have h := hA c6
          refine lv_sipush (v := 255) hx hb dX7_causes_48 (by decide) ?_
          exact wk_X7_causes_51 X hM hK2 h hw (lv_sub hl [0, 1] rfl)
        · have h := hB c6
          refine lv_aload_n hx hb dX7_causes_37 rfl (lv_at hl 0 rfl) ?_
          refine ck_get hx hb hts inX7 hown hw (hM 10 (by decide) (by decide)) rfl rfl 25 (by decide) (hts _ (List.mem_of_getElem? (i := 1) rfl)) rfl dX7_causes_38 ?_
          refine lv_iload_n hx hb dX7_causes_41 rfl (lv_at hl 1 rfl) ?_
          obtain ⟨n7, h⟩ := h
          refine ck_iald hx hb hw (hM 19 (by decide) (by decide)) rfl n7 dX7_causes_42 ?_
          refine lv_iconst (v := 1) hx hb dX7_causes_43 (by decide) ?_
          refine lv_iadd hx hb dX7_causes_44 ?_
          refine lv_goto (tgt := 51) hx hb dX7_causes_45 (by decide) ?_
          exact wk_X7_causes_51 X hM hK2 h hw (lv_sub hl [0, 1] rfl)
      · have h := hB c4
        refine lv_iconst (v := 0) hx hb dX7_causes_21 (by decide) ?_
        refine lv_goto (tgt := 51) hx hb dX7_causes_22 (by decide) ?_
        exact wk_X7_causes_51 X hM hK2 h hw (lv_sub hl [0, 1] rfl)
set_option maxHeartbeats 4000000 in
set_option maxRecDepth 100000 in
theorem wk_X7_causes_0 {p : Program} {l : Launch} {e : Env} {s : State} {m : MethodId} {args : Array Value} {below : List Frame} {meth : Method} {c : Code} {G : ck_G} (X : ck_X p s m meth c args cX7_causes 2 none RX7 wsX7_causes) (hM : ck_inM G) {post : ck_S → Prop} {σ : ck_S} {H : Heap} {locs : List Loc} {ls : Array Slot} (h : sp_X7_causes (ck_nc G) (ck_nb G) σ post) (hw : ck_H G s H locs σ) (hl : lv_has ls 2 [(0, .ref (ck_ad G 10 0))]) : W p l e ({ frames := 4, cells := 0, slots := 0, locals := 103 } : Room) s m args below meth c H locs 0 0 (MQ below (va_Qv post (ck_Q G) (ck_A G s.heap.size)) args s 0 0 (ck_A G s.heap.size)) (F0 m 0 ls []) := by
  obtain ⟨hx, hb, hr, hml, hown, hts, hlocks⟩ := id X
  have inX7 : ∀ w ∈ wsX70, w ∈ wsX7_causes := fun _ h => List.mem_cons_of_mem _ (List.mem_append_right _ (h))
  unfold sp_X7_causes at h
  refine lv_iconst (v := 0) hx hb dX7_causes_0 (by decide) ?_
  refine lv_istore_n (lv' := [(1, .int 0), (0, .ref (ck_ad G 10 0))]) hx hb dX7_causes_1 rfl hl (by decide) rfl (fun ls hl => ?_)
  obtain ⟨fu, h⟩ := h
  exact wk_X7_causes_2 X hM fu _ _ _ _ _ h hw (lv_sub hl [1, 0] rfl)
set_option maxHeartbeats 4000000 in
set_option maxRecDepth 100000 in
theorem ct_X7_causes (l : Launch) (G : ck_G) (hM : ck_inM G) {σ : ck_S} {post : ck_S → Prop} (h : sp_X7_causes (ck_nc G) (ck_nb G) σ post) : ck_Mv l yX7_causes wsX7_causes ({ frames := 4, cells := 0, slots := 0, locals := 103 } : Room) G σ [.ref (ck_ad G 10 0)] post := by
  intro sz
  refine Met.ofW (cc := cX7_causes) (maxL := 2) (ret := none) (by decide) rfl ?_
  intro p e s m args below meth c s₁ B hml hv
  obtain ⟨rfl, rfl, hw⟩ := ck_enter hv
  have hl := lv_entry ([.ref (ck_ad G 10 0)]) (n := 2) (Nat.le_of_ble_eq_true rfl)
  rw [lg_entry_eq]
  generalize (lg_sl ([.ref (ck_ad G 10 0)]) ++ List.replicate (2 - (lg_sl ([.ref (ck_ad G 10 0)])).length) Slot.unset).toArray = ls at hl ⊢
  have hl : lv_has ls 2 [(0, .ref (ck_ad G 10 0))] := hl
  exact wk_X7_causes_0 ⟨B.exec, B.bytes, B.returns, hml, findClass_of_methodNamed B.named, atoms_spec (ws := wsX7_causes) B.pre, B.notSynchronized⟩ hM h hw hl
def sp_X7_become (nc nb : Nat) (σ : ck_S) (a0 : Int32) (post : ck_S → Prop) : Prop := ∀ σ1, σ1 = ck_ui σ 10 0 28 a0 → ∀ σ2, σ2 = ck_ui σ1 10 0 29 0 → post σ2
set_option maxHeartbeats 4000000 in
set_option maxRecDepth 100000 in
theorem wk_X7_become_0 {p : Program} {l : Launch} {e : Env} {s : State} {m : MethodId} {args : Array Value} {below : List Frame} {meth : Method} {c : Code} {G : ck_G} (X : ck_X p s m meth c args cX7_become 2 none RX7 wsX7_become) (hM : ck_inM G) {post : ck_S → Prop} {σ : ck_S} {a0 : Int32} {H : Heap} {locs : List Loc} {ls : Array Slot} (h : sp_X7_become (ck_nc G) (ck_nb G) σ a0 post) (hw : ck_H G s H locs σ) (hl : lv_has ls 2 [(0, .ref (ck_ad G 10 0)), (1, .int a0)]) : W p l e ({ frames := 0, cells := 0, slots := 0, locals := 0 } : Room) s m args below meth c H locs 0 0 (MQ below (va_Qv post (ck_Q G) (ck_A G s.heap.size)) args s 0 0 (ck_A G s.heap.size)) (F0 m 0 ls []) := by
  obtain ⟨hx, hb, hr, hml, hown, hts, hlocks⟩ := id X
  have inX7 : ∀ w ∈ wsX70, w ∈ wsX7_become := fun _ h => List.mem_cons_of_mem _ (List.mem_append_right _ (h))
  unfold sp_X7_become at h
  refine lv_aload_n hx hb dX7_become_0 rfl (lv_at hl 0 rfl) ?_
  refine lv_iload_n hx hb dX7_become_1 rfl (lv_at hl 1 rfl) ?_
  refine ck_puti hx hb hts inX7 tyX7 tyX7_ok nmX7 hown hw (hM 10 (by decide) (by decide)) rfl rfl 28 (by decide) (hts _ (List.mem_of_getElem? (i := 1) rfl)) rfl rfl rfl (Nat.le_of_ble_eq_true rfl) rfl dX7_become_2 (fun H locs hw => ?_)
  obtain ⟨σ1, eσ1⟩ : ∃ z : ck_S, z = ck_ui σ 10 0 28 a0 := ⟨_, rfl⟩
  rw [← eσ1] at hw
  have h := h σ1 eσ1
  refine lv_aload_n hx hb dX7_become_5 rfl (lv_at hl 0 rfl) ?_
  refine lv_iconst (v := 0) hx hb dX7_become_6 (by decide) ?_
  refine ck_puti hx hb hts inX7 tyX7 tyX7_ok nmX7 hown hw (hM 10 (by decide) (by decide)) rfl rfl 29 (by decide) (hts _ (List.mem_of_getElem? (i := 2) rfl)) rfl rfl rfl (Nat.le_of_ble_eq_true rfl) rfl dX7_become_7 (fun H locs hw => ?_)
  obtain ⟨σ2, eσ2⟩ : ∃ z : ck_S, z = ck_ui σ1 10 0 29 0 := ⟨_, rfl⟩
  rw [← eσ2] at hw
  have h := h σ2 eσ2
  exact ck_vret X hw h dX7_become_10
set_option maxHeartbeats 4000000 in
set_option maxRecDepth 100000 in
theorem ct_X7_become (l : Launch) (G : ck_G) (hM : ck_inM G) {a0 : Int32} {σ : ck_S} {post : ck_S → Prop} (h : sp_X7_become (ck_nc G) (ck_nb G) σ a0 post) : ck_Mv l yX7_become wsX7_become ({ frames := 0, cells := 0, slots := 0, locals := 0 } : Room) G σ [.ref (ck_ad G 10 0), .int a0] post := by
  intro sz
  refine Met.ofW (cc := cX7_become) (maxL := 2) (ret := none) (by decide) rfl ?_
  intro p e s m args below meth c s₁ B hml hv
  obtain ⟨rfl, rfl, hw⟩ := ck_enter hv
  have hl := lv_entry ([.ref (ck_ad G 10 0), .int a0]) (n := 2) (Nat.le_of_ble_eq_true rfl)
  rw [lg_entry_eq]
  generalize (lg_sl ([.ref (ck_ad G 10 0), .int a0]) ++ List.replicate (2 - (lg_sl ([.ref (ck_ad G 10 0), .int a0])).length) Slot.unset).toArray = ls at hl ⊢
  have hl : lv_has ls 2 [(0, .ref (ck_ad G 10 0)), (1, .int a0)] := hl
  exact wk_X7_become_0 ⟨B.exec, B.bytes, B.returns, hml, findClass_of_methodNamed B.named, atoms_spec (ws := wsX7_become) B.pre, B.notSynchronized⟩ hM h hw hl
def sp_X7_contactors_176 (nc nb : Nat) (post : ck_S → Prop) (σ : ck_S) : Prop := ((¬ (ck_gi σ 10 0 28) = 4 → (post σ)) ∧ ((ck_gi σ 10 0 28) = 4 → ((((ck_gi σ 10 0 29) < 3 → (post σ)) ∧ (¬ (ck_gi σ 10 0 29) < 3 → (sp_X7_become nc nb σ 0 (fun σ3 => sp_X7_sum nc nb σ3 (fun x_6 σ5 => (((lg_cmp (2 * ((ck_gi σ3 10 0 15).toInt64)) (x_6.toInt64)) ≤ 0 → (post σ5)) ∧ (¬ (lg_cmp (2 * ((ck_gi σ3 10 0 15).toInt64)) (x_6.toInt64)) ≤ 0 → (sp_X7_latch nc nb σ5 8 (fun σ8 => post σ8))))))))))))
def sp_X7_contactors_145 (nc nb : Nat) (post : ck_S → Prop) (σ : ck_S) : Prop := ((¬ (ck_gi σ 10 0 28) = 2 → (sp_X7_contactors_176 nc nb post σ)) ∧ ((ck_gi σ 10 0 28) = 2 → ((((ck_gi σ 10 0 29) < 30 → (sp_X7_contactors_176 nc nb post σ)) ∧ (¬ (ck_gi σ 10 0 29) < 30 → (sp_X7_latch nc nb σ 7 (fun σ3 => sp_X7_become nc nb σ3 4 (fun σ5 => post σ5))))))))
def sp_X7_contactors_100 (nc nb : Nat) (post : ck_S → Prop) (σ : ck_S) : Prop := ((¬ (ck_gi σ 10 0 28) = 2 → (sp_X7_contactors_145 nc nb post σ)) ∧ ((ck_gi σ 10 0 28) = 2 → (sp_X7_areAllValid nc nb σ (fun x_3 σ2 => ((x_3 = 0 → (sp_X7_contactors_145 nc nb post σ2)) ∧ (¬ x_3 = 0 → (sp_X7_sum nc nb σ2 (fun x_6 σ5 => (((lg_cmp (20 * ((ck_gi σ2 10 0 15).toInt64)) (19 * (x_6.toInt64))) < 0 → (sp_X7_contactors_145 nc nb post σ5)) ∧ (¬ (lg_cmp (20 * ((ck_gi σ2 10 0 15).toInt64)) (19 * (x_6.toInt64))) < 0 → (sp_X7_become nc nb σ5 3 (fun σ8 => post σ8))))))))))))
def sp_X7_contactors_76 (nc nb : Nat) (post : ck_S → Prop) (σ : ck_S) : Prop := ((¬ (ck_gi σ 10 0 28) = 1 → (sp_X7_contactors_100 nc nb post σ)) ∧ ((ck_gi σ 10 0 28) = 1 → ((((ck_gi σ 10 0 29) < 2 → (sp_X7_contactors_100 nc nb post σ)) ∧ (¬ (ck_gi σ 10 0 29) < 2 → (sp_X7_become nc nb σ 2 (fun σ3 => post σ3)))))))
def sp_X7_contactors_57 (nc nb : Nat) (post : ck_S → Prop) (σ : ck_S) (x1 : Int32) : Prop := ((¬ (ck_gi σ 10 0 28) = 0 → (sp_X7_contactors_76 nc nb post σ)) ∧ ((ck_gi σ 10 0 28) = 0 → (((x1 = 0 → (sp_X7_contactors_76 nc nb post σ)) ∧ (¬ x1 = 0 → (sp_X7_become nc nb σ 1 (fun σ3 => post σ3)))))))
def sp_X7_contactors_29 (nc nb : Nat) (post : ck_S → Prop) (σ : ck_S) (s0 : Int32) : Prop := (((ck_gi σ 10 0 28) ≤ 0 → (sp_X7_contactors_57 nc nb post σ s0)) ∧ (¬ (ck_gi σ 10 0 28) ≤ 0 → (((4 ≤ (ck_gi σ 10 0 28) → (sp_X7_contactors_57 nc nb post σ s0)) ∧ (¬ 4 ≤ (ck_gi σ 10 0 28) → (((¬ s0 = 0 → (sp_X7_contactors_57 nc nb post σ s0)) ∧ (s0 = 0 → (sp_X7_become nc nb σ 4 (fun σ4 => post σ4))))))))))
def sp_X7_contactors_28 (nc nb : Nat) (post : ck_S → Prop) (σ : ck_S) : Prop := sp_X7_contactors_29 nc nb post σ 0
def sp_X7_contactors (nc nb : Nat) (σ : ck_S) (post : ck_S → Prop) : Prop := ∀ σ1, σ1 = ck_ui σ 10 0 29 ((ck_gi σ 10 0 29) + 1) → (((ck_gi σ1 10 0 16) = 0 → (sp_X7_contactors_28 nc nb post σ1)) ∧ (¬ (ck_gi σ1 10 0 16) = 0 → (sp_X7_isSerious nc nb σ1 (fun x_4 σ3 => ((¬ x_4 = 0 → (sp_X7_contactors_28 nc nb post σ3)) ∧ (x_4 = 0 → (sp_X7_contactors_29 nc nb post σ3 1)))))))
set_option maxHeartbeats 4000000 in
set_option maxRecDepth 100000 in
theorem wk_X7_contactors_176 {p : Program} {l : Launch} {e : Env} {s : State} {m : MethodId} {args : Array Value} {below : List Frame} {meth : Method} {c : Code} {G : ck_G} (X : ck_X p s m meth c args cX7_contactors 2 none RX7 wsX7_contactors) (hM : ck_inM G) {post : ck_S → Prop} {σ : ck_S} {H : Heap} {locs : List Loc} {ls : Array Slot} (h : sp_X7_contactors_176 (ck_nc G) (ck_nb G) post σ) (hw : ck_H G s H locs σ) (hl : lv_has ls 2 [(0, .ref (ck_ad G 10 0))]) : W p l e ({ frames := 4, cells := 0, slots := 0, locals := 99 } : Room) s m args below meth c H locs 0 0 (MQ below (va_Qv post (ck_Q G) (ck_A G s.heap.size)) args s 0 0 (ck_A G s.heap.size)) (F0 m 176 ls []) := by
  obtain ⟨hx, hb, hr, hml, hown, hts, hlocks⟩ := id X
  have inX7 : ∀ w ∈ wsX70, w ∈ wsX7_contactors := fun _ h => List.mem_cons_of_mem _ (List.mem_append_right _ (h))
  unfold sp_X7_contactors_176 at h
  refine lv_aload_n hx hb dX7_contactors_176 rfl (lv_at hl 0 rfl) ?_
  refine ck_get hx hb hts inX7 hown hw (hM 10 (by decide) (by decide)) rfl rfl 28 (by decide) (hts _ (List.mem_of_getElem? (i := 3) rfl)) rfl dX7_contactors_177 ?_
  refine lv_iconst (v := 4) hx hb dX7_contactors_180 (by decide) ?_
  obtain ⟨hA, hB⟩ := h
  refine lv_icmp_ne (tgt := 221) hx hb dX7_contactors_181 (by decide) (fun c1 => ?_) (fun c1 => ?_)
  · have h := hA c1
    exact ck_vret X hw h dX7_contactors_221
  · have h := hB c1
    refine lv_aload_n hx hb dX7_contactors_184 rfl (lv_at hl 0 rfl) ?_
    refine ck_get hx hb hts inX7 hown hw (hM 10 (by decide) (by decide)) rfl rfl 29 (by decide) (hts _ (List.mem_of_getElem? (i := 1) rfl)) rfl dX7_contactors_185 ?_
    refine lv_iconst (v := 3) hx hb dX7_contactors_188 (by decide) ?_
    obtain ⟨hA, hB⟩ := h
    refine lv_icmp_lt (tgt := 221) hx hb dX7_contactors_189 (by decide) (fun c2 => ?_) (fun c2 => ?_)
    · have h := hA c2
      exact ck_vret X hw h dX7_contactors_221
    · have h := hB c2
      refine lv_aload_n hx hb dX7_contactors_192 rfl (lv_at hl 0 rfl) ?_
      refine lv_iconst (v := 0) hx hb dX7_contactors_193 (by decide) ?_
      refine ck_callVv (rest := []) ⟨hx, hb, hml, hown, hts⟩ hw (hM 10 (by decide) (by decide)) rfl rfl (ct_X7_become l G hM h) (cwV 1 hts gX7_contactors_X7_become rfl rfl rfl (by decide +kernel) ⟨(Nat.le_of_ble_eq_true rfl), (Nat.le_of_ble_eq_true rfl)⟩) rfl hl.1 rfl (Nat.le_of_ble_eq_true rfl) dX7_contactors_194 ⟨(Nat.le_of_ble_eq_true rfl), (Nat.le_of_ble_eq_true rfl)⟩ (fun σ3 H locs h hw => ?_)
      refine lv_ldc2 hx hb hown (hts _ (List.mem_of_getElem? (i := 7) rfl)) dX7_contactors_197 ?_
      refine lv_aload_n hx hb dX7_contactors_200 rfl (lv_at hl 0 rfl) ?_
      refine ck_get hx hb hts inX7 hown hw (hM 10 (by decide) (by decide)) rfl rfl 15 (by decide) (hts _ (List.mem_of_getElem? (i := 5) rfl)) rfl dX7_contactors_201 ?_
      refine lv_i2l hx hb dX7_contactors_204 rfl ?_
      refine lv_lmul hx hb dX7_contactors_205 ?_
      refine lv_aload_n hx hb dX7_contactors_206 rfl (lv_at hl 0 rfl) ?_
      refine ck_callVi (rest := [.long (2 * ((ck_gi σ3 10 0 15).toInt64))]) ⟨hx, hb, hml, hown, hts⟩ hw (hM 10 (by decide) (by decide)) rfl rfl (ct_X7_sum l G hM h) (cwV 0 hts gX7_contactors_X7_sum rfl rfl rfl (by decide +kernel) ⟨(Nat.le_of_ble_eq_true rfl), (Nat.le_of_ble_eq_true rfl)⟩) rfl hl.1 rfl (Nat.le_of_ble_eq_true rfl) dX7_contactors_207 ⟨(Nat.le_of_ble_eq_true rfl), (Nat.le_of_ble_eq_true rfl)⟩ (fun x_6 σ5 H locs h hw => ?_)
      refine lv_i2l hx hb dX7_contactors_210 rfl ?_
      refine W.lcmp hx hb dX7_contactors_211 ?_
      obtain ⟨hA, hB⟩ := h
      refine lv_if_le (tgt := 221) hx hb dX7_contactors_212 (by decide) (fun c7 => ?_) (fun c7 => ?_)
      · have h := hA c7
        exact ck_vret X hw h dX7_contactors_221
      · have h := hB c7
        refine lv_aload_n hx hb dX7_contactors_215 rfl (lv_at hl 0 rfl) ?_
        refine lv_bipush (v := 8) hx hb dX7_contactors_216 (by decide) ?_
        refine ck_callVv (rest := []) ⟨hx, hb, hml, hown, hts⟩ hw (hM 10 (by decide) (by decide)) rfl rfl (ct_X7_latch l G hM h) (cwV 1 hts gX7_contactors_X7_latch rfl rfl rfl (by decide +kernel) ⟨(Nat.le_of_ble_eq_true rfl), (Nat.le_of_ble_eq_true rfl)⟩) rfl hl.1 rfl (Nat.le_of_ble_eq_true rfl) dX7_contactors_218 ⟨(Nat.le_of_ble_eq_true rfl), (Nat.le_of_ble_eq_true rfl)⟩ (fun σ8 H locs h hw => ?_)
        exact ck_vret X hw h dX7_contactors_221
set_option maxHeartbeats 4000000 in
set_option maxRecDepth 100000 in
theorem wk_X7_contactors_145 {p : Program} {l : Launch} {e : Env} {s : State} {m : MethodId} {args : Array Value} {below : List Frame} {meth : Method} {c : Code} {G : ck_G} (X : ck_X p s m meth c args cX7_contactors 2 none RX7 wsX7_contactors) (hM : ck_inM G) {post : ck_S → Prop} {σ : ck_S} {H : Heap} {locs : List Loc} {ls : Array Slot} (h : sp_X7_contactors_145 (ck_nc G) (ck_nb G) post σ) (hw : ck_H G s H locs σ) (hl : lv_has ls 2 [(0, .ref (ck_ad G 10 0))]) : W p l e ({ frames := 4, cells := 0, slots := 0, locals := 99 } : Room) s m args below meth c H locs 0 0 (MQ below (va_Qv post (ck_Q G) (ck_A G s.heap.size)) args s 0 0 (ck_A G s.heap.size)) (F0 m 145 ls []) := by
  obtain ⟨hx, hb, hr, hml, hown, hts, hlocks⟩ := id X
  have inX7 : ∀ w ∈ wsX70, w ∈ wsX7_contactors := fun _ h => List.mem_cons_of_mem _ (List.mem_append_right _ (h))
  unfold sp_X7_contactors_145 at h
  refine lv_aload_n hx hb dX7_contactors_145 rfl (lv_at hl 0 rfl) ?_
  refine ck_get hx hb hts inX7 hown hw (hM 10 (by decide) (by decide)) rfl rfl 28 (by decide) (hts _ (List.mem_of_getElem? (i := 3) rfl)) rfl dX7_contactors_146 ?_
  refine lv_iconst (v := 2) hx hb dX7_contactors_149 (by decide) ?_
  obtain ⟨hA, hB⟩ := h
  refine lv_icmp_ne (tgt := 176) hx hb dX7_contactors_150 (by decide) (fun c1 => ?_) (fun c1 => ?_)
  · have h := hA c1
    exact wk_X7_contactors_176 X hM h hw (lv_sub hl [0] rfl)
  · have h := hB c1
    refine lv_aload_n hx hb dX7_contactors_153 rfl (lv_at hl 0 rfl) ?_
    refine ck_get hx hb hts inX7 hown hw (hM 10 (by decide) (by decide)) rfl rfl 29 (by decide) (hts _ (List.mem_of_getElem? (i := 1) rfl)) rfl dX7_contactors_154 ?_
    refine lv_bipush (v := 30) hx hb dX7_contactors_157 (by decide) ?_
    obtain ⟨hA, hB⟩ := h
    refine lv_icmp_lt (tgt := 176) hx hb dX7_contactors_159 (by decide) (fun c2 => ?_) (fun c2 => ?_)
    · have h := hA c2
      exact wk_X7_contactors_176 X hM h hw (lv_sub hl [0] rfl)
    · have h := hB c2
      refine lv_aload_n hx hb dX7_contactors_162 rfl (lv_at hl 0 rfl) ?_
      refine lv_bipush (v := 7) hx hb dX7_contactors_163 (by decide) ?_
      refine ck_callVv (rest := []) ⟨hx, hb, hml, hown, hts⟩ hw (hM 10 (by decide) (by decide)) rfl rfl (ct_X7_latch l G hM h) (cwV 1 hts gX7_contactors_X7_latch rfl rfl rfl (by decide +kernel) ⟨(Nat.le_of_ble_eq_true rfl), (Nat.le_of_ble_eq_true rfl)⟩) rfl hl.1 rfl (Nat.le_of_ble_eq_true rfl) dX7_contactors_165 ⟨(Nat.le_of_ble_eq_true rfl), (Nat.le_of_ble_eq_true rfl)⟩ (fun σ3 H locs h hw => ?_)
      refine lv_aload_n hx hb dX7_contactors_168 rfl (lv_at hl 0 rfl) ?_
      refine lv_iconst (v := 4) hx hb dX7_contactors_169 (by decide) ?_
      refine ck_callVv (rest := []) ⟨hx, hb, hml, hown, hts⟩ hw (hM 10 (by decide) (by decide)) rfl rfl (ct_X7_become l G hM h) (cwV 1 hts gX7_contactors_X7_become rfl rfl rfl (by decide +kernel) ⟨(Nat.le_of_ble_eq_true rfl), (Nat.le_of_ble_eq_true rfl)⟩) rfl hl.1 rfl (Nat.le_of_ble_eq_true rfl) dX7_contactors_170 ⟨(Nat.le_of_ble_eq_true rfl), (Nat.le_of_ble_eq_true rfl)⟩ (fun σ5 H locs h hw => ?_)
      refine lv_goto (tgt := 221) hx hb dX7_contactors_173 (by decide) ?_
      exact ck_vret X hw h dX7_contactors_221
set_option maxHeartbeats 4000000 in
set_option maxRecDepth 100000 in
theorem wk_X7_contactors_100 {p : Program} {l : Launch} {e : Env} {s : State} {m : MethodId} {args : Array Value} {below : List Frame} {meth : Method} {c : Code} {G : ck_G} (X : ck_X p s m meth c args cX7_contactors 2 none RX7 wsX7_contactors) (hM : ck_inM G) {post : ck_S → Prop} {σ : ck_S} {H : Heap} {locs : List Loc} {ls : Array Slot} (h : sp_X7_contactors_100 (ck_nc G) (ck_nb G) post σ) (hw : ck_H G s H locs σ) (hl : lv_has ls 2 [(0, .ref (ck_ad G 10 0))]) : W p l e ({ frames := 4, cells := 0, slots := 0, locals := 99 } : Room) s m args below meth c H locs 0 0 (MQ below (va_Qv post (ck_Q G) (ck_A G s.heap.size)) args s 0 0 (ck_A G s.heap.size)) (F0 m 100 ls []) := by
  obtain ⟨hx, hb, hr, hml, hown, hts, hlocks⟩ := id X
  have inX7 : ∀ w ∈ wsX70, w ∈ wsX7_contactors := fun _ h => List.mem_cons_of_mem _ (List.mem_append_right _ (h))
  unfold sp_X7_contactors_100 at h
  refine lv_aload_n hx hb dX7_contactors_100 rfl (lv_at hl 0 rfl) ?_
  refine ck_get hx hb hts inX7 hown hw (hM 10 (by decide) (by decide)) rfl rfl 28 (by decide) (hts _ (List.mem_of_getElem? (i := 3) rfl)) rfl dX7_contactors_101 ?_
  refine lv_iconst (v := 2) hx hb dX7_contactors_104 (by decide) ?_
  obtain ⟨hA, hB⟩ := h
  refine lv_icmp_ne (tgt := 145) hx hb dX7_contactors_105 (by decide) (fun c1 => ?_) (fun c1 => ?_)
  · have h := hA c1
    exact wk_X7_contactors_145 X hM h hw (lv_sub hl [0] rfl)
  · have h := hB c1
    refine lv_aload_n hx hb dX7_contactors_108 rfl (lv_at hl 0 rfl) ?_
    refine ck_callVi (rest := []) ⟨hx, hb, hml, hown, hts⟩ hw (hM 10 (by decide) (by decide)) rfl rfl (ct_X7_areAllValid l G hM h) (cwV 0 hts gX7_contactors_X7_areAllValid rfl rfl rfl (by decide +kernel) ⟨(Nat.le_of_ble_eq_true rfl), (Nat.le_of_ble_eq_true rfl)⟩) rfl hl.1 rfl (Nat.le_of_ble_eq_true rfl) dX7_contactors_109 ⟨(Nat.le_of_ble_eq_true rfl), (Nat.le_of_ble_eq_true rfl)⟩ (fun x_3 σ2 H locs h hw => ?_)
    obtain ⟨hA, hB⟩ := h
    refine lv_if_eq (tgt := 145) hx hb dX7_contactors_112 (by decide) (fun c4 => ?_) (fun c4 => ?_)
    · have h := hA c4
      exact wk_X7_contactors_145 X hM h hw (lv_sub hl [0] rfl)
    · have h := hB c4
      refine lv_ldc2 hx hb hown (hts _ (List.mem_of_getElem? (i := 4) rfl)) dX7_contactors_115 ?_
      refine lv_aload_n hx hb dX7_contactors_118 rfl (lv_at hl 0 rfl) ?_
      refine ck_get hx hb hts inX7 hown hw (hM 10 (by decide) (by decide)) rfl rfl 15 (by decide) (hts _ (List.mem_of_getElem? (i := 5) rfl)) rfl dX7_contactors_119 ?_
      refine lv_i2l hx hb dX7_contactors_122 rfl ?_
      refine lv_lmul hx hb dX7_contactors_123 ?_
      refine lv_ldc2 hx hb hown (hts _ (List.mem_of_getElem? (i := 6) rfl)) dX7_contactors_124 ?_
      refine lv_aload_n hx hb dX7_contactors_127 rfl (lv_at hl 0 rfl) ?_
      refine ck_callVi (rest := [.long 19, .long (20 * ((ck_gi σ2 10 0 15).toInt64))]) ⟨hx, hb, hml, hown, hts⟩ hw (hM 10 (by decide) (by decide)) rfl rfl (ct_X7_sum l G hM h) (cwV 0 hts gX7_contactors_X7_sum rfl rfl rfl (by decide +kernel) ⟨(Nat.le_of_ble_eq_true rfl), (Nat.le_of_ble_eq_true rfl)⟩) rfl hl.1 rfl (Nat.le_of_ble_eq_true rfl) dX7_contactors_128 ⟨(Nat.le_of_ble_eq_true rfl), (Nat.le_of_ble_eq_true rfl)⟩ (fun x_6 σ5 H locs h hw => ?_)
      refine lv_i2l hx hb dX7_contactors_131 rfl ?_
      refine lv_lmul hx hb dX7_contactors_132 ?_
      refine W.lcmp hx hb dX7_contactors_133 ?_
      obtain ⟨hA, hB⟩ := h
      refine lv_if_lt (tgt := 145) hx hb dX7_contactors_134 (by decide) (fun c7 => ?_) (fun c7 => ?_)
      · have h := hA c7
        exact wk_X7_contactors_145 X hM h hw (lv_sub hl [0] rfl)
      · have h := hB c7
        refine lv_aload_n hx hb dX7_contactors_137 rfl (lv_at hl 0 rfl) ?_
        refine lv_iconst (v := 3) hx hb dX7_contactors_138 (by decide) ?_
        refine ck_callVv (rest := []) ⟨hx, hb, hml, hown, hts⟩ hw (hM 10 (by decide) (by decide)) rfl rfl (ct_X7_become l G hM h) (cwV 1 hts gX7_contactors_X7_become rfl rfl rfl (by decide +kernel) ⟨(Nat.le_of_ble_eq_true rfl), (Nat.le_of_ble_eq_true rfl)⟩) rfl hl.1 rfl (Nat.le_of_ble_eq_true rfl) dX7_contactors_139 ⟨(Nat.le_of_ble_eq_true rfl), (Nat.le_of_ble_eq_true rfl)⟩ (fun σ8 H locs h hw => ?_)
        refine lv_goto (tgt := 221) hx hb dX7_contactors_142 (by decide) ?_
        exact ck_vret X hw h dX7_contactors_221
set_option maxHeartbeats 4000000 in
set_option maxRecDepth 100000 in
theorem wk_X7_contactors_76 {p : Program} {l : Launch} {e : Env} {s : State} {m : MethodId} {args : Array Value} {below : List Frame} {meth : Method} {c : Code} {G : ck_G} (X : ck_X p s m meth c args cX7_contactors 2 none RX7 wsX7_contactors) (hM : ck_inM G) {post : ck_S → Prop} {σ : ck_S} {H : Heap} {locs : List Loc} {ls : Array Slot} (h : sp_X7_contactors_76 (ck_nc G) (ck_nb G) post σ) (hw : ck_H G s H locs σ) (hl : lv_has ls 2 [(0, .ref (ck_ad G 10 0))]) : W p l e ({ frames := 4, cells := 0, slots := 0, locals := 99 } : Room) s m args below meth c H locs 0 0 (MQ below (va_Qv post (ck_Q G) (ck_A G s.heap.size)) args s 0 0 (ck_A G s.heap.size)) (F0 m 76 ls []) := by
  obtain ⟨hx, hb, hr, hml, hown, hts, hlocks⟩ := id X
  have inX7 : ∀ w ∈ wsX70, w ∈ wsX7_contactors := fun _ h => List.mem_cons_of_mem _ (List.mem_append_right _ (h))
  unfold sp_X7_contactors_76 at h
  refine lv_aload_n hx hb dX7_contactors_76 rfl (lv_at hl 0 rfl) ?_
  refine ck_get hx hb hts inX7 hown hw (hM 10 (by decide) (by decide)) rfl rfl 28 (by decide) (hts _ (List.mem_of_getElem? (i := 3) rfl)) rfl dX7_contactors_77 ?_
  refine lv_iconst (v := 1) hx hb dX7_contactors_80 (by decide) ?_
  obtain ⟨hA, hB⟩ := h
  refine lv_icmp_ne (tgt := 100) hx hb dX7_contactors_81 (by decide) (fun c1 => ?_) (fun c1 => ?_)
  · have h := hA c1
    exact wk_X7_contactors_100 X hM h hw (lv_sub hl [0] rfl)
  · have h := hB c1
    refine lv_aload_n hx hb dX7_contactors_84 rfl (lv_at hl 0 rfl) ?_
    refine ck_get hx hb hts inX7 hown hw (hM 10 (by decide) (by decide)) rfl rfl 29 (by decide) (hts _ (List.mem_of_getElem? (i := 1) rfl)) rfl dX7_contactors_85 ?_
    refine lv_iconst (v := 2) hx hb dX7_contactors_88 (by decide) ?_
    obtain ⟨hA, hB⟩ := h
    refine lv_icmp_lt (tgt := 100) hx hb dX7_contactors_89 (by decide) (fun c2 => ?_) (fun c2 => ?_)
    · have h := hA c2
      exact wk_X7_contactors_100 X hM h hw (lv_sub hl [0] rfl)
    · have h := hB c2
      refine lv_aload_n hx hb dX7_contactors_92 rfl (lv_at hl 0 rfl) ?_
      refine lv_iconst (v := 2) hx hb dX7_contactors_93 (by decide) ?_
      refine ck_callVv (rest := []) ⟨hx, hb, hml, hown, hts⟩ hw (hM 10 (by decide) (by decide)) rfl rfl (ct_X7_become l G hM h) (cwV 1 hts gX7_contactors_X7_become rfl rfl rfl (by decide +kernel) ⟨(Nat.le_of_ble_eq_true rfl), (Nat.le_of_ble_eq_true rfl)⟩) rfl hl.1 rfl (Nat.le_of_ble_eq_true rfl) dX7_contactors_94 ⟨(Nat.le_of_ble_eq_true rfl), (Nat.le_of_ble_eq_true rfl)⟩ (fun σ3 H locs h hw => ?_)
      refine lv_goto (tgt := 221) hx hb dX7_contactors_97 (by decide) ?_
      exact ck_vret X hw h dX7_contactors_221
set_option maxHeartbeats 4000000 in
set_option maxRecDepth 100000 in
theorem wk_X7_contactors_57 {p : Program} {l : Launch} {e : Env} {s : State} {m : MethodId} {args : Array Value} {below : List Frame} {meth : Method} {c : Code} {G : ck_G} (X : ck_X p s m meth c args cX7_contactors 2 none RX7 wsX7_contactors) (hM : ck_inM G) {post : ck_S → Prop} {σ : ck_S} {x1 : Int32} {H : Heap} {locs : List Loc} {ls : Array Slot} (h : sp_X7_contactors_57 (ck_nc G) (ck_nb G) post σ x1) (hw : ck_H G s H locs σ) (hl : lv_has ls 2 [(0, .ref (ck_ad G 10 0)), (1, .int x1)]) : W p l e ({ frames := 4, cells := 0, slots := 0, locals := 99 } : Room) s m args below meth c H locs 0 0 (MQ below (va_Qv post (ck_Q G) (ck_A G s.heap.size)) args s 0 0 (ck_A G s.heap.size)) (F0 m 57 ls []) := by
  obtain ⟨hx, hb, hr, hml, hown, hts, hlocks⟩ := id X
  have inX7 : ∀ w ∈ wsX70, w ∈ wsX7_contactors := fun _ h => List.mem_cons_of_mem _ (List.mem_append_right _ (h))
  unfold sp_X7_contactors_57 at h
  refine lv_aload_n hx hb dX7_contactors_57 rfl (lv_at hl 0 rfl) ?_
  refine ck_get hx hb hts inX7 hown hw (hM 10 (by decide) (by decide)) rfl rfl 28 (by decide) (hts _ (List.mem_of_getElem? (i := 3) rfl)) rfl dX7_contactors_58 ?_
  obtain ⟨hA, hB⟩ := h
  refine lv_if_ne (tgt := 76) hx hb dX7_contactors_61 (by decide) (fun c1 => ?_) (fun c1 => ?_)
  · have h := hA c1
    exact wk_X7_contactors_76 X hM h hw (lv_sub hl [0] rfl)
  · have h := hB c1
    refine lv_iload_n hx hb dX7_contactors_64 rfl (lv_at hl 1 rfl) ?_
    obtain ⟨hA, hB⟩ := h
    refine lv_if_eq (tgt := 76) hx hb dX7_contactors_65 (by decide) (fun c2 => ?_) (fun c2 => ?_)
    · have h := hA c2
      exact wk_X7_contactors_76 X hM h hw (lv_sub hl [0] rfl)
    · have h := hB c2
      refine lv_aload_n hx hb dX7_contactors_68 rfl (lv_at hl 0 rfl) ?_
      refine lv_iconst (v := 1) hx hb dX7_contactors_69 (by decide) ?_
      refine ck_callVv (rest := []) ⟨hx, hb, hml, hown, hts⟩ hw (hM 10 (by decide) (by decide)) rfl rfl (ct_X7_become l G hM h) (cwV 1 hts gX7_contactors_X7_become rfl rfl rfl (by decide +kernel) ⟨(Nat.le_of_ble_eq_true rfl), (Nat.le_of_ble_eq_true rfl)⟩) rfl hl.1 rfl (Nat.le_of_ble_eq_true rfl) dX7_contactors_70 ⟨(Nat.le_of_ble_eq_true rfl), (Nat.le_of_ble_eq_true rfl)⟩ (fun σ3 H locs h hw => ?_)
      refine lv_goto (tgt := 221) hx hb dX7_contactors_73 (by decide) ?_
      exact ck_vret X hw h dX7_contactors_221
set_option maxHeartbeats 4000000 in
set_option maxRecDepth 100000 in
theorem wk_X7_contactors_29 {p : Program} {l : Launch} {e : Env} {s : State} {m : MethodId} {args : Array Value} {below : List Frame} {meth : Method} {c : Code} {G : ck_G} (X : ck_X p s m meth c args cX7_contactors 2 none RX7 wsX7_contactors) (hM : ck_inM G) {post : ck_S → Prop} {σ : ck_S} {s0 : Int32} {H : Heap} {locs : List Loc} {ls : Array Slot} (h : sp_X7_contactors_29 (ck_nc G) (ck_nb G) post σ s0) (hw : ck_H G s H locs σ) (hl : lv_has ls 2 [(0, .ref (ck_ad G 10 0))]) : W p l e ({ frames := 4, cells := 0, slots := 0, locals := 99 } : Room) s m args below meth c H locs 0 0 (MQ below (va_Qv post (ck_Q G) (ck_A G s.heap.size)) args s 0 0 (ck_A G s.heap.size)) (F0 m 29 ls [.int s0]) := by
  obtain ⟨hx, hb, hr, hml, hown, hts, hlocks⟩ := id X
  have inX7 : ∀ w ∈ wsX70, w ∈ wsX7_contactors := fun _ h => List.mem_cons_of_mem _ (List.mem_append_right _ (h))
  unfold sp_X7_contactors_29 at h
  refine lv_istore_n (lv' := [(1, .int s0), (0, .ref (ck_ad G 10 0))]) hx hb dX7_contactors_29 rfl hl (by decide) rfl (fun ls hl => ?_)
  refine lv_aload_n hx hb dX7_contactors_30 rfl (lv_at hl 1 rfl) ?_
  refine ck_get hx hb hts inX7 hown hw (hM 10 (by decide) (by decide)) rfl rfl 28 (by decide) (hts _ (List.mem_of_getElem? (i := 3) rfl)) rfl dX7_contactors_31 ?_
  obtain ⟨hA, hB⟩ := h
  refine lv_if_le (tgt := 57) hx hb dX7_contactors_34 (by decide) (fun c1 => ?_) (fun c1 => ?_)
  · have h := hA c1
    exact wk_X7_contactors_57 X hM h hw (lv_sub hl [1, 0] rfl)
  · have h := hB c1
    refine lv_aload_n hx hb dX7_contactors_37 rfl (lv_at hl 1 rfl) ?_
    refine ck_get hx hb hts inX7 hown hw (hM 10 (by decide) (by decide)) rfl rfl 28 (by decide) (hts _ (List.mem_of_getElem? (i := 3) rfl)) rfl dX7_contactors_38 ?_
    refine lv_iconst (v := 4) hx hb dX7_contactors_41 (by decide) ?_
    obtain ⟨hA, hB⟩ := h
    refine lv_icmp_ge (tgt := 57) hx hb dX7_contactors_42 (by decide) (fun c2 => ?_) (fun c2 => ?_)
    · have h := hA c2
      exact wk_X7_contactors_57 X hM h hw (lv_sub hl [1, 0] rfl)
    · have h := hB c2
      refine lv_iload_n hx hb dX7_contactors_45 rfl (lv_at hl 0 rfl) ?_
      obtain ⟨hA, hB⟩ := h
      refine lv_if_ne (tgt := 57) hx hb dX7_contactors_46 (by decide) (fun c3 => ?_) (fun c3 => ?_)
      · have h := hA c3
        exact wk_X7_contactors_57 X hM h hw (lv_sub hl [1, 0] rfl)
      · have h := hB c3
        refine lv_aload_n hx hb dX7_contactors_49 rfl (lv_at hl 1 rfl) ?_
        refine lv_iconst (v := 4) hx hb dX7_contactors_50 (by decide) ?_
        refine ck_callVv (rest := []) ⟨hx, hb, hml, hown, hts⟩ hw (hM 10 (by decide) (by decide)) rfl rfl (ct_X7_become l G hM h) (cwV 1 hts gX7_contactors_X7_become rfl rfl rfl (by decide +kernel) ⟨(Nat.le_of_ble_eq_true rfl), (Nat.le_of_ble_eq_true rfl)⟩) rfl hl.1 rfl (Nat.le_of_ble_eq_true rfl) dX7_contactors_51 ⟨(Nat.le_of_ble_eq_true rfl), (Nat.le_of_ble_eq_true rfl)⟩ (fun σ4 H locs h hw => ?_)
        refine lv_goto (tgt := 221) hx hb dX7_contactors_54 (by decide) ?_
        exact ck_vret X hw h dX7_contactors_221
set_option maxHeartbeats 4000000 in
set_option maxRecDepth 100000 in
theorem wk_X7_contactors_28 {p : Program} {l : Launch} {e : Env} {s : State} {m : MethodId} {args : Array Value} {below : List Frame} {meth : Method} {c : Code} {G : ck_G} (X : ck_X p s m meth c args cX7_contactors 2 none RX7 wsX7_contactors) (hM : ck_inM G) {post : ck_S → Prop} {σ : ck_S} {H : Heap} {locs : List Loc} {ls : Array Slot} (h : sp_X7_contactors_28 (ck_nc G) (ck_nb G) post σ) (hw : ck_H G s H locs σ) (hl : lv_has ls 2 [(0, .ref (ck_ad G 10 0))]) : W p l e ({ frames := 4, cells := 0, slots := 0, locals := 99 } : Room) s m args below meth c H locs 0 0 (MQ below (va_Qv post (ck_Q G) (ck_A G s.heap.size)) args s 0 0 (ck_A G s.heap.size)) (F0 m 28 ls []) := by
  obtain ⟨hx, hb, hr, hml, hown, hts, hlocks⟩ := id X
  have inX7 : ∀ w ∈ wsX70, w ∈ wsX7_contactors := fun _ h => List.mem_cons_of_mem _ (List.mem_append_right _ (h))
  unfold sp_X7_contactors_28 at h
  refine lv_iconst (v := 0) hx hb dX7_contactors_28 (by decide) ?_
  exact wk_X7_contactors_29 X hM h hw (lv_sub hl [0] rfl)
set_option maxHeartbeats 4000000 in
set_option maxRecDepth 100000 in
theorem wk_X7_contactors_0 {p : Program} {l : Launch} {e : Env} {s : State} {m : MethodId} {args : Array Value} {below : List Frame} {meth : Method} {c : Code} {G : ck_G} (X : ck_X p s m meth c args cX7_contactors 2 none RX7 wsX7_contactors) (hM : ck_inM G) {post : ck_S → Prop} {σ : ck_S} {H : Heap} {locs : List Loc} {ls : Array Slot} (h : sp_X7_contactors (ck_nc G) (ck_nb G) σ post) (hw : ck_H G s H locs σ) (hl : lv_has ls 2 [(0, .ref (ck_ad G 10 0))]) : W p l e ({ frames := 4, cells := 0, slots := 0, locals := 99 } : Room) s m args below meth c H locs 0 0 (MQ below (va_Qv post (ck_Q G) (ck_A G s.heap.size)) args s 0 0 (ck_A G s.heap.size)) (F0 m 0 ls []) := by
  obtain ⟨hx, hb, hr, hml, hown, hts, hlocks⟩ := id X
  have inX7 : ∀ w ∈ wsX70, w ∈ wsX7_contactors := fun _ h => List.mem_cons_of_mem _ (List.mem_append_right _ (h))
  unfold sp_X7_contactors at h
  refine lv_aload_n hx hb dX7_contactors_0 rfl (lv_at hl 0 rfl) ?_
  refine lv_dup hx hb dX7_contactors_1 rfl ?_
  refine ck_get hx hb hts inX7 hown hw (hM 10 (by decide) (by decide)) rfl rfl 29 (by decide) (hts _ (List.mem_of_getElem? (i := 1) rfl)) rfl dX7_contactors_2 ?_
  refine lv_iconst (v := 1) hx hb dX7_contactors_5 (by decide) ?_
  refine lv_iadd hx hb dX7_contactors_6 ?_
  refine ck_puti hx hb hts inX7 tyX7 tyX7_ok nmX7 hown hw (hM 10 (by decide) (by decide)) rfl rfl 29 (by decide) (hts _ (List.mem_of_getElem? (i := 1) rfl)) rfl rfl rfl (Nat.le_of_ble_eq_true rfl) rfl dX7_contactors_7 (fun H locs hw => ?_)
  obtain ⟨σ1, eσ1⟩ : ∃ z : ck_S, z = ck_ui σ 10 0 29 ((ck_gi σ 10 0 29) + 1) := ⟨_, rfl⟩
  rw [← eσ1] at hw
  have h := h σ1 eσ1
  refine lv_aload_n hx hb dX7_contactors_10 rfl (lv_at hl 0 rfl) ?_
  refine ck_get hx hb hts inX7 hown hw (hM 10 (by decide) (by decide)) rfl rfl 16 (by decide) (hts _ (List.mem_of_getElem? (i := 2) rfl)) rfl dX7_contactors_11 ?_
  obtain ⟨hA, hB⟩ := h
  refine lv_if_eq (tgt := 28) hx hb dX7_contactors_14 (by decide) (fun c2 => ?_) (fun c2 => ?_)
  · have h := hA c2
    exact wk_X7_contactors_28 X hM h hw (lv_sub hl [0] rfl)
  · have h := hB c2
    refine lv_aload_n hx hb dX7_contactors_17 rfl (lv_at hl 0 rfl) ?_
    refine ck_callVi (rest := []) ⟨hx, hb, hml, hown, hts⟩ hw (hM 10 (by decide) (by decide)) rfl rfl (ct_X7_isSerious l G hM h) (cwV 0 hts gX7_contactors_X7_isSerious rfl rfl rfl (by decide +kernel) ⟨(Nat.le_of_ble_eq_true rfl), (Nat.le_of_ble_eq_true rfl)⟩) rfl hl.1 rfl (Nat.le_of_ble_eq_true rfl) dX7_contactors_18 ⟨(Nat.le_of_ble_eq_true rfl), (Nat.le_of_ble_eq_true rfl)⟩ (fun x_4 σ3 H locs h hw => ?_)
    obtain ⟨hA, hB⟩ := h
    refine lv_if_ne (tgt := 28) hx hb dX7_contactors_21 (by decide) (fun c5 => ?_) (fun c5 => ?_)
    · have h := hA c5
      exact wk_X7_contactors_28 X hM h hw (lv_sub hl [0] rfl)
    · have h := hB c5
      refine lv_iconst (v := 1) hx hb dX7_contactors_24 (by decide) ?_
      refine lv_goto (tgt := 29) hx hb dX7_contactors_25 (by decide) ?_
      exact wk_X7_contactors_29 X hM h hw (lv_sub hl [0] rfl)
set_option maxHeartbeats 4000000 in
set_option maxRecDepth 100000 in
theorem ct_X7_contactors (l : Launch) (G : ck_G) (hM : ck_inM G) {σ : ck_S} {post : ck_S → Prop} (h : sp_X7_contactors (ck_nc G) (ck_nb G) σ post) : ck_Mv l yX7_contactors wsX7_contactors ({ frames := 4, cells := 0, slots := 0, locals := 99 } : Room) G σ [.ref (ck_ad G 10 0)] post := by
  intro sz
  refine Met.ofW (cc := cX7_contactors) (maxL := 2) (ret := none) (by decide) rfl ?_
  intro p e s m args below meth c s₁ B hml hv
  obtain ⟨rfl, rfl, hw⟩ := ck_enter hv
  have hl := lv_entry ([.ref (ck_ad G 10 0)]) (n := 2) (Nat.le_of_ble_eq_true rfl)
  rw [lg_entry_eq]
  generalize (lg_sl ([.ref (ck_ad G 10 0)]) ++ List.replicate (2 - (lg_sl ([.ref (ck_ad G 10 0)])).length) Slot.unset).toArray = ls at hl ⊢
  have hl : lv_has ls 2 [(0, .ref (ck_ad G 10 0))] := hl
  exact wk_X7_contactors_0 ⟨B.exec, B.bytes, B.returns, hml, findClass_of_methodNamed B.named, atoms_spec (ws := wsX7_contactors) B.pre, B.notSynchronized⟩ hM h hw hl
def sp_X7_bleed_227 (nc nb : Nat) (post : ck_S → Prop) (K112 : ck_S → Int32 → Int32 → Int32 → Prop) (σ : ck_S) (x1 : Int32) (x2 : Int32) (x3 : Int32) : Prop := ∀ x_1, x_1 = x3 + 1 → K112 σ x1 x2 x_1
def sp_X7_bleed_221 (nc nb : Nat) (post : ck_S → Prop) (K112 : ck_S → Int32 → Int32 → Int32 → Prop) (K130 : ck_S → Int32 → Int32 → Int32 → Int32 → Prop) (σ : ck_S) (x1 : Int32) (x2 : Int32) (x3 : Int32) (x4 : Int32) : Prop := ∀ x_1, x_1 = x4 + 1 → K130 σ x1 x2 x3 x_1
def sp_X7_bleed_158 (nc nb : Nat) (post : ck_S → Prop) (K112 : ck_S → Int32 → Int32 → Int32 → Prop) (K130 : ck_S → Int32 → Int32 → Int32 → Int32 → Prop) (σ : ck_S) (x1 : Int32) (x2 : Int32) (x3 : Int32) (x4 : Int32) (s0 : Int32) : Prop := ((s0 = 0 → (sp_X7_bleed_221 nc nb post K112 K130 σ x1 x2 x3 x4)) ∧ (¬ s0 = 0 → (sp_X7_isValid nc nb σ x3 x4 (fun x_3 σ2 => ((x_3 = 0 → (sp_X7_bleed_221 nc nb post K112 K130 σ2 x1 x2 x3 x4)) ∧ (¬ x_3 = 0 → (sp_X7_numberOf nc nb σ2 x3 x4 0 (fun x_6 σ5 => ((x_6 ≤ 3300 → (sp_X7_bleed_221 nc nb post K112 K130 σ5 x1 x2 x3 x4)) ∧ (¬ x_6 ≤ 3300 → (sp_X7_numberOf nc nb σ5 x3 x4 0 (fun x_9 σ8 => ((x_9 ≤ (x2 + 8) → (sp_X7_bleed_221 nc nb post K112 K130 σ8 x1 x2 x3 x4)) ∧ (¬ x_9 ≤ (x2 + 8) → ((vp_in x3 4) ∧ (vp_in x3 4) ∧ ∀ σ13, σ13 = ck_ui σ8 20 0 (Int32.toNatClampNeg x3) ((ck_gi σ8 20 0 (Int32.toNatClampNeg x3)) ||| (1 <<< (x4 &&& 31))) → sp_X7_bleed_221 nc nb post K112 K130 σ13 x1 x2 x3 x4)))))))))))))))
def bd_X7_bleed_130 (nc nb : Nat) (post : ck_S → Prop) (K112 : ck_S → Int32 → Int32 → Int32 → Prop) (K130 : ck_S → Int32 → Int32 → Int32 → Int32 → Prop) (σ : ck_S) (x1 : Int32) (x2 : Int32) (x3 : Int32) (x4 : Int32) : Prop := ((6 ≤ x4 → (sp_X7_bleed_227 nc nb post K112 σ x1 x2 x3)) ∧ (¬ 6 ≤ x4 → (((x1 = 0 → (sp_X7_bleed_227 nc nb post K112 σ x1 x2 x3)) ∧ (¬ x1 = 0 → (∀ x_3, x_3 = (x4 + (ck_gi σ 10 0 10)) → ((¬ (x_3 - x_3 / 2 * 2) = 0 → (sp_X7_bleed_158 nc nb post K112 K130 σ x1 x2 x3 x4 0)) ∧ ((x_3 - x_3 / 2 * 2) = 0 → (sp_X7_bleed_158 nc nb post K112 K130 σ x1 x2 x3 x4 1)))))))))
def bd_X7_bleed_112 (nc nb : Nat) (post : ck_S → Prop) (K112 : ck_S → Int32 → Int32 → Int32 → Prop) (σ : ck_S) (x1 : Int32) (x2 : Int32) (x3 : Int32) : Prop := (((ck_gi σ 10 0 1) ≤ x3 → (post σ)) ∧ (¬ (ck_gi σ 10 0 1) ≤ x3 → ((vp_in x3 4) ∧ ∀ σ3, σ3 = ck_ui σ 20 0 (Int32.toNatClampNeg x3) 0 → lx_5 (bd_X7_bleed_130 nc nb post K112) σ3 x1 x2 x3 0)))
def sp_X7_bleed_104 (nc nb : Nat) (post : ck_S → Prop) (K47 : ck_S → Int32 → Int32 → Int32 → Prop) (σ : ck_S) (x1 : Int32) (x2 : Int32) (x3 : Int32) : Prop := ∀ x_1, x_1 = x3 + 1 → K47 σ x1 x2 x_1
def bd_X7_bleed_47 (nc nb : Nat) (post : ck_S → Prop) (K47 : ck_S → Int32 → Int32 → Int32 → Prop) (σ : ck_S) (x1 : Int32) (x2 : Int32) (x3 : Int32) : Prop := (((6 * (ck_gi σ 10 0 1)) ≤ x3 → (lx_4 (bd_X7_bleed_112 nc nb post) σ x1 x2 0)) ∧ (¬ (6 * (ck_gi σ 10 0 1)) ≤ x3 → (sp_X7_isValid nc nb σ (x3 / 6) (x3 - x3 / 6 * 6) (fun x_3 σ2 => ((x_3 = 0 → (sp_X7_bleed_104 nc nb post K47 σ2 x1 x2 x3)) ∧ (¬ x_3 = 0 → (sp_X7_numberOf nc nb σ2 (x3 / 6) (x3 - x3 / 6 * 6) 0 (fun x_6 σ5 => ((x2 ≤ x_6 → (sp_X7_bleed_104 nc nb post K47 σ5 x1 x2 x3)) ∧ (¬ x2 ≤ x_6 → (sp_X7_numberOf nc nb σ5 (x3 / 6) (x3 - x3 / 6 * 6) 0 (fun x_9 σ8 => sp_X7_bleed_104 nc nb post K47 σ8 x1 x_9 x3))))))))))))
def sp_X7_bleed_41 (nc nb : Nat) (post : ck_S → Prop) (σ : ck_S) (s0 : Int32) : Prop := lx_4 (bd_X7_bleed_47 nc nb post) σ s0 100000 0
def sp_X7_bleed_40 (nc nb : Nat) (post : ck_S → Prop) (σ : ck_S) : Prop := sp_X7_bleed_41 nc nb post σ 0
def sp_X7_bleed_15 (nc nb : Nat) (post : ck_S → Prop) (σ : ck_S) : Prop := sp_X7_isSerious nc nb σ (fun x_2 σ1 => ((¬ x_2 = 0 → (sp_X7_bleed_40 nc nb post σ1)) ∧ (x_2 = 0 → (sp_X7_sizeOf nc nb σ1 (ck_gj σ1 10 0 13) (fun y_5 σ4 => ((0 ≤ (lg_cmp y_5 (16 : Int64)) → (sp_X7_bleed_40 nc nb post σ4)) ∧ (¬ 0 ≤ (lg_cmp y_5 (16 : Int64)) → (sp_X7_bleed_41 nc nb post σ4 1))))))))
def sp_X7_bleed (nc nb : Nat) (σ : ck_S) (post : ck_S → Prop) : Prop := (((ck_gi σ 10 0 28) = 0 → (sp_X7_bleed_15 nc nb post σ)) ∧ (¬ (ck_gi σ 10 0 28) = 0 → (((¬ (ck_gi σ 10 0 28) = 3 → (sp_X7_bleed_40 nc nb post σ)) ∧ ((ck_gi σ 10 0 28) = 3 → (sp_X7_bleed_15 nc nb post σ))))))
set_option maxHeartbeats 4000000 in
set_option maxRecDepth 100000 in
theorem wk_X7_bleed_227 {p : Program} {l : Launch} {e : Env} {s : State} {m : MethodId} {args : Array Value} {below : List Frame} {meth : Method} {c : Code} {G : ck_G} (X : ck_X p s m meth c args cX7_bleed 6 none RX7 wsX7_bleed) (hM : ck_inM G) {post : ck_S → Prop} {K112 : ck_S → Int32 → Int32 → Int32 → Prop} (hK112 : ∀ (σ : ck_S) (x1 : Int32) (x2 : Int32) (x3 : Int32) (H : Heap) (locs : List Loc) (ls : Array Slot), K112 σ x1 x2 x3 → ck_H G s H locs σ → lv_has ls 6 [(0, .ref (ck_ad G 10 0)), (1, .int x1), (2, .int x2), (3, .int x3)] → W p l e ({ frames := 3, cells := 0, slots := 0, locals := 77 } : Room) s m args below meth c H locs 0 0 (MQ below (va_Qv post (ck_Q G) (ck_A G s.heap.size)) args s 0 0 (ck_A G s.heap.size)) (F0 m 112 ls [])) {σ : ck_S} {x1 : Int32} {x2 : Int32} {x3 : Int32} {H : Heap} {locs : List Loc} {ls : Array Slot} (h : sp_X7_bleed_227 (ck_nc G) (ck_nb G) post K112 σ x1 x2 x3) (hw : ck_H G s H locs σ) (hl : lv_has ls 6 [(0, .ref (ck_ad G 10 0)), (1, .int x1), (2, .int x2), (3, .int x3)]) : W p l e ({ frames := 3, cells := 0, slots := 0, locals := 77 } : Room) s m args below meth c H locs 0 0 (MQ below (va_Qv post (ck_Q G) (ck_A G s.heap.size)) args s 0 0 (ck_A G s.heap.size)) (F0 m 227 ls []) := by
  obtain ⟨hx, hb, hr, hml, hown, hts, hlocks⟩ := id X
  have inX7 : ∀ w ∈ wsX70, w ∈ wsX7_bleed := fun _ h => List.mem_cons_of_mem _ (List.mem_append_right _ (h))
  unfold sp_X7_bleed_227 at h
  obtain ⟨x_1, ex_1⟩ : ∃ z : Int32, z = x3 + 1 := ⟨_, rfl⟩
  have h := h x_1 ex_1
  refine lv_iinc (v := x_1) (lv' := [(3, .int x_1), (0, .ref (ck_ad G 10 0)), (1, .int x1), (2, .int x2)]) hx hb dX7_bleed_227 hl (k := 3) rfl (by rw [ex_1]; rfl) (by decide) rfl (fun ls hl => ?_)
  refine lv_goto (tgt := 112) hx hb dX7_bleed_230 (by decide) ?_
  exact hK112 _ _ _ _ _ _ _ h hw (lv_sub hl [1, 2, 3, 0] rfl)
set_option maxHeartbeats 4000000 in
set_option maxRecDepth 100000 in
theorem wk_X7_bleed_221 {p : Program} {l : Launch} {e : Env} {s : State} {m : MethodId} {args : Array Value} {below : List Frame} {meth : Method} {c : Code} {G : ck_G} (X : ck_X p s m meth c args cX7_bleed 6 none RX7 wsX7_bleed) (hM : ck_inM G) {post : ck_S → Prop} {K112 : ck_S → Int32 → Int32 → Int32 → Prop} (hK112 : ∀ (σ : ck_S) (x1 : Int32) (x2 : Int32) (x3 : Int32) (H : Heap) (locs : List Loc) (ls : Array Slot), K112 σ x1 x2 x3 → ck_H G s H locs σ → lv_has ls 6 [(0, .ref (ck_ad G 10 0)), (1, .int x1), (2, .int x2), (3, .int x3)] → W p l e ({ frames := 3, cells := 0, slots := 0, locals := 77 } : Room) s m args below meth c H locs 0 0 (MQ below (va_Qv post (ck_Q G) (ck_A G s.heap.size)) args s 0 0 (ck_A G s.heap.size)) (F0 m 112 ls [])) {K130 : ck_S → Int32 → Int32 → Int32 → Int32 → Prop} (hK130 : ∀ (σ : ck_S) (x1 : Int32) (x2 : Int32) (x3 : Int32) (x4 : Int32) (H : Heap) (locs : List Loc) (ls : Array Slot), K130 σ x1 x2 x3 x4 → ck_H G s H locs σ → lv_has ls 6 [(0, .ref (ck_ad G 10 0)), (1, .int x1), (2, .int x2), (3, .int x3), (4, .int x4)] → W p l e ({ frames := 3, cells := 0, slots := 0, locals := 77 } : Room) s m args below meth c H locs 0 0 (MQ below (va_Qv post (ck_Q G) (ck_A G s.heap.size)) args s 0 0 (ck_A G s.heap.size)) (F0 m 130 ls [])) {σ : ck_S} {x1 : Int32} {x2 : Int32} {x3 : Int32} {x4 : Int32} {H : Heap} {locs : List Loc} {ls : Array Slot} (h : sp_X7_bleed_221 (ck_nc G) (ck_nb G) post K112 K130 σ x1 x2 x3 x4) (hw : ck_H G s H locs σ) (hl : lv_has ls 6 [(0, .ref (ck_ad G 10 0)), (1, .int x1), (2, .int x2), (3, .int x3), (4, .int x4)]) : W p l e ({ frames := 3, cells := 0, slots := 0, locals := 77 } : Room) s m args below meth c H locs 0 0 (MQ below (va_Qv post (ck_Q G) (ck_A G s.heap.size)) args s 0 0 (ck_A G s.heap.size)) (F0 m 221 ls []) := by
  obtain ⟨hx, hb, hr, hml, hown, hts, hlocks⟩ := id X
  have inX7 : ∀ w ∈ wsX70, w ∈ wsX7_bleed := fun _ h => List.mem_cons_of_mem _ (List.mem_append_right _ (h))
  unfold sp_X7_bleed_221 at h
  obtain ⟨x_1, ex_1⟩ : ∃ z : Int32, z = x4 + 1 := ⟨_, rfl⟩
  have h := h x_1 ex_1
  refine lv_iinc (v := x_1) (lv' := [(4, .int x_1), (0, .ref (ck_ad G 10 0)), (1, .int x1), (2, .int x2), (3, .int x3)]) hx hb dX7_bleed_221 hl (k := 4) rfl (by rw [ex_1]; rfl) (by decide) rfl (fun ls hl => ?_)
  refine lv_goto (tgt := 130) hx hb dX7_bleed_224 (by decide) ?_
  exact hK130 _ _ _ _ _ _ _ _ h hw (lv_sub hl [1, 2, 3, 4, 0] rfl)
set_option maxHeartbeats 4000000 in
set_option maxRecDepth 100000 in
theorem wk_X7_bleed_158 {p : Program} {l : Launch} {e : Env} {s : State} {m : MethodId} {args : Array Value} {below : List Frame} {meth : Method} {c : Code} {G : ck_G} (X : ck_X p s m meth c args cX7_bleed 6 none RX7 wsX7_bleed) (hM : ck_inM G) {post : ck_S → Prop} {K112 : ck_S → Int32 → Int32 → Int32 → Prop} (hK112 : ∀ (σ : ck_S) (x1 : Int32) (x2 : Int32) (x3 : Int32) (H : Heap) (locs : List Loc) (ls : Array Slot), K112 σ x1 x2 x3 → ck_H G s H locs σ → lv_has ls 6 [(0, .ref (ck_ad G 10 0)), (1, .int x1), (2, .int x2), (3, .int x3)] → W p l e ({ frames := 3, cells := 0, slots := 0, locals := 77 } : Room) s m args below meth c H locs 0 0 (MQ below (va_Qv post (ck_Q G) (ck_A G s.heap.size)) args s 0 0 (ck_A G s.heap.size)) (F0 m 112 ls [])) {K130 : ck_S → Int32 → Int32 → Int32 → Int32 → Prop} (hK130 : ∀ (σ : ck_S) (x1 : Int32) (x2 : Int32) (x3 : Int32) (x4 : Int32) (H : Heap) (locs : List Loc) (ls : Array Slot), K130 σ x1 x2 x3 x4 → ck_H G s H locs σ → lv_has ls 6 [(0, .ref (ck_ad G 10 0)), (1, .int x1), (2, .int x2), (3, .int x3), (4, .int x4)] → W p l e ({ frames := 3, cells := 0, slots := 0, locals := 77 } : Room) s m args below meth c H locs 0 0 (MQ below (va_Qv post (ck_Q G) (ck_A G s.heap.size)) args s 0 0 (ck_A G s.heap.size)) (F0 m 130 ls [])) {σ : ck_S} {x1 : Int32} {x2 : Int32} {x3 : Int32} {x4 : Int32} {s0 : Int32} {H : Heap} {locs : List Loc} {ls : Array Slot} (h : sp_X7_bleed_158 (ck_nc G) (ck_nb G) post K112 K130 σ x1 x2 x3 x4 s0) (hw : ck_H G s H locs σ) (hl : lv_has ls 6 [(0, .ref (ck_ad G 10 0)), (1, .int x1), (2, .int x2), (3, .int x3), (4, .int x4)]) : W p l e ({ frames := 3, cells := 0, slots := 0, locals := 77 } : Room) s m args below meth c H locs 0 0 (MQ below (va_Qv post (ck_Q G) (ck_A G s.heap.size)) args s 0 0 (ck_A G s.heap.size)) (F0 m 158 ls [.int s0]) := by
  obtain ⟨hx, hb, hr, hml, hown, hts, hlocks⟩ := id X
  have inX7 : ∀ w ∈ wsX70, w ∈ wsX7_bleed := fun _ h => List.mem_cons_of_mem _ (List.mem_append_right _ (h))
  unfold sp_X7_bleed_158 at h
  refine lv_istore (lv' := [(5, .int s0), (0, .ref (ck_ad G 10 0)), (1, .int x1), (2, .int x2), (3, .int x3), (4, .int x4)]) hx hb dX7_bleed_158 hl (by decide) rfl (fun ls hl => ?_)
  refine lv_iload hx hb dX7_bleed_160 (lv_at hl 0 rfl) ?_
  obtain ⟨hA, hB⟩ := h
  refine lv_if_eq (tgt := 221) hx hb dX7_bleed_162 (by decide) (fun c1 => ?_) (fun c1 => ?_)
  · have h := hA c1
    exact wk_X7_bleed_221 X hM hK112 hK130 h hw (lv_sub hl [1, 2, 3, 4, 5] rfl)
  · have h := hB c1
    refine lv_aload_n hx hb dX7_bleed_165 rfl (lv_at hl 1 rfl) ?_
    refine lv_iload_n hx hb dX7_bleed_166 rfl (lv_at hl 4 rfl) ?_
    refine lv_iload hx hb dX7_bleed_167 (lv_at hl 5 rfl) ?_
    refine ck_callVi (rest := []) ⟨hx, hb, hml, hown, hts⟩ hw (hM 10 (by decide) (by decide)) rfl rfl (ct_X7_isValid l G hM h) (cwV 2 hts gX7_bleed_X7_isValid rfl rfl rfl (by decide +kernel) ⟨(Nat.le_of_ble_eq_true rfl), (Nat.le_of_ble_eq_true rfl)⟩) rfl hl.1 rfl (Nat.le_of_ble_eq_true rfl) dX7_bleed_169 ⟨(Nat.le_of_ble_eq_true rfl), (Nat.le_of_ble_eq_true rfl)⟩ (fun x_3 σ2 H locs h hw => ?_)
    obtain ⟨hA, hB⟩ := h
    refine lv_if_eq (tgt := 221) hx hb dX7_bleed_172 (by decide) (fun c4 => ?_) (fun c4 => ?_)
    · have h := hA c4
      exact wk_X7_bleed_221 X hM hK112 hK130 h hw (lv_sub hl [1, 2, 3, 4, 5] rfl)
    · have h := hB c4
      refine lv_aload_n hx hb dX7_bleed_175 rfl (lv_at hl 1 rfl) ?_
      refine lv_iload_n hx hb dX7_bleed_176 rfl (lv_at hl 4 rfl) ?_
      refine lv_iload hx hb dX7_bleed_177 (lv_at hl 5 rfl) ?_
      refine lv_iconst (v := 0) hx hb dX7_bleed_179 (by decide) ?_
      refine ck_callVi (rest := []) ⟨hx, hb, hml, hown, hts⟩ hw (hM 10 (by decide) (by decide)) rfl rfl (ct_X7_numberOf l G hM h) (cwV 3 hts gX7_bleed_X7_numberOf rfl rfl rfl (by decide +kernel) ⟨(Nat.le_of_ble_eq_true rfl), (Nat.le_of_ble_eq_true rfl)⟩) rfl hl.1 rfl (Nat.le_of_ble_eq_true rfl) dX7_bleed_180 ⟨(Nat.le_of_ble_eq_true rfl), (Nat.le_of_ble_eq_true rfl)⟩ (fun x_6 σ5 H locs h hw => ?_)
      refine lv_sipush (v := 3300) hx hb dX7_bleed_183 (by decide) ?_
      obtain ⟨hA, hB⟩ := h
      refine lv_icmp_le (tgt := 221) hx hb dX7_bleed_186 (by decide) (fun c7 => ?_) (fun c7 => ?_)
      · have h := hA c7
        exact wk_X7_bleed_221 X hM hK112 hK130 h hw (lv_sub hl [1, 2, 3, 4, 5] rfl)
      · have h := hB c7
        refine lv_aload_n hx hb dX7_bleed_189 rfl (lv_at hl 1 rfl) ?_
        refine lv_iload_n hx hb dX7_bleed_190 rfl (lv_at hl 4 rfl) ?_
        refine lv_iload hx hb dX7_bleed_191 (lv_at hl 5 rfl) ?_
        refine lv_iconst (v := 0) hx hb dX7_bleed_193 (by decide) ?_
        refine ck_callVi (rest := []) ⟨hx, hb, hml, hown, hts⟩ hw (hM 10 (by decide) (by decide)) rfl rfl (ct_X7_numberOf l G hM h) (cwV 3 hts gX7_bleed_X7_numberOf rfl rfl rfl (by decide +kernel) ⟨(Nat.le_of_ble_eq_true rfl), (Nat.le_of_ble_eq_true rfl)⟩) rfl hl.1 rfl (Nat.le_of_ble_eq_true rfl) dX7_bleed_194 ⟨(Nat.le_of_ble_eq_true rfl), (Nat.le_of_ble_eq_true rfl)⟩ (fun x_9 σ8 H locs h hw => ?_)
        refine lv_iload_n hx hb dX7_bleed_197 rfl (lv_at hl 3 rfl) ?_
        refine lv_bipush (v := 8) hx hb dX7_bleed_198 (by decide) ?_
        refine lv_iadd hx hb dX7_bleed_200 ?_
        obtain ⟨hA, hB⟩ := h
        refine lv_icmp_le (tgt := 221) hx hb dX7_bleed_201 (by decide) (fun c10 => ?_) (fun c10 => ?_)
        · have h := hA c10
          exact wk_X7_bleed_221 X hM hK112 hK130 h hw (lv_sub hl [1, 2, 3, 4, 5] rfl)
        · have h := hB c10
          refine lv_aload_n hx hb dX7_bleed_204 rfl (lv_at hl 1 rfl) ?_
          refine ck_get hx hb hts inX7 hown hw (hM 10 (by decide) (by decide)) rfl rfl 30 (by decide) (hts _ (List.mem_of_getElem? (i := 6) rfl)) rfl dX7_bleed_205 ?_
          refine lv_iload_n hx hb dX7_bleed_208 rfl (lv_at hl 4 rfl) ?_
          refine lv_aload_n hx hb dX7_bleed_209 rfl (lv_at hl 1 rfl) ?_
          refine ck_get hx hb hts inX7 hown hw (hM 10 (by decide) (by decide)) rfl rfl 30 (by decide) (hts _ (List.mem_of_getElem? (i := 6) rfl)) rfl dX7_bleed_210 ?_
          refine lv_iload_n hx hb dX7_bleed_213 rfl (lv_at hl 4 rfl) ?_
          obtain ⟨n11, h⟩ := h
          refine ck_iald hx hb hw (hM 20 (by decide) (by decide)) rfl n11 dX7_bleed_214 ?_
          refine lv_iconst (v := 1) hx hb dX7_bleed_215 (by decide) ?_
          refine lv_iload hx hb dX7_bleed_216 (lv_at hl 5 rfl) ?_
          refine lv_ishl hx hb dX7_bleed_218 ?_
          refine lv_ior hx hb dX7_bleed_219 ?_
          obtain ⟨n12, h⟩ := h
          refine ck_iast hx hb hw (hM 20 (by decide) (by decide)) (fun _ => rfl) n12 dX7_bleed_220 (fun H locs hw => ?_)
          obtain ⟨σ13, eσ13⟩ : ∃ z : ck_S, z = ck_ui σ8 20 0 (Int32.toNatClampNeg x3) ((ck_gi σ8 20 0 (Int32.toNatClampNeg x3)) ||| (1 <<< (x4 &&& 31))) := ⟨_, rfl⟩
          rw [← eσ13] at hw
          have h := h σ13 eσ13
          exact wk_X7_bleed_221 X hM hK112 hK130 h hw (lv_sub hl [1, 2, 3, 4, 5] rfl)
set_option maxHeartbeats 4000000 in
set_option maxRecDepth 100000 in
theorem wk_X7_bleed_130 {p : Program} {l : Launch} {e : Env} {s : State} {m : MethodId} {args : Array Value} {below : List Frame} {meth : Method} {c : Code} {G : ck_G} (X : ck_X p s m meth c args cX7_bleed 6 none RX7 wsX7_bleed) (hM : ck_inM G) {post : ck_S → Prop} {K112 : ck_S → Int32 → Int32 → Int32 → Prop} (hK112 : ∀ (σ : ck_S) (x1 : Int32) (x2 : Int32) (x3 : Int32) (H : Heap) (locs : List Loc) (ls : Array Slot), K112 σ x1 x2 x3 → ck_H G s H locs σ → lv_has ls 6 [(0, .ref (ck_ad G 10 0)), (1, .int x1), (2, .int x2), (3, .int x3)] → W p l e ({ frames := 3, cells := 0, slots := 0, locals := 77 } : Room) s m args below meth c H locs 0 0 (MQ below (va_Qv post (ck_Q G) (ck_A G s.heap.size)) args s 0 0 (ck_A G s.heap.size)) (F0 m 112 ls [])) : ∀ (fu : Nat) (σ : ck_S) (x1 : Int32) (x2 : Int32) (x3 : Int32) (x4 : Int32) (H : Heap) (locs : List Loc) (ls : Array Slot), lk_5 (bd_X7_bleed_130 (ck_nc G) (ck_nb G) post K112) fu σ x1 x2 x3 x4 → ck_H G s H locs σ → lv_has ls 6 [(0, .ref (ck_ad G 10 0)), (1, .int x1), (2, .int x2), (3, .int x3), (4, .int x4)] → W p l e ({ frames := 3, cells := 0, slots := 0, locals := 77 } : Room) s m args below meth c H locs 0 0 (MQ below (va_Qv post (ck_Q G) (ck_A G s.heap.size)) args s 0 0 (ck_A G s.heap.size)) (F0 m 130 ls []) := by
  obtain ⟨hx, hb, hr, hml, hown, hts, hlocks⟩ := id X
  have inX7 : ∀ w ∈ wsX70, w ∈ wsX7_bleed := fun _ h => List.mem_cons_of_mem _ (List.mem_append_right _ (h))
  intro fu
  induction fu with
  | zero => intro σ x1 x2 x3 x4 H locs ls h hw hl; exact h.elim
  | succ fu hK130 =>
    intro σ x1 x2 x3 x4 H locs ls h hw hl
    have h : bd_X7_bleed_130 (ck_nc G) (ck_nb G) post K112 (lk_5 (bd_X7_bleed_130 (ck_nc G) (ck_nb G) post K112) fu) σ x1 x2 x3 x4 := h
    unfold bd_X7_bleed_130 at h
    refine lv_iload hx hb dX7_bleed_130 (lv_at hl 4 rfl) ?_
    refine lv_bipush (v := 6) hx hb dX7_bleed_132 (by decide) ?_
    obtain ⟨hA, hB⟩ := h
    refine lv_icmp_ge (tgt := 227) hx hb dX7_bleed_134 (by decide) (fun c1 => ?_) (fun c1 => ?_)
    · have h := hA c1
      exact wk_X7_bleed_227 X hM hK112 h hw (lv_sub hl [0, 1, 2, 3] rfl)
    · have h := hB c1
      refine lv_iload_n hx hb dX7_bleed_137 rfl (lv_at hl 1 rfl) ?_
      obtain ⟨hA, hB⟩ := h
      refine lv_if_eq (tgt := 227) hx hb dX7_bleed_138 (by decide) (fun c2 => ?_) (fun c2 => ?_)
      · have h := hA c2
        exact wk_X7_bleed_227 X hM hK112 h hw (lv_sub hl [0, 1, 2, 3] rfl)
      · have h := hB c2
        refine lv_iload hx hb dX7_bleed_141 (lv_at hl 4 rfl) ?_
        refine lv_aload_n hx hb dX7_bleed_143 rfl (lv_at hl 0 rfl) ?_
        refine ck_get hx hb hts inX7 hown hw (hM 10 (by decide) (by decide)) rfl rfl 10 (by decide) (hts _ (List.mem_of_getElem? (i := 7) rfl)) rfl dX7_bleed_144 ?_
        refine lv_iadd hx hb dX7_bleed_147 ?_
        refine lv_topi (fun x_3 ex_3 => ?_)
        have h := h x_3 ex_3
        refine lv_iconst (v := 2) hx hb dX7_bleed_148 (by decide) ?_
        refine lv_irem hx hb dX7_bleed_149 (by decide) ?_
        obtain ⟨hA, hB⟩ := h
        refine lv_if_ne (tgt := 157) hx hb dX7_bleed_150 (by decide) (fun c4 => ?_) (fun c4 => ?_)
        · have h := hA c4
          refine lv_iconst (v := 0) hx hb dX7_bleed_157 (by decide) ?_
          exact wk_X7_bleed_158 X hM hK112 hK130 h hw (lv_sub hl [0, 1, 2, 3, 4] rfl)
        · have h := hB c4
          refine lv_iconst (v := 1) hx hb dX7_bleed_153 (by decide) ?_
          refine lv_goto (tgt := 158) hx hb dX7_bleed_154 (by decide) ?_
          exact wk_X7_bleed_158 X hM hK112 hK130 h hw (lv_sub hl [0, 1, 2, 3, 4] rfl)
set_option maxHeartbeats 4000000 in
set_option maxRecDepth 100000 in
theorem wk_X7_bleed_112 {p : Program} {l : Launch} {e : Env} {s : State} {m : MethodId} {args : Array Value} {below : List Frame} {meth : Method} {c : Code} {G : ck_G} (X : ck_X p s m meth c args cX7_bleed 6 none RX7 wsX7_bleed) (hM : ck_inM G) {post : ck_S → Prop} : ∀ (fu : Nat) (σ : ck_S) (x1 : Int32) (x2 : Int32) (x3 : Int32) (H : Heap) (locs : List Loc) (ls : Array Slot), lk_4 (bd_X7_bleed_112 (ck_nc G) (ck_nb G) post) fu σ x1 x2 x3 → ck_H G s H locs σ → lv_has ls 6 [(0, .ref (ck_ad G 10 0)), (1, .int x1), (2, .int x2), (3, .int x3)] → W p l e ({ frames := 3, cells := 0, slots := 0, locals := 77 } : Room) s m args below meth c H locs 0 0 (MQ below (va_Qv post (ck_Q G) (ck_A G s.heap.size)) args s 0 0 (ck_A G s.heap.size)) (F0 m 112 ls []) := by
  obtain ⟨hx, hb, hr, hml, hown, hts, hlocks⟩ := id X
  have inX7 : ∀ w ∈ wsX70, w ∈ wsX7_bleed := fun _ h => List.mem_cons_of_mem _ (List.mem_append_right _ (h))
  intro fu
  induction fu with
  | zero => intro σ x1 x2 x3 H locs ls h hw hl; exact h.elim
  | succ fu hK112 =>
    intro σ x1 x2 x3 H locs ls h hw hl
    have h : bd_X7_bleed_112 (ck_nc G) (ck_nb G) post (lk_4 (bd_X7_bleed_112 (ck_nc G) (ck_nb G) post) fu) σ x1 x2 x3 := h
    unfold bd_X7_bleed_112 at h
    refine lv_iload_n hx hb dX7_bleed_112 rfl (lv_at hl 3 rfl) ?_
    refine lv_aload_n hx hb dX7_bleed_113 rfl (lv_at hl 0 rfl) ?_
    refine ck_get hx hb hts inX7 hown hw (hM 10 (by decide) (by decide)) rfl rfl 1 (by decide) (hts _ (List.mem_of_getElem? (i := 5) rfl)) rfl dX7_bleed_114 ?_
    obtain ⟨hA, hB⟩ := h
    refine lv_icmp_ge (tgt := 233) hx hb dX7_bleed_117 (by decide) (fun c1 => ?_) (fun c1 => ?_)
    · have h := hA c1
      exact ck_vret X hw h dX7_bleed_233
    · have h := hB c1
      refine lv_aload_n hx hb dX7_bleed_120 rfl (lv_at hl 0 rfl) ?_
      refine ck_get hx hb hts inX7 hown hw (hM 10 (by decide) (by decide)) rfl rfl 30 (by decide) (hts _ (List.mem_of_getElem? (i := 6) rfl)) rfl dX7_bleed_121 ?_
      refine lv_iload_n hx hb dX7_bleed_124 rfl (lv_at hl 3 rfl) ?_
      refine lv_iconst (v := 0) hx hb dX7_bleed_125 (by decide) ?_
      obtain ⟨n2, h⟩ := h
      refine ck_iast hx hb hw (hM 20 (by decide) (by decide)) (fun _ => rfl) n2 dX7_bleed_126 (fun H locs hw => ?_)
      obtain ⟨σ3, eσ3⟩ : ∃ z : ck_S, z = ck_ui σ 20 0 (Int32.toNatClampNeg x3) 0 := ⟨_, rfl⟩
      rw [← eσ3] at hw
      have h := h σ3 eσ3
      refine lv_iconst (v := 0) hx hb dX7_bleed_127 (by decide) ?_
      refine lv_istore (lv' := [(4, .int 0), (0, .ref (ck_ad G 10 0)), (1, .int x1), (2, .int x2), (3, .int x3)]) hx hb dX7_bleed_128 hl (by decide) rfl (fun ls hl => ?_)
      obtain ⟨fu, h⟩ := h
      exact wk_X7_bleed_130 X hM hK112 fu _ _ _ _ _ _ _ _ h hw (lv_sub hl [1, 2, 3, 4, 0] rfl)
set_option maxHeartbeats 4000000 in
set_option maxRecDepth 100000 in
theorem wk_X7_bleed_104 {p : Program} {l : Launch} {e : Env} {s : State} {m : MethodId} {args : Array Value} {below : List Frame} {meth : Method} {c : Code} {G : ck_G} (X : ck_X p s m meth c args cX7_bleed 6 none RX7 wsX7_bleed) (hM : ck_inM G) {post : ck_S → Prop} {K47 : ck_S → Int32 → Int32 → Int32 → Prop} (hK47 : ∀ (σ : ck_S) (x1 : Int32) (x2 : Int32) (x3 : Int32) (H : Heap) (locs : List Loc) (ls : Array Slot), K47 σ x1 x2 x3 → ck_H G s H locs σ → lv_has ls 6 [(0, .ref (ck_ad G 10 0)), (1, .int x1), (2, .int x2), (3, .int x3)] → W p l e ({ frames := 3, cells := 0, slots := 0, locals := 77 } : Room) s m args below meth c H locs 0 0 (MQ below (va_Qv post (ck_Q G) (ck_A G s.heap.size)) args s 0 0 (ck_A G s.heap.size)) (F0 m 47 ls [])) {σ : ck_S} {x1 : Int32} {x2 : Int32} {x3 : Int32} {H : Heap} {locs : List Loc} {ls : Array Slot} (h : sp_X7_bleed_104 (ck_nc G) (ck_nb G) post K47 σ x1 x2 x3) (hw : ck_H G s H locs σ) (hl : lv_has ls 6 [(0, .ref (ck_ad G 10 0)), (1, .int x1), (2, .int x2), (3, .int x3)]) : W p l e ({ frames := 3, cells := 0, slots := 0, locals := 77 } : Room) s m args below meth c H locs 0 0 (MQ below (va_Qv post (ck_Q G) (ck_A G s.heap.size)) args s 0 0 (ck_A G s.heap.size)) (F0 m 104 ls []) := by
  obtain ⟨hx, hb, hr, hml, hown, hts, hlocks⟩ := id X
  have inX7 : ∀ w ∈ wsX70, w ∈ wsX7_bleed := fun _ h => List.mem_cons_of_mem _ (List.mem_append_right _ (h))
  unfold sp_X7_bleed_104 at h
  obtain ⟨x_1, ex_1⟩ : ∃ z : Int32, z = x3 + 1 := ⟨_, rfl⟩
  have h := h x_1 ex_1
  refine lv_iinc (v := x_1) (lv' := [(3, .int x_1), (0, .ref (ck_ad G 10 0)), (1, .int x1), (2, .int x2)]) hx hb dX7_bleed_104 hl (k := 3) rfl (by rw [ex_1]; rfl) (by decide) rfl (fun ls hl => ?_)
  refine lv_goto (tgt := 47) hx hb dX7_bleed_107 (by decide) ?_
  exact hK47 _ _ _ _ _ _ _ h hw (lv_sub hl [1, 2, 3, 0] rfl)
set_option maxHeartbeats 4000000 in
set_option maxRecDepth 100000 in
theorem wk_X7_bleed_47 {p : Program} {l : Launch} {e : Env} {s : State} {m : MethodId} {args : Array Value} {below : List Frame} {meth : Method} {c : Code} {G : ck_G} (X : ck_X p s m meth c args cX7_bleed 6 none RX7 wsX7_bleed) (hM : ck_inM G) {post : ck_S → Prop} : ∀ (fu : Nat) (σ : ck_S) (x1 : Int32) (x2 : Int32) (x3 : Int32) (H : Heap) (locs : List Loc) (ls : Array Slot), lk_4 (bd_X7_bleed_47 (ck_nc G) (ck_nb G) post) fu σ x1 x2 x3 → ck_H G s H locs σ → lv_has ls 6 [(0, .ref (ck_ad G 10 0)), (1, .int x1), (2, .int x2), (3, .int x3)] → W p l e ({ frames := 3, cells := 0, slots := 0, locals := 77 } : Room) s m args below meth c H locs 0 0 (MQ below (va_Qv post (ck_Q G) (ck_A G s.heap.size)) args s 0 0 (ck_A G s.heap.size)) (F0 m 47 ls []) := by
  obtain ⟨hx, hb, hr, hml, hown, hts, hlocks⟩ := id X
  have inX7 : ∀ w ∈ wsX70, w ∈ wsX7_bleed := fun _ h => List.mem_cons_of_mem _ (List.mem_append_right _ (h))
  intro fu
  induction fu with
  | zero => intro σ x1 x2 x3 H locs ls h hw hl; exact h.elim
  | succ fu hK47 =>
    intro σ x1 x2 x3 H locs ls h hw hl
    have h : bd_X7_bleed_47 (ck_nc G) (ck_nb G) post (lk_4 (bd_X7_bleed_47 (ck_nc G) (ck_nb G) post) fu) σ x1 x2 x3 := h
    unfold bd_X7_bleed_47 at h
    refine lv_iload_n hx hb dX7_bleed_47 rfl (lv_at hl 3 rfl) ?_
    refine lv_bipush (v := 6) hx hb dX7_bleed_48 (by decide) ?_
    refine lv_aload_n hx hb dX7_bleed_50 rfl (lv_at hl 0 rfl) ?_
    refine ck_get hx hb hts inX7 hown hw (hM 10 (by decide) (by decide)) rfl rfl 1 (by decide) (hts _ (List.mem_of_getElem? (i := 5) rfl)) rfl dX7_bleed_51 ?_
    refine lv_imul hx hb dX7_bleed_54 ?_
    obtain ⟨hA, hB⟩ := h
    refine lv_icmp_ge (tgt := 110) hx hb dX7_bleed_55 (by decide) (fun c1 => ?_) (fun c1 => ?_)
    · have h := hA c1
      refine lv_iconst (v := 0) hx hb dX7_bleed_110 (by decide) ?_
      refine lv_istore_n (lv' := [(3, .int 0), (0, .ref (ck_ad G 10 0)), (1, .int x1), (2, .int x2)]) hx hb dX7_bleed_111 rfl hl (by decide) rfl (fun ls hl => ?_)
      obtain ⟨fu, h⟩ := h
      exact wk_X7_bleed_112 X hM fu _ _ _ _ _ _ _ h hw (lv_sub hl [1, 2, 3, 0] rfl)
    · have h := hB c1
      refine lv_aload_n hx hb dX7_bleed_58 rfl (lv_at hl 0 rfl) ?_
      refine lv_iload_n hx hb dX7_bleed_59 rfl (lv_at hl 3 rfl) ?_
      refine lv_bipush (v := 6) hx hb dX7_bleed_60 (by decide) ?_
      refine lv_idiv hx hb dX7_bleed_62 (by decide) ?_
      refine lv_iload_n hx hb dX7_bleed_63 rfl (lv_at hl 3 rfl) ?_
      refine lv_bipush (v := 6) hx hb dX7_bleed_64 (by decide) ?_
      refine lv_irem hx hb dX7_bleed_66 (by decide) ?_
      refine ck_callVi (rest := []) ⟨hx, hb, hml, hown, hts⟩ hw (hM 10 (by decide) (by decide)) rfl rfl (ct_X7_isValid l G hM h) (cwV 2 hts gX7_bleed_X7_isValid rfl rfl rfl (by decide +kernel) ⟨(Nat.le_of_ble_eq_true rfl), (Nat.le_of_ble_eq_true rfl)⟩) rfl hl.1 rfl (Nat.le_of_ble_eq_true rfl) dX7_bleed_67 ⟨(Nat.le_of_ble_eq_true rfl), (Nat.le_of_ble_eq_true rfl)⟩ (fun x_3 σ2 H locs h hw => ?_)
      obtain ⟨hA, hB⟩ := h
      refine lv_if_eq (tgt := 104) hx hb dX7_bleed_70 (by decide) (fun c4 => ?_) (fun c4 => ?_)
      · have h := hA c4
        exact wk_X7_bleed_104 X hM hK47 h hw (lv_sub hl [0, 1, 2, 3] rfl)
      · have h := hB c4
        refine lv_aload_n hx hb dX7_bleed_73 rfl (lv_at hl 0 rfl) ?_
        refine lv_iload_n hx hb dX7_bleed_74 rfl (lv_at hl 3 rfl) ?_
        refine lv_bipush (v := 6) hx hb dX7_bleed_75 (by decide) ?_
        refine lv_idiv hx hb dX7_bleed_77 (by decide) ?_
        refine lv_iload_n hx hb dX7_bleed_78 rfl (lv_at hl 3 rfl) ?_
        refine lv_bipush (v := 6) hx hb dX7_bleed_79 (by decide) ?_
        refine lv_irem hx hb dX7_bleed_81 (by decide) ?_
        refine lv_iconst (v := 0) hx hb dX7_bleed_82 (by decide) ?_
        refine ck_callVi (rest := []) ⟨hx, hb, hml, hown, hts⟩ hw (hM 10 (by decide) (by decide)) rfl rfl (ct_X7_numberOf l G hM h) (cwV 3 hts gX7_bleed_X7_numberOf rfl rfl rfl (by decide +kernel) ⟨(Nat.le_of_ble_eq_true rfl), (Nat.le_of_ble_eq_true rfl)⟩) rfl hl.1 rfl (Nat.le_of_ble_eq_true rfl) dX7_bleed_83 ⟨(Nat.le_of_ble_eq_true rfl), (Nat.le_of_ble_eq_true rfl)⟩ (fun x_6 σ5 H locs h hw => ?_)
        refine lv_iload_n hx hb dX7_bleed_86 rfl (lv_at hl 2 rfl) ?_
        obtain ⟨hA, hB⟩ := h
        refine lv_icmp_ge (tgt := 104) hx hb dX7_bleed_87 (by decide) (fun c7 => ?_) (fun c7 => ?_)
        · have h := hA c7
          exact wk_X7_bleed_104 X hM hK47 h hw (lv_sub hl [0, 1, 2, 3] rfl)
        · have h := hB c7
          refine lv_aload_n hx hb dX7_bleed_90 rfl (lv_at hl 0 rfl) ?_
          refine lv_iload_n hx hb dX7_bleed_91 rfl (lv_at hl 3 rfl) ?_
          refine lv_bipush (v := 6) hx hb dX7_bleed_92 (by decide) ?_
          refine lv_idiv hx hb dX7_bleed_94 (by decide) ?_
          refine lv_iload_n hx hb dX7_bleed_95 rfl (lv_at hl 3 rfl) ?_
          refine lv_bipush (v := 6) hx hb dX7_bleed_96 (by decide) ?_
          refine lv_irem hx hb dX7_bleed_98 (by decide) ?_
          refine lv_iconst (v := 0) hx hb dX7_bleed_99 (by decide) ?_
          refine ck_callVi (rest := []) ⟨hx, hb, hml, hown, hts⟩ hw (hM 10 (by decide) (by decide)) rfl rfl (ct_X7_numberOf l G hM h) (cwV 3 hts gX7_bleed_X7_numberOf rfl rfl rfl (by decide +kernel) ⟨(Nat.le_of_ble_eq_true rfl), (Nat.le_of_ble_eq_true rfl)⟩) rfl hl.1 rfl (Nat.le_of_ble_eq_true rfl) dX7_bleed_100 ⟨(Nat.le_of_ble_eq_true rfl), (Nat.le_of_ble_eq_true rfl)⟩ (fun x_9 σ8 H locs h hw => ?_)
          refine lv_istore_n (lv' := [(2, .int x_9), (0, .ref (ck_ad G 10 0)), (1, .int x1), (3, .int x3)]) hx hb dX7_bleed_103 rfl hl (by decide) rfl (fun ls hl => ?_)
          exact wk_X7_bleed_104 X hM hK47 h hw (lv_sub hl [1, 2, 0, 3] rfl)
set_option maxHeartbeats 4000000 in
set_option maxRecDepth 100000 in
theorem wk_X7_bleed_41 {p : Program} {l : Launch} {e : Env} {s : State} {m : MethodId} {args : Array Value} {below : List Frame} {meth : Method} {c : Code} {G : ck_G} (X : ck_X p s m meth c args cX7_bleed 6 none RX7 wsX7_bleed) (hM : ck_inM G) {post : ck_S → Prop} {σ : ck_S} {s0 : Int32} {H : Heap} {locs : List Loc} {ls : Array Slot} (h : sp_X7_bleed_41 (ck_nc G) (ck_nb G) post σ s0) (hw : ck_H G s H locs σ) (hl : lv_has ls 6 [(0, .ref (ck_ad G 10 0))]) : W p l e ({ frames := 3, cells := 0, slots := 0, locals := 77 } : Room) s m args below meth c H locs 0 0 (MQ below (va_Qv post (ck_Q G) (ck_A G s.heap.size)) args s 0 0 (ck_A G s.heap.size)) (F0 m 41 ls [.int s0]) := by
  obtain ⟨hx, hb, hr, hml, hown, hts, hlocks⟩ := id X
  have inX7 : ∀ w ∈ wsX70, w ∈ wsX7_bleed := fun _ h => List.mem_cons_of_mem _ (List.mem_append_right _ (h))
  unfold sp_X7_bleed_41 at h
  refine lv_istore_n (lv' := [(1, .int s0), (0, .ref (ck_ad G 10 0))]) hx hb dX7_bleed_41 rfl hl (by decide) rfl (fun ls hl => ?_)
  refine lv_ldc hx hb hown (hts _ (List.mem_of_getElem? (i := 4) rfl)) dX7_bleed_42 ?_
  refine lv_istore_n (lv' := [(2, .int 100000), (1, .int s0), (0, .ref (ck_ad G 10 0))]) hx hb dX7_bleed_44 rfl hl (by decide) rfl (fun ls hl => ?_)
  refine lv_iconst (v := 0) hx hb dX7_bleed_45 (by decide) ?_
  refine lv_istore_n (lv' := [(3, .int 0), (2, .int 100000), (1, .int s0), (0, .ref (ck_ad G 10 0))]) hx hb dX7_bleed_46 rfl hl (by decide) rfl (fun ls hl => ?_)
  obtain ⟨fu, h⟩ := h
  exact wk_X7_bleed_47 X hM fu _ _ _ _ _ _ _ h hw (lv_sub hl [3, 2, 1, 0] rfl)
set_option maxHeartbeats 4000000 in
set_option maxRecDepth 100000 in
theorem wk_X7_bleed_40 {p : Program} {l : Launch} {e : Env} {s : State} {m : MethodId} {args : Array Value} {below : List Frame} {meth : Method} {c : Code} {G : ck_G} (X : ck_X p s m meth c args cX7_bleed 6 none RX7 wsX7_bleed) (hM : ck_inM G) {post : ck_S → Prop} {σ : ck_S} {H : Heap} {locs : List Loc} {ls : Array Slot} (h : sp_X7_bleed_40 (ck_nc G) (ck_nb G) post σ) (hw : ck_H G s H locs σ) (hl : lv_has ls 6 [(0, .ref (ck_ad G 10 0))]) : W p l e ({ frames := 3, cells := 0, slots := 0, locals := 77 } : Room) s m args below meth c H locs 0 0 (MQ below (va_Qv post (ck_Q G) (ck_A G s.heap.size)) args s 0 0 (ck_A G s.heap.size)) (F0 m 40 ls []) := by
  obtain ⟨hx, hb, hr, hml, hown, hts, hlocks⟩ := id X
  have inX7 : ∀ w ∈ wsX70, w ∈ wsX7_bleed := fun _ h => List.mem_cons_of_mem _ (List.mem_append_right _ (h))
  unfold sp_X7_bleed_40 at h
  refine lv_iconst (v := 0) hx hb dX7_bleed_40 (by decide) ?_
  exact wk_X7_bleed_41 X hM h hw (lv_sub hl [0] rfl)
set_option maxHeartbeats 4000000 in
set_option maxRecDepth 100000 in
theorem wk_X7_bleed_15 {p : Program} {l : Launch} {e : Env} {s : State} {m : MethodId} {args : Array Value} {below : List Frame} {meth : Method} {c : Code} {G : ck_G} (X : ck_X p s m meth c args cX7_bleed 6 none RX7 wsX7_bleed) (hM : ck_inM G) {post : ck_S → Prop} {σ : ck_S} {H : Heap} {locs : List Loc} {ls : Array Slot} (h : sp_X7_bleed_15 (ck_nc G) (ck_nb G) post σ) (hw : ck_H G s H locs σ) (hl : lv_has ls 6 [(0, .ref (ck_ad G 10 0))]) : W p l e ({ frames := 3, cells := 0, slots := 0, locals := 77 } : Room) s m args below meth c H locs 0 0 (MQ below (va_Qv post (ck_Q G) (ck_A G s.heap.size)) args s 0 0 (ck_A G s.heap.size)) (F0 m 15 ls []) := by
  obtain ⟨hx, hb, hr, hml, hown, hts, hlocks⟩ := id X
  have inX7 : ∀ w ∈ wsX70, w ∈ wsX7_bleed := fun _ h => List.mem_cons_of_mem _ (List.mem_append_right _ (h))
  unfold sp_X7_bleed_15 at h
  refine lv_aload_n hx hb dX7_bleed_15 rfl (lv_at hl 0 rfl) ?_
  refine ck_callVi (rest := []) ⟨hx, hb, hml, hown, hts⟩ hw (hM 10 (by decide) (by decide)) rfl rfl (ct_X7_isSerious l G hM h) (cwV 0 hts gX7_bleed_X7_isSerious rfl rfl rfl (by decide +kernel) ⟨(Nat.le_of_ble_eq_true rfl), (Nat.le_of_ble_eq_true rfl)⟩) rfl hl.1 rfl (Nat.le_of_ble_eq_true rfl) dX7_bleed_16 ⟨(Nat.le_of_ble_eq_true rfl), (Nat.le_of_ble_eq_true rfl)⟩ (fun x_2 σ1 H locs h hw => ?_)
  obtain ⟨hA, hB⟩ := h
  refine lv_if_ne (tgt := 40) hx hb dX7_bleed_19 (by decide) (fun c3 => ?_) (fun c3 => ?_)
  · have h := hA c3
    exact wk_X7_bleed_40 X hM h hw (lv_sub hl [0] rfl)
  · have h := hB c3
    refine lv_aload_n hx hb dX7_bleed_22 rfl (lv_at hl 0 rfl) ?_
    refine ck_get hx hb hts inX7 hown hw (hM 10 (by decide) (by decide)) rfl rfl 13 (by decide) (hts _ (List.mem_of_getElem? (i := 2) rfl)) rfl dX7_bleed_23 ?_
    refine ck_callSl (rest := []) ⟨hx, hb, hml, hown, hts⟩ hw (ct_X7_sizeOf l G h) (va_cwS 1 hts gX7_bleed_X7_sizeOf rfl rfl rfl (by decide +kernel) ⟨(Nat.le_of_ble_eq_true rfl), (Nat.le_of_ble_eq_true rfl)⟩) rfl hl.1 rfl (Nat.le_of_ble_eq_true rfl) dX7_bleed_26 ⟨(Nat.le_of_ble_eq_true rfl), (Nat.le_of_ble_eq_true rfl)⟩ (fun y_5 σ4 H locs h hw => ?_)
    refine lv_ldc2 hx hb hown (hts _ (List.mem_of_getElem? (i := 3) rfl)) dX7_bleed_29 ?_
    refine W.lcmp hx hb dX7_bleed_32 ?_
    obtain ⟨hA, hB⟩ := h
    refine lv_if_ge (tgt := 40) hx hb dX7_bleed_33 (by decide) (fun c6 => ?_) (fun c6 => ?_)
    · have h := hA c6
      exact wk_X7_bleed_40 X hM h hw (lv_sub hl [0] rfl)
    · have h := hB c6
      refine lv_iconst (v := 1) hx hb dX7_bleed_36 (by decide) ?_
      refine lv_goto (tgt := 41) hx hb dX7_bleed_37 (by decide) ?_
      exact wk_X7_bleed_41 X hM h hw (lv_sub hl [0] rfl)
set_option maxHeartbeats 4000000 in
set_option maxRecDepth 100000 in
theorem wk_X7_bleed_0 {p : Program} {l : Launch} {e : Env} {s : State} {m : MethodId} {args : Array Value} {below : List Frame} {meth : Method} {c : Code} {G : ck_G} (X : ck_X p s m meth c args cX7_bleed 6 none RX7 wsX7_bleed) (hM : ck_inM G) {post : ck_S → Prop} {σ : ck_S} {H : Heap} {locs : List Loc} {ls : Array Slot} (h : sp_X7_bleed (ck_nc G) (ck_nb G) σ post) (hw : ck_H G s H locs σ) (hl : lv_has ls 6 [(0, .ref (ck_ad G 10 0))]) : W p l e ({ frames := 3, cells := 0, slots := 0, locals := 77 } : Room) s m args below meth c H locs 0 0 (MQ below (va_Qv post (ck_Q G) (ck_A G s.heap.size)) args s 0 0 (ck_A G s.heap.size)) (F0 m 0 ls []) := by
  obtain ⟨hx, hb, hr, hml, hown, hts, hlocks⟩ := id X
  have inX7 : ∀ w ∈ wsX70, w ∈ wsX7_bleed := fun _ h => List.mem_cons_of_mem _ (List.mem_append_right _ (h))
  unfold sp_X7_bleed at h
  refine lv_aload_n hx hb dX7_bleed_0 rfl (lv_at hl 0 rfl) ?_
  refine ck_get hx hb hts inX7 hown hw (hM 10 (by decide) (by decide)) rfl rfl 28 (by decide) (hts _ (List.mem_of_getElem? (i := 1) rfl)) rfl dX7_bleed_1 ?_
  obtain ⟨hA, hB⟩ := h
  refine lv_if_eq (tgt := 15) hx hb dX7_bleed_4 (by decide) (fun c1 => ?_) (fun c1 => ?_)
  · have h := hA c1
    exact wk_X7_bleed_15 X hM h hw (lv_sub hl [0] rfl)
  · have h := hB c1
    refine lv_aload_n hx hb dX7_bleed_7 rfl (lv_at hl 0 rfl) ?_
    refine ck_get hx hb hts inX7 hown hw (hM 10 (by decide) (by decide)) rfl rfl 28 (by decide) (hts _ (List.mem_of_getElem? (i := 1) rfl)) rfl dX7_bleed_8 ?_
    refine lv_iconst (v := 3) hx hb dX7_bleed_11 (by decide) ?_
    obtain ⟨hA, hB⟩ := h
    refine lv_icmp_ne (tgt := 40) hx hb dX7_bleed_12 (by decide) (fun c2 => ?_) (fun c2 => ?_)
    · have h := hA c2
      exact wk_X7_bleed_40 X hM h hw (lv_sub hl [0] rfl)
    · have h := hB c2
      exact wk_X7_bleed_15 X hM h hw (lv_sub hl [0] rfl)
set_option maxHeartbeats 4000000 in
set_option maxRecDepth 100000 in
theorem ct_X7_bleed (l : Launch) (G : ck_G) (hM : ck_inM G) {σ : ck_S} {post : ck_S → Prop} (h : sp_X7_bleed (ck_nc G) (ck_nb G) σ post) : ck_Mv l yX7_bleed wsX7_bleed ({ frames := 3, cells := 0, slots := 0, locals := 77 } : Room) G σ [.ref (ck_ad G 10 0)] post := by
  intro sz
  refine Met.ofW (cc := cX7_bleed) (maxL := 6) (ret := none) (by decide) rfl ?_
  intro p e s m args below meth c s₁ B hml hv
  obtain ⟨rfl, rfl, hw⟩ := ck_enter hv
  have hl := lv_entry ([.ref (ck_ad G 10 0)]) (n := 6) (Nat.le_of_ble_eq_true rfl)
  rw [lg_entry_eq]
  generalize (lg_sl ([.ref (ck_ad G 10 0)]) ++ List.replicate (6 - (lg_sl ([.ref (ck_ad G 10 0)])).length) Slot.unset).toArray = ls at hl ⊢
  have hl : lv_has ls 6 [(0, .ref (ck_ad G 10 0))] := hl
  exact wk_X7_bleed_0 ⟨B.exec, B.bytes, B.returns, hml, findClass_of_methodNamed B.named, atoms_spec (ws := wsX7_bleed) B.pre, B.notSynchronized⟩ hM h hw hl
def bd_X7_putBlock_3 (nc nb : Nat) (post : ck_S → Prop) (K3 : ck_S → Int32 → Int32 → Int64 → Int32 → Prop) (σ : ck_S) (x1 : Int32) (x2 : Int32) (x3 : Int64) (x5 : Int32) : Prop := ((x2 ≤ x5 → (post σ)) ∧ (¬ x2 ≤ x5 → (∀ x_2, x_2 = (x1 + x5) → (vp_in x_2 32) ∧ ∀ σ4, σ4 = ck_ui σ 12 0 (Int32.toNatClampNeg x_2) (((x3 >>> ((8 * x5).toInt64 &&& 63)).toInt32) &&& 255) → ∀ x_5, x_5 = x5 + 1 → K3 σ4 x1 x2 x3 x_5)))
def sp_X7_putBlock (nc nb : Nat) (σ : ck_S) (a0 : Int32) (a1 : Int32) (a2 : Int64) (post : ck_S → Prop) : Prop := lx_5 (bd_X7_putBlock_3 nc nb post) σ a0 a1 a2 0
set_option maxHeartbeats 4000000 in
set_option maxRecDepth 100000 in
theorem wk_X7_putBlock_3 {p : Program} {l : Launch} {e : Env} {s : State} {m : MethodId} {args : Array Value} {below : List Frame} {meth : Method} {c : Code} {G : ck_G} (X : ck_X p s m meth c args cX7_putBlock 6 none RX7 wsX7_putBlock) (hM : ck_inM G) {post : ck_S → Prop} : ∀ (fu : Nat) (σ : ck_S) (x1 : Int32) (x2 : Int32) (x3 : Int64) (x5 : Int32) (H : Heap) (locs : List Loc) (ls : Array Slot), lk_5 (bd_X7_putBlock_3 (ck_nc G) (ck_nb G) post) fu σ x1 x2 x3 x5 → ck_H G s H locs σ → lv_has ls 6 [(0, .ref (ck_ad G 10 0)), (1, .int x1), (2, .int x2), (3, .long x3), (5, .int x5)] → W p l e ({ frames := 0, cells := 0, slots := 0, locals := 0 } : Room) s m args below meth c H locs 0 0 (MQ below (va_Qv post (ck_Q G) (ck_A G s.heap.size)) args s 0 0 (ck_A G s.heap.size)) (F0 m 3 ls []) := by
  obtain ⟨hx, hb, hr, hml, hown, hts, hlocks⟩ := id X
  have inX7 : ∀ w ∈ wsX70, w ∈ wsX7_putBlock := fun _ h => List.mem_cons_of_mem _ (List.mem_append_right _ (h))
  intro fu
  induction fu with
  | zero => intro σ x1 x2 x3 x5 H locs ls h hw hl; exact h.elim
  | succ fu hK3 =>
    intro σ x1 x2 x3 x5 H locs ls h hw hl
    have h : bd_X7_putBlock_3 (ck_nc G) (ck_nb G) post (lk_5 (bd_X7_putBlock_3 (ck_nc G) (ck_nb G) post) fu) σ x1 x2 x3 x5 := h
    unfold bd_X7_putBlock_3 at h
    refine lv_iload hx hb dX7_putBlock_3 (lv_at hl 4 rfl) ?_
    refine lv_iload_n hx hb dX7_putBlock_5 rfl (lv_at hl 2 rfl) ?_
    obtain ⟨hA, hB⟩ := h
    refine lv_icmp_ge (tgt := 36) hx hb dX7_putBlock_6 (by decide) (fun c1 => ?_) (fun c1 => ?_)
    · have h := hA c1
      exact ck_vret X hw h dX7_putBlock_36
    · have h := hB c1
      refine lv_aload_n hx hb dX7_putBlock_9 rfl (lv_at hl 0 rfl) ?_
      refine ck_get hx hb hts inX7 hown hw (hM 10 (by decide) (by decide)) rfl rfl 7 (by decide) (hts _ (List.mem_of_getElem? (i := 1) rfl)) rfl dX7_putBlock_10 ?_
      refine lv_iload_n hx hb dX7_putBlock_13 rfl (lv_at hl 1 rfl) ?_
      refine lv_iload hx hb dX7_putBlock_14 (lv_at hl 4 rfl) ?_
      refine lv_iadd hx hb dX7_putBlock_16 ?_
      refine lv_topi (fun x_2 ex_2 => ?_)
      have h := h x_2 ex_2
      refine lv_lload_n hx hb dX7_putBlock_17 rfl (lv_at hl 3 rfl) ?_
      refine lv_bipush (v := 8) hx hb dX7_putBlock_18 (by decide) ?_
      refine lv_iload hx hb dX7_putBlock_20 (lv_at hl 4 rfl) ?_
      refine lv_imul hx hb dX7_putBlock_22 ?_
      refine lv_lshr hx hb dX7_putBlock_23 rfl ?_
      refine lv_l2i hx hb dX7_putBlock_24 rfl ?_
      refine lv_sipush (v := 255) hx hb dX7_putBlock_25 (by decide) ?_
      refine lv_iand hx hb dX7_putBlock_28 ?_
      obtain ⟨n3, h⟩ := h
      refine ck_iast hx hb hw (hM 12 (by decide) (by decide)) (fun _ => rfl) n3 dX7_putBlock_29 (fun H locs hw => ?_)
      obtain ⟨σ4, eσ4⟩ : ∃ z : ck_S, z = ck_ui σ 12 0 (Int32.toNatClampNeg x_2) (((x3 >>> ((8 * x5).toInt64 &&& 63)).toInt32) &&& 255) := ⟨_, rfl⟩
      rw [← eσ4] at hw
      have h := h σ4 eσ4
      obtain ⟨x_5, ex_5⟩ : ∃ z : Int32, z = x5 + 1 := ⟨_, rfl⟩
      have h := h x_5 ex_5
      refine lv_iinc (v := x_5) (lv' := [(5, .int x_5), (0, .ref (ck_ad G 10 0)), (1, .int x1), (2, .int x2), (3, .long x3)]) hx hb dX7_putBlock_30 hl (k := 4) rfl (by rw [ex_5]; rfl) (by decide) rfl (fun ls hl => ?_)
      refine lv_goto (tgt := 3) hx hb dX7_putBlock_33 (by decide) ?_
      exact hK3 _ _ _ _ _ _ _ _ h hw (lv_sub hl [1, 2, 3, 4, 0] rfl)
set_option maxHeartbeats 4000000 in
set_option maxRecDepth 100000 in
theorem wk_X7_putBlock_0 {p : Program} {l : Launch} {e : Env} {s : State} {m : MethodId} {args : Array Value} {below : List Frame} {meth : Method} {c : Code} {G : ck_G} (X : ck_X p s m meth c args cX7_putBlock 6 none RX7 wsX7_putBlock) (hM : ck_inM G) {post : ck_S → Prop} {σ : ck_S} {a0 : Int32} {a1 : Int32} {a2 : Int64} {H : Heap} {locs : List Loc} {ls : Array Slot} (h : sp_X7_putBlock (ck_nc G) (ck_nb G) σ a0 a1 a2 post) (hw : ck_H G s H locs σ) (hl : lv_has ls 6 [(0, .ref (ck_ad G 10 0)), (1, .int a0), (2, .int a1), (3, .long a2)]) : W p l e ({ frames := 0, cells := 0, slots := 0, locals := 0 } : Room) s m args below meth c H locs 0 0 (MQ below (va_Qv post (ck_Q G) (ck_A G s.heap.size)) args s 0 0 (ck_A G s.heap.size)) (F0 m 0 ls []) := by
  obtain ⟨hx, hb, hr, hml, hown, hts, hlocks⟩ := id X
  have inX7 : ∀ w ∈ wsX70, w ∈ wsX7_putBlock := fun _ h => List.mem_cons_of_mem _ (List.mem_append_right _ (h))
  unfold sp_X7_putBlock at h
  refine lv_iconst (v := 0) hx hb dX7_putBlock_0 (by decide) ?_
  refine lv_istore (lv' := [(5, .int 0), (0, .ref (ck_ad G 10 0)), (1, .int a0), (2, .int a1), (3, .long a2)]) hx hb dX7_putBlock_1 hl (by decide) rfl (fun ls hl => ?_)
  obtain ⟨fu, h⟩ := h
  exact wk_X7_putBlock_3 X hM fu _ _ _ _ _ _ _ _ h hw (lv_sub hl [1, 2, 3, 4, 0] rfl)
set_option maxHeartbeats 4000000 in
set_option maxRecDepth 100000 in
theorem ct_X7_putBlock (l : Launch) (G : ck_G) (hM : ck_inM G) {a0 : Int32} {a1 : Int32} {a2 : Int64} {σ : ck_S} {post : ck_S → Prop} (h : sp_X7_putBlock (ck_nc G) (ck_nb G) σ a0 a1 a2 post) : ck_Mv l yX7_putBlock wsX7_putBlock ({ frames := 0, cells := 0, slots := 0, locals := 0 } : Room) G σ [.ref (ck_ad G 10 0), .int a0, .int a1, .long a2] post := by
  intro sz
  refine Met.ofW (cc := cX7_putBlock) (maxL := 6) (ret := none) (by decide) rfl ?_
  intro p e s m args below meth c s₁ B hml hv
  obtain ⟨rfl, rfl, hw⟩ := ck_enter hv
  have hl := lv_entry ([.ref (ck_ad G 10 0), .int a0, .int a1, .long a2]) (n := 6) (Nat.le_of_ble_eq_true rfl)
  rw [lg_entry_eq]
  generalize (lg_sl ([.ref (ck_ad G 10 0), .int a0, .int a1, .long a2]) ++ List.replicate (6 - (lg_sl ([.ref (ck_ad G 10 0), .int a0, .int a1, .long a2])).length) Slot.unset).toArray = ls at hl ⊢
  have hl : lv_has ls 6 [(0, .ref (ck_ad G 10 0)), (1, .int a0), (2, .int a1), (3, .long a2)] := hl
  exact wk_X7_putBlock_0 ⟨B.exec, B.bytes, B.returns, hml, findClass_of_methodNamed B.named, atoms_spec (ws := wsX7_putBlock) B.pre, B.notSynchronized⟩ hM h hw hl
def bd_X7_write_120 (nc nb : Nat) (post : ck_S → Prop) (K120 : ck_S → Int32 → Int32 → Prop) (σ : ck_S) (x2 : Int32) (x3 : Int32) : Prop := (((ck_gi σ 10 0 31) ≤ x3 → (∀ σ2, σ2 = ck_ui σ 10 0 8 ((ck_gi σ 10 0 8) + 1) → ((32 ≤ (ck_gi σ2 10 0 31) → (∀ σ4, σ4 = ck_ui σ2 10 0 9 0 → post σ4)) ∧ (¬ 32 ≤ (ck_gi σ2 10 0 31) → (∀ σ5, σ5 = ck_ui σ2 10 0 9 1 → post σ5))))) ∧ (¬ (ck_gi σ 10 0 31) ≤ x3 → (∀ x_6, x_6 = (x2 + x3) → (vp_in x3 32) ∧ (vp_in x_6 512) ∧ ∀ σ9, σ9 = ck_ui σ 11 0 (Int32.toNatClampNeg x_6) (ck_gi σ 12 0 (Int32.toNatClampNeg x3)) → ∀ x_10, x_10 = x3 + 1 → K120 σ9 x2 x_10)))
def bd_X7_write_71 (nc nb : Nat) (post : ck_S → Prop) (K71 : ck_S → Int32 → Int32 → Prop) (σ : ck_S) (x1 : Int32) (x2 : Int32) : Prop := ((30 ≤ x2 → (sp_X7_putBlock nc nb σ 30 2 (x1.toInt64) (fun σ2 => ∀ x_4, x_4 = ((ck_gi σ2 10 0 8) - 1) → ∀ x_5, x_5 = (ck_gi σ2 10 0 2) → (¬ x_5 = 0) ∧ ∀ x_7, x_7 = (32 * (x_4 - x_4 / x_5 * x_5)) → lx_3 (bd_X7_write_120 nc nb post) σ2 x_7 0))) ∧ (¬ 30 ≤ x2 → ((vp_in x2 32) ∧ sp_X7_checked nc nb σ x1 (ck_gi σ 12 0 (Int32.toNatClampNeg x2)) (fun x_10 σ9 => ∀ x_11, x_11 = x2 + 1 → K71 σ9 x_10 x_11))))
def sp_X7_write (nc nb : Nat) (σ : ck_S) (post : ck_S → Prop) : Prop := sp_X7_putBlock nc nb σ 0 4 ((ck_gi σ 10 0 8).toInt64) (fun σ1 => sp_X7_putBlock nc nb σ1 4 4 ((ck_gi σ1 10 0 10).toInt64) (fun σ3 => sp_X7_putBlock nc nb σ3 8 8 (ck_gj σ3 10 0 11) (fun σ5 => sp_X7_putBlock nc nb σ5 16 2 ((ck_gi σ5 10 0 26).toInt64) (fun σ7 => sp_X7_putBlock nc nb σ7 18 2 ((ck_gi σ7 10 0 28).toInt64) (fun σ9 => sp_X7_putBlock nc nb σ9 20 10 0 (fun σ11 => lx_3 (bd_X7_write_71 nc nb post) σ11 0 0))))))
set_option maxHeartbeats 4000000 in
set_option maxRecDepth 100000 in
theorem wk_X7_write_120 {p : Program} {l : Launch} {e : Env} {s : State} {m : MethodId} {args : Array Value} {below : List Frame} {meth : Method} {c : Code} {G : ck_G} (X : ck_X p s m meth c args cX7_write 4 none RX7 wsX7_write) (hM : ck_inM G) {post : ck_S → Prop} : ∀ (fu : Nat) (σ : ck_S) (x2 : Int32) (x3 : Int32) (H : Heap) (locs : List Loc) (ls : Array Slot), lk_3 (bd_X7_write_120 (ck_nc G) (ck_nb G) post) fu σ x2 x3 → ck_H G s H locs σ → lv_has ls 4 [(0, .ref (ck_ad G 10 0)), (2, .int x2), (3, .int x3)] → W p l e ({ frames := 1, cells := 0, slots := 0, locals := 25 } : Room) s m args below meth c H locs 0 0 (MQ below (va_Qv post (ck_Q G) (ck_A G s.heap.size)) args s 0 0 (ck_A G s.heap.size)) (F0 m 120 ls []) := by
  obtain ⟨hx, hb, hr, hml, hown, hts, hlocks⟩ := id X
  have inX7 : ∀ w ∈ wsX70, w ∈ wsX7_write := fun _ h => List.mem_cons_of_mem _ (List.mem_append_right _ (h))
  intro fu
  induction fu with
  | zero => intro σ x2 x3 H locs ls h hw hl; exact h.elim
  | succ fu hK120 =>
    intro σ x2 x3 H locs ls h hw hl
    have h : bd_X7_write_120 (ck_nc G) (ck_nb G) post (lk_3 (bd_X7_write_120 (ck_nc G) (ck_nb G) post) fu) σ x2 x3 := h
    unfold bd_X7_write_120 at h
    refine lv_iload_n hx hb dX7_write_120 rfl (lv_at hl 2 rfl) ?_
    refine lv_aload_n hx hb dX7_write_121 rfl (lv_at hl 0 rfl) ?_
    refine ck_get hx hb hts inX7 hown hw (hM 10 (by decide) (by decide)) rfl rfl 31 (by decide) (hts _ (List.mem_of_getElem? (i := 8) rfl)) rfl dX7_write_122 ?_
    obtain ⟨hA, hB⟩ := h
    refine lv_icmp_ge (tgt := 148) hx hb dX7_write_125 (by decide) (fun c1 => ?_) (fun c1 => ?_)
    · have h := hA c1
      refine lv_aload_n hx hb dX7_write_148 rfl (lv_at hl 0 rfl) ?_
      refine lv_dup hx hb dX7_write_149 rfl ?_
      refine ck_get hx hb hts inX7 hown hw (hM 10 (by decide) (by decide)) rfl rfl 8 (by decide) (hts _ (List.mem_of_getElem? (i := 1) rfl)) rfl dX7_write_150 ?_
      refine lv_iconst (v := 1) hx hb dX7_write_153 (by decide) ?_
      refine lv_iadd hx hb dX7_write_154 ?_
      refine ck_puti hx hb hts inX7 tyX7 tyX7_ok nmX7 hown hw (hM 10 (by decide) (by decide)) rfl rfl 8 (by decide) (hts _ (List.mem_of_getElem? (i := 1) rfl)) rfl rfl rfl (Nat.le_of_ble_eq_true rfl) rfl dX7_write_155 (fun H locs hw => ?_)
      obtain ⟨σ2, eσ2⟩ : ∃ z : ck_S, z = ck_ui σ 10 0 8 ((ck_gi σ 10 0 8) + 1) := ⟨_, rfl⟩
      rw [← eσ2] at hw
      have h := h σ2 eσ2
      refine lv_aload_n hx hb dX7_write_158 rfl (lv_at hl 0 rfl) ?_
      refine lv_aload_n hx hb dX7_write_159 rfl (lv_at hl 0 rfl) ?_
      refine ck_get hx hb hts inX7 hown hw (hM 10 (by decide) (by decide)) rfl rfl 31 (by decide) (hts _ (List.mem_of_getElem? (i := 8) rfl)) rfl dX7_write_160 ?_
      refine lv_bipush (v := 32) hx hb dX7_write_163 (by decide) ?_
      obtain ⟨hA, hB⟩ := h
      refine lv_icmp_ge (tgt := 172) hx hb dX7_write_165 (by decide) (fun c3 => ?_) (fun c3 => ?_)
      · have h := hA c3
        refine lv_iconst (v := 0) hx hb dX7_write_172 (by decide) ?_
        refine ck_puti hx hb hts inX7 tyX7 tyX7_ok nmX7 hown hw (hM 10 (by decide) (by decide)) rfl rfl 9 (by decide) (hts _ (List.mem_of_getElem? (i := 10) rfl)) rfl rfl rfl (Nat.le_of_ble_eq_true rfl) rfl dX7_write_173 (fun H locs hw => ?_)
        obtain ⟨σ4, eσ4⟩ : ∃ z : ck_S, z = ck_ui σ2 10 0 9 0 := ⟨_, rfl⟩
        rw [← eσ4] at hw
        have h := h σ4 eσ4
        exact ck_vret X hw h dX7_write_176
      · have h := hB c3
        refine lv_iconst (v := 1) hx hb dX7_write_168 (by decide) ?_
        refine lv_goto (tgt := 173) hx hb dX7_write_169 (by decide) ?_
        refine ck_puti hx hb hts inX7 tyX7 tyX7_ok nmX7 hown hw (hM 10 (by decide) (by decide)) rfl rfl 9 (by decide) (hts _ (List.mem_of_getElem? (i := 10) rfl)) rfl rfl rfl (Nat.le_of_ble_eq_true rfl) rfl dX7_write_173 (fun H locs hw => ?_)
        obtain ⟨σ5, eσ5⟩ : ∃ z : ck_S, z = ck_ui σ2 10 0 9 1 := ⟨_, rfl⟩
        rw [← eσ5] at hw
        have h := h σ5 eσ5
        exact ck_vret X hw h dX7_write_176
    · have h := hB c1
      refine lv_aload_n hx hb dX7_write_128 rfl (lv_at hl 0 rfl) ?_
      refine ck_get hx hb hts inX7 hown hw (hM 10 (by decide) (by decide)) rfl rfl 6 (by decide) (hts _ (List.mem_of_getElem? (i := 9) rfl)) rfl dX7_write_129 ?_
      refine lv_iload_n hx hb dX7_write_132 rfl (lv_at hl 1 rfl) ?_
      refine lv_iload_n hx hb dX7_write_133 rfl (lv_at hl 2 rfl) ?_
      refine lv_iadd hx hb dX7_write_134 ?_
      refine lv_topi (fun x_6 ex_6 => ?_)
      have h := h x_6 ex_6
      refine lv_aload_n hx hb dX7_write_135 rfl (lv_at hl 0 rfl) ?_
      refine ck_get hx hb hts inX7 hown hw (hM 10 (by decide) (by decide)) rfl rfl 7 (by decide) (hts _ (List.mem_of_getElem? (i := 6) rfl)) rfl dX7_write_136 ?_
      refine lv_iload_n hx hb dX7_write_139 rfl (lv_at hl 2 rfl) ?_
      obtain ⟨n7, h⟩ := h
      refine ck_iald hx hb hw (hM 12 (by decide) (by decide)) rfl n7 dX7_write_140 ?_
      obtain ⟨n8, h⟩ := h
      refine ck_iast hx hb hw (hM 11 (by decide) (by decide)) (fun _ => rfl) n8 dX7_write_141 (fun H locs hw => ?_)
      obtain ⟨σ9, eσ9⟩ : ∃ z : ck_S, z = ck_ui σ 11 0 (Int32.toNatClampNeg x_6) (ck_gi σ 12 0 (Int32.toNatClampNeg x3)) := ⟨_, rfl⟩
      rw [← eσ9] at hw
      have h := h σ9 eσ9
      obtain ⟨x_10, ex_10⟩ : ∃ z : Int32, z = x3 + 1 := ⟨_, rfl⟩
      have h := h x_10 ex_10
      refine lv_iinc (v := x_10) (lv' := [(3, .int x_10), (0, .ref (ck_ad G 10 0)), (2, .int x2)]) hx hb dX7_write_142 hl (k := 2) rfl (by rw [ex_10]; rfl) (by decide) rfl (fun ls hl => ?_)
      refine lv_goto (tgt := 120) hx hb dX7_write_145 (by decide) ?_
      exact hK120 _ _ _ _ _ _ h hw (lv_sub hl [1, 2, 0] rfl)
set_option maxHeartbeats 4000000 in
set_option maxRecDepth 100000 in
theorem wk_X7_write_71 {p : Program} {l : Launch} {e : Env} {s : State} {m : MethodId} {args : Array Value} {below : List Frame} {meth : Method} {c : Code} {G : ck_G} (X : ck_X p s m meth c args cX7_write 4 none RX7 wsX7_write) (hM : ck_inM G) {post : ck_S → Prop} : ∀ (fu : Nat) (σ : ck_S) (x1 : Int32) (x2 : Int32) (H : Heap) (locs : List Loc) (ls : Array Slot), lk_3 (bd_X7_write_71 (ck_nc G) (ck_nb G) post) fu σ x1 x2 → ck_H G s H locs σ → lv_has ls 4 [(0, .ref (ck_ad G 10 0)), (1, .int x1), (2, .int x2)] → W p l e ({ frames := 1, cells := 0, slots := 0, locals := 25 } : Room) s m args below meth c H locs 0 0 (MQ below (va_Qv post (ck_Q G) (ck_A G s.heap.size)) args s 0 0 (ck_A G s.heap.size)) (F0 m 71 ls []) := by
  obtain ⟨hx, hb, hr, hml, hown, hts, hlocks⟩ := id X
  have inX7 : ∀ w ∈ wsX70, w ∈ wsX7_write := fun _ h => List.mem_cons_of_mem _ (List.mem_append_right _ (h))
  intro fu
  induction fu with
  | zero => intro σ x1 x2 H locs ls h hw hl; exact h.elim
  | succ fu hK71 =>
    intro σ x1 x2 H locs ls h hw hl
    have h : bd_X7_write_71 (ck_nc G) (ck_nb G) post (lk_3 (bd_X7_write_71 (ck_nc G) (ck_nb G) post) fu) σ x1 x2 := h
    unfold bd_X7_write_71 at h
    refine lv_iload_n hx hb dX7_write_71 rfl (lv_at hl 2 rfl) ?_
    refine lv_bipush (v := 30) hx hb dX7_write_72 (by decide) ?_
    obtain ⟨hA, hB⟩ := h
    refine lv_icmp_ge (tgt := 94) hx hb dX7_write_74 (by decide) (fun c1 => ?_) (fun c1 => ?_)
    · have h := hA c1
      refine lv_aload_n hx hb dX7_write_94 rfl (lv_at hl 0 rfl) ?_
      refine lv_bipush (v := 30) hx hb dX7_write_95 (by decide) ?_
      refine lv_iconst (v := 2) hx hb dX7_write_97 (by decide) ?_
      refine lv_iload_n hx hb dX7_write_98 rfl (lv_at hl 1 rfl) ?_
      refine lv_i2l hx hb dX7_write_99 rfl ?_
      refine ck_callVv (rest := []) ⟨hx, hb, hml, hown, hts⟩ hw (hM 10 (by decide) (by decide)) rfl rfl (ct_X7_putBlock l G hM h) (cwV 3 hts gX7_write_X7_putBlock rfl rfl rfl (by decide +kernel) ⟨(Nat.le_of_ble_eq_true rfl), (Nat.le_of_ble_eq_true rfl)⟩) rfl hl.1 rfl (Nat.le_of_ble_eq_true rfl) dX7_write_100 ⟨(Nat.le_of_ble_eq_true rfl), (Nat.le_of_ble_eq_true rfl)⟩ (fun σ2 H locs h hw => ?_)
      refine lv_bipush (v := 32) hx hb dX7_write_103 (by decide) ?_
      refine lv_aload_n hx hb dX7_write_105 rfl (lv_at hl 0 rfl) ?_
      refine ck_get hx hb hts inX7 hown hw (hM 10 (by decide) (by decide)) rfl rfl 8 (by decide) (hts _ (List.mem_of_getElem? (i := 1) rfl)) rfl dX7_write_106 ?_
      refine lv_iconst (v := 1) hx hb dX7_write_109 (by decide) ?_
      refine lv_isub hx hb dX7_write_110 ?_
      refine lv_topi (fun x_4 ex_4 => ?_)
      have h := h x_4 ex_4
      refine lv_aload_n hx hb dX7_write_111 rfl (lv_at hl 0 rfl) ?_
      refine ck_get hx hb hts inX7 hown hw (hM 10 (by decide) (by decide)) rfl rfl 2 (by decide) (hts _ (List.mem_of_getElem? (i := 7) rfl)) rfl dX7_write_112 ?_
      refine lv_topi (fun x_5 ex_5 => ?_)
      have h := h x_5 ex_5
      obtain ⟨n6, h⟩ := h
      refine lv_irem hx hb dX7_write_115 n6 ?_
      refine lv_imul hx hb dX7_write_116 ?_
      refine lv_topi (fun x_7 ex_7 => ?_)
      have h := h x_7 ex_7
      refine lv_istore_n (lv' := [(2, .int x_7), (0, .ref (ck_ad G 10 0)), (1, .int x1)]) hx hb dX7_write_117 rfl hl (by decide) rfl (fun ls hl => ?_)
      refine lv_iconst (v := 0) hx hb dX7_write_118 (by decide) ?_
      refine lv_istore_n (lv' := [(3, .int 0), (2, .int x_7), (0, .ref (ck_ad G 10 0)), (1, .int x1)]) hx hb dX7_write_119 rfl hl (by decide) rfl (fun ls hl => ?_)
      obtain ⟨fu, h⟩ := h
      exact wk_X7_write_120 X hM fu _ _ _ _ _ _ h hw (lv_sub hl [2, 1, 0] rfl)
    · have h := hB c1
      refine lv_iload_n hx hb dX7_write_77 rfl (lv_at hl 1 rfl) ?_
      refine lv_aload_n hx hb dX7_write_78 rfl (lv_at hl 0 rfl) ?_
      refine ck_get hx hb hts inX7 hown hw (hM 10 (by decide) (by decide)) rfl rfl 7 (by decide) (hts _ (List.mem_of_getElem? (i := 6) rfl)) rfl dX7_write_79 ?_
      refine lv_iload_n hx hb dX7_write_82 rfl (lv_at hl 2 rfl) ?_
      obtain ⟨n8, h⟩ := h
      refine ck_iald hx hb hw (hM 12 (by decide) (by decide)) rfl n8 dX7_write_83 ?_
      refine ck_callSi (rest := []) ⟨hx, hb, hml, hown, hts⟩ hw (ct_X7_checked l G h) (va_cwS 2 hts gX7_write_X7_checked rfl rfl rfl (by decide +kernel) ⟨(Nat.le_of_ble_eq_true rfl), (Nat.le_of_ble_eq_true rfl)⟩) rfl hl.1 rfl (Nat.le_of_ble_eq_true rfl) dX7_write_84 ⟨(Nat.le_of_ble_eq_true rfl), (Nat.le_of_ble_eq_true rfl)⟩ (fun x_10 σ9 H locs h hw => ?_)
      refine lv_istore_n (lv' := [(1, .int x_10), (0, .ref (ck_ad G 10 0)), (2, .int x2)]) hx hb dX7_write_87 rfl hl (by decide) rfl (fun ls hl => ?_)
      obtain ⟨x_11, ex_11⟩ : ∃ z : Int32, z = x2 + 1 := ⟨_, rfl⟩
      have h := h x_11 ex_11
      refine lv_iinc (v := x_11) (lv' := [(2, .int x_11), (1, .int x_10), (0, .ref (ck_ad G 10 0))]) hx hb dX7_write_88 hl (k := 2) rfl (by rw [ex_11]; rfl) (by decide) rfl (fun ls hl => ?_)
      refine lv_goto (tgt := 71) hx hb dX7_write_91 (by decide) ?_
      exact hK71 _ _ _ _ _ _ h hw (lv_sub hl [2, 1, 0] rfl)
set_option maxHeartbeats 4000000 in
set_option maxRecDepth 100000 in
theorem wk_X7_write_0 {p : Program} {l : Launch} {e : Env} {s : State} {m : MethodId} {args : Array Value} {below : List Frame} {meth : Method} {c : Code} {G : ck_G} (X : ck_X p s m meth c args cX7_write 4 none RX7 wsX7_write) (hM : ck_inM G) {post : ck_S → Prop} {σ : ck_S} {H : Heap} {locs : List Loc} {ls : Array Slot} (h : sp_X7_write (ck_nc G) (ck_nb G) σ post) (hw : ck_H G s H locs σ) (hl : lv_has ls 4 [(0, .ref (ck_ad G 10 0))]) : W p l e ({ frames := 1, cells := 0, slots := 0, locals := 25 } : Room) s m args below meth c H locs 0 0 (MQ below (va_Qv post (ck_Q G) (ck_A G s.heap.size)) args s 0 0 (ck_A G s.heap.size)) (F0 m 0 ls []) := by
  obtain ⟨hx, hb, hr, hml, hown, hts, hlocks⟩ := id X
  have inX7 : ∀ w ∈ wsX70, w ∈ wsX7_write := fun _ h => List.mem_cons_of_mem _ (List.mem_append_right _ (h))
  unfold sp_X7_write at h
  refine lv_aload_n hx hb dX7_write_0 rfl (lv_at hl 0 rfl) ?_
  refine lv_iconst (v := 0) hx hb dX7_write_1 (by decide) ?_
  refine lv_iconst (v := 4) hx hb dX7_write_2 (by decide) ?_
  refine lv_aload_n hx hb dX7_write_3 rfl (lv_at hl 0 rfl) ?_
  refine ck_get hx hb hts inX7 hown hw (hM 10 (by decide) (by decide)) rfl rfl 8 (by decide) (hts _ (List.mem_of_getElem? (i := 1) rfl)) rfl dX7_write_4 ?_
  refine lv_i2l hx hb dX7_write_7 rfl ?_
  refine ck_callVv (rest := []) ⟨hx, hb, hml, hown, hts⟩ hw (hM 10 (by decide) (by decide)) rfl rfl (ct_X7_putBlock l G hM h) (cwV 3 hts gX7_write_X7_putBlock rfl rfl rfl (by decide +kernel) ⟨(Nat.le_of_ble_eq_true rfl), (Nat.le_of_ble_eq_true rfl)⟩) rfl hl.1 rfl (Nat.le_of_ble_eq_true rfl) dX7_write_8 ⟨(Nat.le_of_ble_eq_true rfl), (Nat.le_of_ble_eq_true rfl)⟩ (fun σ1 H locs h hw => ?_)
  refine lv_aload_n hx hb dX7_write_11 rfl (lv_at hl 0 rfl) ?_
  refine lv_iconst (v := 4) hx hb dX7_write_12 (by decide) ?_
  refine lv_iconst (v := 4) hx hb dX7_write_13 (by decide) ?_
  refine lv_aload_n hx hb dX7_write_14 rfl (lv_at hl 0 rfl) ?_
  refine ck_get hx hb hts inX7 hown hw (hM 10 (by decide) (by decide)) rfl rfl 10 (by decide) (hts _ (List.mem_of_getElem? (i := 2) rfl)) rfl dX7_write_15 ?_
  refine lv_i2l hx hb dX7_write_18 rfl ?_
  refine ck_callVv (rest := []) ⟨hx, hb, hml, hown, hts⟩ hw (hM 10 (by decide) (by decide)) rfl rfl (ct_X7_putBlock l G hM h) (cwV 3 hts gX7_write_X7_putBlock rfl rfl rfl (by decide +kernel) ⟨(Nat.le_of_ble_eq_true rfl), (Nat.le_of_ble_eq_true rfl)⟩) rfl hl.1 rfl (Nat.le_of_ble_eq_true rfl) dX7_write_19 ⟨(Nat.le_of_ble_eq_true rfl), (Nat.le_of_ble_eq_true rfl)⟩ (fun σ3 H locs h hw => ?_)
  refine lv_aload_n hx hb dX7_write_22 rfl (lv_at hl 0 rfl) ?_
  refine lv_bipush (v := 8) hx hb dX7_write_23 (by decide) ?_
  refine lv_bipush (v := 8) hx hb dX7_write_25 (by decide) ?_
  refine lv_aload_n hx hb dX7_write_27 rfl (lv_at hl 0 rfl) ?_
  refine ck_get hx hb hts inX7 hown hw (hM 10 (by decide) (by decide)) rfl rfl 11 (by decide) (hts _ (List.mem_of_getElem? (i := 3) rfl)) rfl dX7_write_28 ?_
  refine ck_callVv (rest := []) ⟨hx, hb, hml, hown, hts⟩ hw (hM 10 (by decide) (by decide)) rfl rfl (ct_X7_putBlock l G hM h) (cwV 3 hts gX7_write_X7_putBlock rfl rfl rfl (by decide +kernel) ⟨(Nat.le_of_ble_eq_true rfl), (Nat.le_of_ble_eq_true rfl)⟩) rfl hl.1 rfl (Nat.le_of_ble_eq_true rfl) dX7_write_31 ⟨(Nat.le_of_ble_eq_true rfl), (Nat.le_of_ble_eq_true rfl)⟩ (fun σ5 H locs h hw => ?_)
  refine lv_aload_n hx hb dX7_write_34 rfl (lv_at hl 0 rfl) ?_
  refine lv_bipush (v := 16) hx hb dX7_write_35 (by decide) ?_
  refine lv_iconst (v := 2) hx hb dX7_write_37 (by decide) ?_
  refine lv_aload_n hx hb dX7_write_38 rfl (lv_at hl 0 rfl) ?_
  refine ck_get hx hb hts inX7 hown hw (hM 10 (by decide) (by decide)) rfl rfl 26 (by decide) (hts _ (List.mem_of_getElem? (i := 4) rfl)) rfl dX7_write_39 ?_
  refine lv_i2l hx hb dX7_write_42 rfl ?_
  refine ck_callVv (rest := []) ⟨hx, hb, hml, hown, hts⟩ hw (hM 10 (by decide) (by decide)) rfl rfl (ct_X7_putBlock l G hM h) (cwV 3 hts gX7_write_X7_putBlock rfl rfl rfl (by decide +kernel) ⟨(Nat.le_of_ble_eq_true rfl), (Nat.le_of_ble_eq_true rfl)⟩) rfl hl.1 rfl (Nat.le_of_ble_eq_true rfl) dX7_write_43 ⟨(Nat.le_of_ble_eq_true rfl), (Nat.le_of_ble_eq_true rfl)⟩ (fun σ7 H locs h hw => ?_)
  refine lv_aload_n hx hb dX7_write_46 rfl (lv_at hl 0 rfl) ?_
  refine lv_bipush (v := 18) hx hb dX7_write_47 (by decide) ?_
  refine lv_iconst (v := 2) hx hb dX7_write_49 (by decide) ?_
  refine lv_aload_n hx hb dX7_write_50 rfl (lv_at hl 0 rfl) ?_
  refine ck_get hx hb hts inX7 hown hw (hM 10 (by decide) (by decide)) rfl rfl 28 (by decide) (hts _ (List.mem_of_getElem? (i := 5) rfl)) rfl dX7_write_51 ?_
  refine lv_i2l hx hb dX7_write_54 rfl ?_
  refine ck_callVv (rest := []) ⟨hx, hb, hml, hown, hts⟩ hw (hM 10 (by decide) (by decide)) rfl rfl (ct_X7_putBlock l G hM h) (cwV 3 hts gX7_write_X7_putBlock rfl rfl rfl (by decide +kernel) ⟨(Nat.le_of_ble_eq_true rfl), (Nat.le_of_ble_eq_true rfl)⟩) rfl hl.1 rfl (Nat.le_of_ble_eq_true rfl) dX7_write_55 ⟨(Nat.le_of_ble_eq_true rfl), (Nat.le_of_ble_eq_true rfl)⟩ (fun σ9 H locs h hw => ?_)
  refine lv_aload_n hx hb dX7_write_58 rfl (lv_at hl 0 rfl) ?_
  refine lv_bipush (v := 20) hx hb dX7_write_59 (by decide) ?_
  refine lv_bipush (v := 10) hx hb dX7_write_61 (by decide) ?_
  refine lv_lconst (v := 0) hx hb dX7_write_63 (by decide) ?_
  refine ck_callVv (rest := []) ⟨hx, hb, hml, hown, hts⟩ hw (hM 10 (by decide) (by decide)) rfl rfl (ct_X7_putBlock l G hM h) (cwV 3 hts gX7_write_X7_putBlock rfl rfl rfl (by decide +kernel) ⟨(Nat.le_of_ble_eq_true rfl), (Nat.le_of_ble_eq_true rfl)⟩) rfl hl.1 rfl (Nat.le_of_ble_eq_true rfl) dX7_write_64 ⟨(Nat.le_of_ble_eq_true rfl), (Nat.le_of_ble_eq_true rfl)⟩ (fun σ11 H locs h hw => ?_)
  refine lv_iconst (v := 0) hx hb dX7_write_67 (by decide) ?_
  refine lv_istore_n (lv' := [(1, .int 0), (0, .ref (ck_ad G 10 0))]) hx hb dX7_write_68 rfl hl (by decide) rfl (fun ls hl => ?_)
  refine lv_iconst (v := 0) hx hb dX7_write_69 (by decide) ?_
  refine lv_istore_n (lv' := [(2, .int 0), (1, .int 0), (0, .ref (ck_ad G 10 0))]) hx hb dX7_write_70 rfl hl (by decide) rfl (fun ls hl => ?_)
  obtain ⟨fu, h⟩ := h
  exact wk_X7_write_71 X hM fu _ _ _ _ _ _ h hw (lv_sub hl [2, 1, 0] rfl)
set_option maxHeartbeats 4000000 in
set_option maxRecDepth 100000 in
theorem ct_X7_write (l : Launch) (G : ck_G) (hM : ck_inM G) {σ : ck_S} {post : ck_S → Prop} (h : sp_X7_write (ck_nc G) (ck_nb G) σ post) : ck_Mv l yX7_write wsX7_write ({ frames := 1, cells := 0, slots := 0, locals := 25 } : Room) G σ [.ref (ck_ad G 10 0)] post := by
  intro sz
  refine Met.ofW (cc := cX7_write) (maxL := 4) (ret := none) (by decide) rfl ?_
  intro p e s m args below meth c s₁ B hml hv
  obtain ⟨rfl, rfl, hw⟩ := ck_enter hv
  have hl := lv_entry ([.ref (ck_ad G 10 0)]) (n := 4) (Nat.le_of_ble_eq_true rfl)
  rw [lg_entry_eq]
  generalize (lg_sl ([.ref (ck_ad G 10 0)]) ++ List.replicate (4 - (lg_sl ([.ref (ck_ad G 10 0)])).length) Slot.unset).toArray = ls at hl ⊢
  have hl : lv_has ls 4 [(0, .ref (ck_ad G 10 0))] := hl
  exact wk_X7_write_0 ⟨B.exec, B.bytes, B.returns, hml, findClass_of_methodNamed B.named, atoms_spec (ws := wsX7_write) B.pre, B.notSynchronized⟩ hM h hw hl
def sp_X7_tick_164 (nc nb : Nat) (post : Int32 → ck_S → Prop) (σ : ck_S) : Prop := (((ck_gi σ 10 0 0) ≤ 0 → (post (ck_gi σ 10 0 28) σ)) ∧ (¬ (ck_gi σ 10 0 0) ≤ 0 → (post 0 σ)))
def sp_X7_tick_158 (nc nb : Nat) (post : Int32 → ck_S → Prop) (K33 : ck_S → Int32 → Int32 → Prop) (σ : ck_S) (x1 : Int32) (x2 : Int32) : Prop := ∀ x_1, x_1 = x2 + 1 → K33 σ x1 x_1
def sp_X7_tick_154 (nc nb : Nat) (post : Int32 → ck_S → Prop) (K33 : ck_S → Int32 → Int32 → Prop) (σ : ck_S) (x1 : Int32) (x2 : Int32) : Prop := sp_X7_write nc nb σ (fun σ1 => sp_X7_tick_158 nc nb post K33 σ1 x1 x2)
def sp_X7_tick_103 (nc nb : Nat) (post : Int32 → ck_S → Prop) (K33 : ck_S → Int32 → Int32 → Prop) (K64 : ck_S → Int32 → Int32 → Int32 → Prop) (σ : ck_S) (x1 : Int32) (x2 : Int32) (x3 : Int32) (s0 : Int32) (s1 : Int32) : Prop := (vp_in s1 4) ∧ ∀ σ2, σ2 = ck_ui σ 18 0 (Int32.toNatClampNeg s1) s0 → ∀ x_3, x_3 = x3 + 1 → K64 σ2 x1 x2 x_3
def bd_X7_tick_64 (nc nb : Nat) (post : Int32 → ck_S → Prop) (K33 : ck_S → Int32 → Int32 → Prop) (K64 : ck_S → Int32 → Int32 → Int32 → Prop) (σ : ck_S) (x1 : Int32) (x2 : Int32) (x3 : Int32) : Prop := (((ck_gi σ 10 0 1) ≤ x3 → (∀ σ2, σ2 = ck_ui σ 10 0 27 0 → sp_X7_countCharge nc nb σ2 (fun σ3 => sp_X7_allow nc nb σ3 (fun σ5 => sp_X7_causes nc nb σ5 (fun σ7 => sp_X7_contactors nc nb σ7 (fun σ9 => sp_X7_bleed nc nb σ9 (fun σ11 => ((¬ (ck_gi σ11 10 0 27) = 0 → (sp_X7_tick_154 nc nb post K33 σ11 x1 x2)) ∧ ((ck_gi σ11 10 0 27) = 0 → (∀ x_14, x_14 = (ck_gi σ11 10 0 10) → ∀ x_15, x_15 = (ck_gi σ11 10 0 5) → (¬ x_15 = 0) ∧ ((¬ (x_14 - x_14 / x_15 * x_15) = 0 → (sp_X7_tick_158 nc nb post K33 σ11 x1 x2)) ∧ ((x_14 - x_14 / x_15 * x_15) = 0 → (sp_X7_tick_154 nc nb post K33 σ11 x1 x2))))))))))))) ∧ (¬ (ck_gi σ 10 0 1) ≤ x3 → ((vp_in x3 4) ∧ ((1000 ≤ (ck_gi σ 18 0 (Int32.toNatClampNeg x3)) → (sp_X7_tick_103 nc nb post K33 K64 σ x1 x2 x3 1000 x3)) ∧ (¬ 1000 ≤ (ck_gi σ 18 0 (Int32.toNatClampNeg x3)) → ((vp_in x3 4) ∧ sp_X7_tick_103 nc nb post K33 K64 σ x1 x2 x3 ((ck_gi σ 18 0 (Int32.toNatClampNeg x3)) + 1) x3))))))
def bd_X7_tick_33 (nc nb : Nat) (post : Int32 → ck_S → Prop) (K33 : ck_S → Int32 → Int32 → Prop) (σ : ck_S) (x1 : Int32) (x2 : Int32) : Prop := ((x1 ≤ x2 → (sp_X7_tick_164 nc nb post σ)) ∧ (¬ x1 ≤ x2 → (((¬ (ck_gi σ 10 0 0) = 0 → (sp_X7_tick_164 nc nb post σ)) ∧ ((ck_gi σ 10 0 0) = 0 → (((¬ (ck_gi σ 10 0 9) = 0 → (sp_X7_tick_164 nc nb post σ)) ∧ ((ck_gi σ 10 0 9) = 0 → (∀ σ4, σ4 = ck_ui σ 10 0 10 ((ck_gi σ 10 0 10) + 1) → lx_4 (bd_X7_tick_64 nc nb post K33) σ4 x1 x2 0)))))))))
def sp_X7_tick_28 (nc nb : Nat) (post : Int32 → ck_S → Prop) (σ : ck_S) (x1 : Int32) (s0 : Int32) : Prop := ∀ σ1, σ1 = ck_ui σ 10 0 0 s0 → lx_3 (bd_X7_tick_33 nc nb post) σ1 x1 0
def sp_X7_tick_12 (nc nb : Nat) (post : Int32 → ck_S → Prop) (σ : ck_S) (x1 : Int32) : Prop := sp_X7_tick_28 nc nb post σ x1 1
def sp_X7_tick (nc nb : Nat) (σ : ck_S) (a0 : Int32) (post : Int32 → ck_S → Prop) : Prop := ((a0 < 1 → (sp_X7_tick_12 nc nb post σ a0)) ∧ (¬ a0 < 1 → (((a0 ≤ 100 → ((((ck_gi σ 10 0 9) = 0 → (sp_X7_tick_28 nc nb post σ a0 0)) ∧ (¬ (ck_gi σ 10 0 9) = 0 → (sp_X7_tick_28 nc nb post σ a0 2))))) ∧ (¬ a0 ≤ 100 → (sp_X7_tick_12 nc nb post σ a0))))))
set_option maxHeartbeats 4000000 in
set_option maxRecDepth 100000 in
theorem wk_X7_tick_164 {p : Program} {l : Launch} {e : Env} {s : State} {m : MethodId} {args : Array Value} {below : List Frame} {meth : Method} {c : Code} {G : ck_G} (X : ck_X p s m meth c args cX7_tick 4 (some .int) RX7 wsX7_tick) (hM : ck_inM G) {post : Int32 → ck_S → Prop} {σ : ck_S} {H : Heap} {locs : List Loc} {ls : Array Slot} (h : sp_X7_tick_164 (ck_nc G) (ck_nb G) post σ) (hw : ck_H G s H locs σ) (hl : lv_has ls 4 [(0, .ref (ck_ad G 10 0))]) : W p l e ({ frames := 5, cells := 0, slots := 0, locals := 124 } : Room) s m args below meth c H locs 0 0 (MQ below (va_Qi post (ck_Q G) (ck_A G s.heap.size)) args s 0 0 (ck_A G s.heap.size)) (F0 m 164 ls []) := by
  obtain ⟨hx, hb, hr, hml, hown, hts, hlocks⟩ := id X
  have inX7 : ∀ w ∈ wsX70, w ∈ wsX7_tick := fun _ h => List.mem_cons_of_mem _ (List.mem_append_right _ (h))
  unfold sp_X7_tick_164 at h
  refine lv_aload_n hx hb dX7_tick_164 rfl (lv_at hl 0 rfl) ?_
  refine ck_get hx hb hts inX7 hown hw (hM 10 (by decide) (by decide)) rfl rfl 0 (by decide) (hts _ (List.mem_of_getElem? (i := 2) rfl)) rfl dX7_tick_165 ?_
  obtain ⟨hA, hB⟩ := h
  refine lv_if_le (tgt := 175) hx hb dX7_tick_168 (by decide) (fun c1 => ?_) (fun c1 => ?_)
  · have h := hA c1
    refine lv_aload_n hx hb dX7_tick_175 rfl (lv_at hl 0 rfl) ?_
    refine ck_get hx hb hts inX7 hown hw (hM 10 (by decide) (by decide)) rfl rfl 28 (by decide) (hts _ (List.mem_of_getElem? (i := 8) rfl)) rfl dX7_tick_176 ?_
    exact ck_iret X hw h dX7_tick_179
  · have h := hB c1
    refine lv_iconst (v := 0) hx hb dX7_tick_171 (by decide) ?_
    refine lv_goto (tgt := 179) hx hb dX7_tick_172 (by decide) ?_
    exact ck_iret X hw h dX7_tick_179
set_option maxHeartbeats 4000000 in
set_option maxRecDepth 100000 in
theorem wk_X7_tick_158 {p : Program} {l : Launch} {e : Env} {s : State} {m : MethodId} {args : Array Value} {below : List Frame} {meth : Method} {c : Code} {G : ck_G} (X : ck_X p s m meth c args cX7_tick 4 (some .int) RX7 wsX7_tick) (hM : ck_inM G) {post : Int32 → ck_S → Prop} {K33 : ck_S → Int32 → Int32 → Prop} (hK33 : ∀ (σ : ck_S) (x1 : Int32) (x2 : Int32) (H : Heap) (locs : List Loc) (ls : Array Slot), K33 σ x1 x2 → ck_H G s H locs σ → lv_has ls 4 [(0, .ref (ck_ad G 10 0)), (1, .int x1), (2, .int x2)] → W p l e ({ frames := 5, cells := 0, slots := 0, locals := 124 } : Room) s m args below meth c H locs 0 0 (MQ below (va_Qi post (ck_Q G) (ck_A G s.heap.size)) args s 0 0 (ck_A G s.heap.size)) (F0 m 33 ls [])) {σ : ck_S} {x1 : Int32} {x2 : Int32} {H : Heap} {locs : List Loc} {ls : Array Slot} (h : sp_X7_tick_158 (ck_nc G) (ck_nb G) post K33 σ x1 x2) (hw : ck_H G s H locs σ) (hl : lv_has ls 4 [(0, .ref (ck_ad G 10 0)), (1, .int x1), (2, .int x2)]) : W p l e ({ frames := 5, cells := 0, slots := 0, locals := 124 } : Room) s m args below meth c H locs 0 0 (MQ below (va_Qi post (ck_Q G) (ck_A G s.heap.size)) args s 0 0 (ck_A G s.heap.size)) (F0 m 158 ls []) := by
  obtain ⟨hx, hb, hr, hml, hown, hts, hlocks⟩ := id X
  have inX7 : ∀ w ∈ wsX70, w ∈ wsX7_tick := fun _ h => List.mem_cons_of_mem _ (List.mem_append_right _ (h))
  unfold sp_X7_tick_158 at h
  obtain ⟨x_1, ex_1⟩ : ∃ z : Int32, z = x2 + 1 := ⟨_, rfl⟩
  have h := h x_1 ex_1
  refine lv_iinc (v := x_1) (lv' := [(2, .int x_1), (0, .ref (ck_ad G 10 0)), (1, .int x1)]) hx hb dX7_tick_158 hl (k := 2) rfl (by rw [ex_1]; rfl) (by decide) rfl (fun ls hl => ?_)
  refine lv_goto (tgt := 33) hx hb dX7_tick_161 (by decide) ?_
  exact hK33 _ _ _ _ _ _ h hw (lv_sub hl [1, 2, 0] rfl)
set_option maxHeartbeats 4000000 in
set_option maxRecDepth 100000 in
theorem wk_X7_tick_154 {p : Program} {l : Launch} {e : Env} {s : State} {m : MethodId} {args : Array Value} {below : List Frame} {meth : Method} {c : Code} {G : ck_G} (X : ck_X p s m meth c args cX7_tick 4 (some .int) RX7 wsX7_tick) (hM : ck_inM G) {post : Int32 → ck_S → Prop} {K33 : ck_S → Int32 → Int32 → Prop} (hK33 : ∀ (σ : ck_S) (x1 : Int32) (x2 : Int32) (H : Heap) (locs : List Loc) (ls : Array Slot), K33 σ x1 x2 → ck_H G s H locs σ → lv_has ls 4 [(0, .ref (ck_ad G 10 0)), (1, .int x1), (2, .int x2)] → W p l e ({ frames := 5, cells := 0, slots := 0, locals := 124 } : Room) s m args below meth c H locs 0 0 (MQ below (va_Qi post (ck_Q G) (ck_A G s.heap.size)) args s 0 0 (ck_A G s.heap.size)) (F0 m 33 ls [])) {σ : ck_S} {x1 : Int32} {x2 : Int32} {H : Heap} {locs : List Loc} {ls : Array Slot} (h : sp_X7_tick_154 (ck_nc G) (ck_nb G) post K33 σ x1 x2) (hw : ck_H G s H locs σ) (hl : lv_has ls 4 [(0, .ref (ck_ad G 10 0)), (1, .int x1), (2, .int x2)]) : W p l e ({ frames := 5, cells := 0, slots := 0, locals := 124 } : Room) s m args below meth c H locs 0 0 (MQ below (va_Qi post (ck_Q G) (ck_A G s.heap.size)) args s 0 0 (ck_A G s.heap.size)) (F0 m 154 ls []) := by
  obtain ⟨hx, hb, hr, hml, hown, hts, hlocks⟩ := id X
  have inX7 : ∀ w ∈ wsX70, w ∈ wsX7_tick := fun _ h => List.mem_cons_of_mem _ (List.mem_append_right _ (h))
  unfold sp_X7_tick_154 at h
  refine lv_aload_n hx hb dX7_tick_154 rfl (lv_at hl 0 rfl) ?_
  refine ck_callVv (rest := []) ⟨hx, hb, hml, hown, hts⟩ hw (hM 10 (by decide) (by decide)) rfl rfl (ct_X7_write l G hM h) (cwV 0 hts gX7_tick_X7_write rfl rfl rfl (by decide +kernel) ⟨(Nat.le_of_ble_eq_true rfl), (Nat.le_of_ble_eq_true rfl)⟩) rfl hl.1 rfl (Nat.le_of_ble_eq_true rfl) dX7_tick_155 ⟨(Nat.le_of_ble_eq_true rfl), (Nat.le_of_ble_eq_true rfl)⟩ (fun σ1 H locs h hw => ?_)
  exact wk_X7_tick_158 X hM hK33 h hw (lv_sub hl [0, 1, 2] rfl)
set_option maxHeartbeats 4000000 in
set_option maxRecDepth 100000 in
theorem wk_X7_tick_103 {p : Program} {l : Launch} {e : Env} {s : State} {m : MethodId} {args : Array Value} {below : List Frame} {meth : Method} {c : Code} {G : ck_G} (X : ck_X p s m meth c args cX7_tick 4 (some .int) RX7 wsX7_tick) (hM : ck_inM G) {post : Int32 → ck_S → Prop} {K33 : ck_S → Int32 → Int32 → Prop} (hK33 : ∀ (σ : ck_S) (x1 : Int32) (x2 : Int32) (H : Heap) (locs : List Loc) (ls : Array Slot), K33 σ x1 x2 → ck_H G s H locs σ → lv_has ls 4 [(0, .ref (ck_ad G 10 0)), (1, .int x1), (2, .int x2)] → W p l e ({ frames := 5, cells := 0, slots := 0, locals := 124 } : Room) s m args below meth c H locs 0 0 (MQ below (va_Qi post (ck_Q G) (ck_A G s.heap.size)) args s 0 0 (ck_A G s.heap.size)) (F0 m 33 ls [])) {K64 : ck_S → Int32 → Int32 → Int32 → Prop} (hK64 : ∀ (σ : ck_S) (x1 : Int32) (x2 : Int32) (x3 : Int32) (H : Heap) (locs : List Loc) (ls : Array Slot), K64 σ x1 x2 x3 → ck_H G s H locs σ → lv_has ls 4 [(0, .ref (ck_ad G 10 0)), (1, .int x1), (2, .int x2), (3, .int x3)] → W p l e ({ frames := 5, cells := 0, slots := 0, locals := 124 } : Room) s m args below meth c H locs 0 0 (MQ below (va_Qi post (ck_Q G) (ck_A G s.heap.size)) args s 0 0 (ck_A G s.heap.size)) (F0 m 64 ls [])) {σ : ck_S} {x1 : Int32} {x2 : Int32} {x3 : Int32} {s0 : Int32} {s1 : Int32} {H : Heap} {locs : List Loc} {ls : Array Slot} (h : sp_X7_tick_103 (ck_nc G) (ck_nb G) post K33 K64 σ x1 x2 x3 s0 s1) (hw : ck_H G s H locs σ) (hl : lv_has ls 4 [(0, .ref (ck_ad G 10 0)), (1, .int x1), (2, .int x2), (3, .int x3)]) : W p l e ({ frames := 5, cells := 0, slots := 0, locals := 124 } : Room) s m args below meth c H locs 0 0 (MQ below (va_Qi post (ck_Q G) (ck_A G s.heap.size)) args s 0 0 (ck_A G s.heap.size)) (F0 m 103 ls [.int s0, .int s1, .ref (ck_ad G 18 0)]) := by
  obtain ⟨hx, hb, hr, hml, hown, hts, hlocks⟩ := id X
  have inX7 : ∀ w ∈ wsX70, w ∈ wsX7_tick := fun _ h => List.mem_cons_of_mem _ (List.mem_append_right _ (h))
  unfold sp_X7_tick_103 at h
  obtain ⟨n1, h⟩ := h
  refine ck_iast hx hb hw (hM 18 (by decide) (by decide)) (fun _ => rfl) n1 dX7_tick_103 (fun H locs hw => ?_)
  obtain ⟨σ2, eσ2⟩ : ∃ z : ck_S, z = ck_ui σ 18 0 (Int32.toNatClampNeg s1) s0 := ⟨_, rfl⟩
  rw [← eσ2] at hw
  have h := h σ2 eσ2
  obtain ⟨x_3, ex_3⟩ : ∃ z : Int32, z = x3 + 1 := ⟨_, rfl⟩
  have h := h x_3 ex_3
  refine lv_iinc (v := x_3) (lv' := [(3, .int x_3), (0, .ref (ck_ad G 10 0)), (1, .int x1), (2, .int x2)]) hx hb dX7_tick_104 hl (k := 3) rfl (by rw [ex_3]; rfl) (by decide) rfl (fun ls hl => ?_)
  refine lv_goto (tgt := 64) hx hb dX7_tick_107 (by decide) ?_
  exact hK64 _ _ _ _ _ _ _ h hw (lv_sub hl [1, 2, 3, 0] rfl)
set_option maxHeartbeats 4000000 in
set_option maxRecDepth 100000 in
theorem wk_X7_tick_64 {p : Program} {l : Launch} {e : Env} {s : State} {m : MethodId} {args : Array Value} {below : List Frame} {meth : Method} {c : Code} {G : ck_G} (X : ck_X p s m meth c args cX7_tick 4 (some .int) RX7 wsX7_tick) (hM : ck_inM G) {post : Int32 → ck_S → Prop} {K33 : ck_S → Int32 → Int32 → Prop} (hK33 : ∀ (σ : ck_S) (x1 : Int32) (x2 : Int32) (H : Heap) (locs : List Loc) (ls : Array Slot), K33 σ x1 x2 → ck_H G s H locs σ → lv_has ls 4 [(0, .ref (ck_ad G 10 0)), (1, .int x1), (2, .int x2)] → W p l e ({ frames := 5, cells := 0, slots := 0, locals := 124 } : Room) s m args below meth c H locs 0 0 (MQ below (va_Qi post (ck_Q G) (ck_A G s.heap.size)) args s 0 0 (ck_A G s.heap.size)) (F0 m 33 ls [])) : ∀ (fu : Nat) (σ : ck_S) (x1 : Int32) (x2 : Int32) (x3 : Int32) (H : Heap) (locs : List Loc) (ls : Array Slot), lk_4 (bd_X7_tick_64 (ck_nc G) (ck_nb G) post K33) fu σ x1 x2 x3 → ck_H G s H locs σ → lv_has ls 4 [(0, .ref (ck_ad G 10 0)), (1, .int x1), (2, .int x2), (3, .int x3)] → W p l e ({ frames := 5, cells := 0, slots := 0, locals := 124 } : Room) s m args below meth c H locs 0 0 (MQ below (va_Qi post (ck_Q G) (ck_A G s.heap.size)) args s 0 0 (ck_A G s.heap.size)) (F0 m 64 ls []) := by
  obtain ⟨hx, hb, hr, hml, hown, hts, hlocks⟩ := id X
  have inX7 : ∀ w ∈ wsX70, w ∈ wsX7_tick := fun _ h => List.mem_cons_of_mem _ (List.mem_append_right _ (h))
  intro fu
  induction fu with
  | zero => intro σ x1 x2 x3 H locs ls h hw hl; exact h.elim
  | succ fu hK64 =>
    intro σ x1 x2 x3 H locs ls h hw hl
    have h : bd_X7_tick_64 (ck_nc G) (ck_nb G) post K33 (lk_4 (bd_X7_tick_64 (ck_nc G) (ck_nb G) post K33) fu) σ x1 x2 x3 := h
    unfold bd_X7_tick_64 at h
    refine lv_iload_n hx hb dX7_tick_64 rfl (lv_at hl 3 rfl) ?_
    refine lv_aload_n hx hb dX7_tick_65 rfl (lv_at hl 0 rfl) ?_
    refine ck_get hx hb hts inX7 hown hw (hM 10 (by decide) (by decide)) rfl rfl 1 (by decide) (hts _ (List.mem_of_getElem? (i := 4) rfl)) rfl dX7_tick_66 ?_
    obtain ⟨hA, hB⟩ := h
    refine lv_icmp_ge (tgt := 110) hx hb dX7_tick_69 (by decide) (fun c1 => ?_) (fun c1 => ?_)
    · have h := hA c1
      refine lv_aload_n hx hb dX7_tick_110 rfl (lv_at hl 0 rfl) ?_
      refine lv_iconst (v := 0) hx hb dX7_tick_111 (by decide) ?_
      refine ck_puti hx hb hts inX7 tyX7 tyX7_ok nmX7 hown hw (hM 10 (by decide) (by decide)) rfl rfl 27 (by decide) (hts _ (List.mem_of_getElem? (i := 6) rfl)) rfl rfl rfl (Nat.le_of_ble_eq_true rfl) rfl dX7_tick_112 (fun H locs hw => ?_)
      obtain ⟨σ2, eσ2⟩ : ∃ z : ck_S, z = ck_ui σ 10 0 27 0 := ⟨_, rfl⟩
      rw [← eσ2] at hw
      have h := h σ2 eσ2
      refine lv_aload_n hx hb dX7_tick_115 rfl (lv_at hl 0 rfl) ?_
      refine ck_callVv (rest := []) ⟨hx, hb, hml, hown, hts⟩ hw (hM 10 (by decide) (by decide)) rfl rfl (ct_X7_countCharge l G hM h) (cwV 0 hts gX7_tick_X7_countCharge rfl rfl rfl (by decide +kernel) ⟨(Nat.le_of_ble_eq_true rfl), (Nat.le_of_ble_eq_true rfl)⟩) rfl hl.1 rfl (Nat.le_of_ble_eq_true rfl) dX7_tick_116 ⟨(Nat.le_of_ble_eq_true rfl), (Nat.le_of_ble_eq_true rfl)⟩ (fun σ3 H locs h hw => ?_)
      refine lv_aload_n hx hb dX7_tick_119 rfl (lv_at hl 0 rfl) ?_
      refine ck_callVv (rest := []) ⟨hx, hb, hml, hown, hts⟩ hw (hM 10 (by decide) (by decide)) rfl rfl (ct_X7_allow l G hM h) (cwV 0 hts gX7_tick_X7_allow rfl rfl rfl (by decide +kernel) ⟨(Nat.le_of_ble_eq_true rfl), (Nat.le_of_ble_eq_true rfl)⟩) rfl hl.1 rfl (Nat.le_of_ble_eq_true rfl) dX7_tick_120 ⟨(Nat.le_of_ble_eq_true rfl), (Nat.le_of_ble_eq_true rfl)⟩ (fun σ5 H locs h hw => ?_)
      refine lv_aload_n hx hb dX7_tick_123 rfl (lv_at hl 0 rfl) ?_
      refine ck_callVv (rest := []) ⟨hx, hb, hml, hown, hts⟩ hw (hM 10 (by decide) (by decide)) rfl rfl (ct_X7_causes l G hM h) (cwV 0 hts gX7_tick_X7_causes rfl rfl rfl (by decide +kernel) ⟨(Nat.le_of_ble_eq_true rfl), (Nat.le_of_ble_eq_true rfl)⟩) rfl hl.1 rfl (Nat.le_of_ble_eq_true rfl) dX7_tick_124 ⟨(Nat.le_of_ble_eq_true rfl), (Nat.le_of_ble_eq_true rfl)⟩ (fun σ7 H locs h hw => ?_)
      refine lv_aload_n hx hb dX7_tick_127 rfl (lv_at hl 0 rfl) ?_
      refine ck_callVv (rest := []) ⟨hx, hb, hml, hown, hts⟩ hw (hM 10 (by decide) (by decide)) rfl rfl (ct_X7_contactors l G hM h) (cwV 0 hts gX7_tick_X7_contactors rfl rfl rfl (by decide +kernel) ⟨(Nat.le_of_ble_eq_true rfl), (Nat.le_of_ble_eq_true rfl)⟩) rfl hl.1 rfl (Nat.le_of_ble_eq_true rfl) dX7_tick_128 ⟨(Nat.le_of_ble_eq_true rfl), (Nat.le_of_ble_eq_true rfl)⟩ (fun σ9 H locs h hw => ?_)
      refine lv_aload_n hx hb dX7_tick_131 rfl (lv_at hl 0 rfl) ?_
      refine ck_callVv (rest := []) ⟨hx, hb, hml, hown, hts⟩ hw (hM 10 (by decide) (by decide)) rfl rfl (ct_X7_bleed l G hM h) (cwV 0 hts gX7_tick_X7_bleed rfl rfl rfl (by decide +kernel) ⟨(Nat.le_of_ble_eq_true rfl), (Nat.le_of_ble_eq_true rfl)⟩) rfl hl.1 rfl (Nat.le_of_ble_eq_true rfl) dX7_tick_132 ⟨(Nat.le_of_ble_eq_true rfl), (Nat.le_of_ble_eq_true rfl)⟩ (fun σ11 H locs h hw => ?_)
      refine lv_aload_n hx hb dX7_tick_135 rfl (lv_at hl 0 rfl) ?_
      refine ck_get hx hb hts inX7 hown hw (hM 10 (by decide) (by decide)) rfl rfl 27 (by decide) (hts _ (List.mem_of_getElem? (i := 6) rfl)) rfl dX7_tick_136 ?_
      obtain ⟨hA, hB⟩ := h
      refine lv_if_ne (tgt := 154) hx hb dX7_tick_139 (by decide) (fun c13 => ?_) (fun c13 => ?_)
      · have h := hA c13
        exact wk_X7_tick_154 X hM hK33 h hw (lv_sub hl [0, 1, 2] rfl)
      · have h := hB c13
        refine lv_aload_n hx hb dX7_tick_142 rfl (lv_at hl 0 rfl) ?_
        refine ck_get hx hb hts inX7 hown hw (hM 10 (by decide) (by decide)) rfl rfl 10 (by decide) (hts _ (List.mem_of_getElem? (i := 3) rfl)) rfl dX7_tick_143 ?_
        refine lv_topi (fun x_14 ex_14 => ?_)
        have h := h x_14 ex_14
        refine lv_aload_n hx hb dX7_tick_146 rfl (lv_at hl 0 rfl) ?_
        refine ck_get hx hb hts inX7 hown hw (hM 10 (by decide) (by decide)) rfl rfl 5 (by decide) (hts _ (List.mem_of_getElem? (i := 7) rfl)) rfl dX7_tick_147 ?_
        refine lv_topi (fun x_15 ex_15 => ?_)
        have h := h x_15 ex_15
        obtain ⟨n16, h⟩ := h
        refine lv_irem hx hb dX7_tick_150 n16 ?_
        obtain ⟨hA, hB⟩ := h
        refine lv_if_ne (tgt := 158) hx hb dX7_tick_151 (by decide) (fun c17 => ?_) (fun c17 => ?_)
        · have h := hA c17
          exact wk_X7_tick_158 X hM hK33 h hw (lv_sub hl [0, 1, 2] rfl)
        · have h := hB c17
          exact wk_X7_tick_154 X hM hK33 h hw (lv_sub hl [0, 1, 2] rfl)
    · have h := hB c1
      refine lv_aload_n hx hb dX7_tick_72 rfl (lv_at hl 0 rfl) ?_
      refine ck_get hx hb hts inX7 hown hw (hM 10 (by decide) (by decide)) rfl rfl 22 (by decide) (hts _ (List.mem_of_getElem? (i := 5) rfl)) rfl dX7_tick_73 ?_
      refine lv_iload_n hx hb dX7_tick_76 rfl (lv_at hl 3 rfl) ?_
      refine lv_aload_n hx hb dX7_tick_77 rfl (lv_at hl 0 rfl) ?_
      refine ck_get hx hb hts inX7 hown hw (hM 10 (by decide) (by decide)) rfl rfl 22 (by decide) (hts _ (List.mem_of_getElem? (i := 5) rfl)) rfl dX7_tick_78 ?_
      refine lv_iload_n hx hb dX7_tick_81 rfl (lv_at hl 3 rfl) ?_
      obtain ⟨n18, h⟩ := h
      refine ck_iald hx hb hw (hM 18 (by decide) (by decide)) rfl n18 dX7_tick_82 ?_
      refine lv_sipush (v := 1000) hx hb dX7_tick_83 (by decide) ?_
      obtain ⟨hA, hB⟩ := h
      refine lv_icmp_ge (tgt := 100) hx hb dX7_tick_86 (by decide) (fun c19 => ?_) (fun c19 => ?_)
      · have h := hA c19
        refine lv_sipush (v := 1000) hx hb dX7_tick_100 (by decide) ?_
        exact wk_X7_tick_103 X hM hK33 hK64 h hw (lv_sub hl [0, 1, 2, 3] rfl)
      · have h := hB c19
        refine lv_aload_n hx hb dX7_tick_89 rfl (lv_at hl 0 rfl) ?_
        refine ck_get hx hb hts inX7 hown hw (hM 10 (by decide) (by decide)) rfl rfl 22 (by decide) (hts _ (List.mem_of_getElem? (i := 5) rfl)) rfl dX7_tick_90 ?_
        refine lv_iload_n hx hb dX7_tick_93 rfl (lv_at hl 3 rfl) ?_
        obtain ⟨n20, h⟩ := h
        refine ck_iald hx hb hw (hM 18 (by decide) (by decide)) rfl n20 dX7_tick_94 ?_
        refine lv_iconst (v := 1) hx hb dX7_tick_95 (by decide) ?_
        refine lv_iadd hx hb dX7_tick_96 ?_
        refine lv_goto (tgt := 103) hx hb dX7_tick_97 (by decide) ?_
        exact wk_X7_tick_103 X hM hK33 hK64 h hw (lv_sub hl [0, 1, 2, 3] rfl)
set_option maxHeartbeats 4000000 in
set_option maxRecDepth 100000 in
theorem wk_X7_tick_33 {p : Program} {l : Launch} {e : Env} {s : State} {m : MethodId} {args : Array Value} {below : List Frame} {meth : Method} {c : Code} {G : ck_G} (X : ck_X p s m meth c args cX7_tick 4 (some .int) RX7 wsX7_tick) (hM : ck_inM G) {post : Int32 → ck_S → Prop} : ∀ (fu : Nat) (σ : ck_S) (x1 : Int32) (x2 : Int32) (H : Heap) (locs : List Loc) (ls : Array Slot), lk_3 (bd_X7_tick_33 (ck_nc G) (ck_nb G) post) fu σ x1 x2 → ck_H G s H locs σ → lv_has ls 4 [(0, .ref (ck_ad G 10 0)), (1, .int x1), (2, .int x2)] → W p l e ({ frames := 5, cells := 0, slots := 0, locals := 124 } : Room) s m args below meth c H locs 0 0 (MQ below (va_Qi post (ck_Q G) (ck_A G s.heap.size)) args s 0 0 (ck_A G s.heap.size)) (F0 m 33 ls []) := by
  obtain ⟨hx, hb, hr, hml, hown, hts, hlocks⟩ := id X
  have inX7 : ∀ w ∈ wsX70, w ∈ wsX7_tick := fun _ h => List.mem_cons_of_mem _ (List.mem_append_right _ (h))
  intro fu
  induction fu with
  | zero => intro σ x1 x2 H locs ls h hw hl; exact h.elim
  | succ fu hK33 =>
    intro σ x1 x2 H locs ls h hw hl
    have h : bd_X7_tick_33 (ck_nc G) (ck_nb G) post (lk_3 (bd_X7_tick_33 (ck_nc G) (ck_nb G) post) fu) σ x1 x2 := h
    unfold bd_X7_tick_33 at h
    refine lv_iload_n hx hb dX7_tick_33 rfl (lv_at hl 2 rfl) ?_
    refine lv_iload_n hx hb dX7_tick_34 rfl (lv_at hl 1 rfl) ?_
    obtain ⟨hA, hB⟩ := h
    refine lv_icmp_ge (tgt := 164) hx hb dX7_tick_35 (by decide) (fun c1 => ?_) (fun c1 => ?_)
    · have h := hA c1
      exact wk_X7_tick_164 X hM h hw (lv_sub hl [0] rfl)
    · have h := hB c1
      refine lv_aload_n hx hb dX7_tick_38 rfl (lv_at hl 0 rfl) ?_
      refine ck_get hx hb hts inX7 hown hw (hM 10 (by decide) (by decide)) rfl rfl 0 (by decide) (hts _ (List.mem_of_getElem? (i := 2) rfl)) rfl dX7_tick_39 ?_
      obtain ⟨hA, hB⟩ := h
      refine lv_if_ne (tgt := 164) hx hb dX7_tick_42 (by decide) (fun c2 => ?_) (fun c2 => ?_)
      · have h := hA c2
        exact wk_X7_tick_164 X hM h hw (lv_sub hl [0] rfl)
      · have h := hB c2
        refine lv_aload_n hx hb dX7_tick_45 rfl (lv_at hl 0 rfl) ?_
        refine ck_get hx hb hts inX7 hown hw (hM 10 (by decide) (by decide)) rfl rfl 9 (by decide) (hts _ (List.mem_of_getElem? (i := 1) rfl)) rfl dX7_tick_46 ?_
        obtain ⟨hA, hB⟩ := h
        refine lv_if_ne (tgt := 164) hx hb dX7_tick_49 (by decide) (fun c3 => ?_) (fun c3 => ?_)
        · have h := hA c3
          exact wk_X7_tick_164 X hM h hw (lv_sub hl [0] rfl)
        · have h := hB c3
          refine lv_aload_n hx hb dX7_tick_52 rfl (lv_at hl 0 rfl) ?_
          refine lv_dup hx hb dX7_tick_53 rfl ?_
          refine ck_get hx hb hts inX7 hown hw (hM 10 (by decide) (by decide)) rfl rfl 10 (by decide) (hts _ (List.mem_of_getElem? (i := 3) rfl)) rfl dX7_tick_54 ?_
          refine lv_iconst (v := 1) hx hb dX7_tick_57 (by decide) ?_
          refine lv_iadd hx hb dX7_tick_58 ?_
          refine ck_puti hx hb hts inX7 tyX7 tyX7_ok nmX7 hown hw (hM 10 (by decide) (by decide)) rfl rfl 10 (by decide) (hts _ (List.mem_of_getElem? (i := 3) rfl)) rfl rfl rfl (Nat.le_of_ble_eq_true rfl) rfl dX7_tick_59 (fun H locs hw => ?_)
          obtain ⟨σ4, eσ4⟩ : ∃ z : ck_S, z = ck_ui σ 10 0 10 ((ck_gi σ 10 0 10) + 1) := ⟨_, rfl⟩
          rw [← eσ4] at hw
          have h := h σ4 eσ4
          refine lv_iconst (v := 0) hx hb dX7_tick_62 (by decide) ?_
          refine lv_istore_n (lv' := [(3, .int 0), (0, .ref (ck_ad G 10 0)), (1, .int x1), (2, .int x2)]) hx hb dX7_tick_63 rfl hl (by decide) rfl (fun ls hl => ?_)
          obtain ⟨fu, h⟩ := h
          exact wk_X7_tick_64 X hM hK33 fu _ _ _ _ _ _ _ h hw (lv_sub hl [1, 2, 3, 0] rfl)
set_option maxHeartbeats 4000000 in
set_option maxRecDepth 100000 in
theorem wk_X7_tick_28 {p : Program} {l : Launch} {e : Env} {s : State} {m : MethodId} {args : Array Value} {below : List Frame} {meth : Method} {c : Code} {G : ck_G} (X : ck_X p s m meth c args cX7_tick 4 (some .int) RX7 wsX7_tick) (hM : ck_inM G) {post : Int32 → ck_S → Prop} {σ : ck_S} {x1 : Int32} {s0 : Int32} {H : Heap} {locs : List Loc} {ls : Array Slot} (h : sp_X7_tick_28 (ck_nc G) (ck_nb G) post σ x1 s0) (hw : ck_H G s H locs σ) (hl : lv_has ls 4 [(0, .ref (ck_ad G 10 0)), (1, .int x1)]) : W p l e ({ frames := 5, cells := 0, slots := 0, locals := 124 } : Room) s m args below meth c H locs 0 0 (MQ below (va_Qi post (ck_Q G) (ck_A G s.heap.size)) args s 0 0 (ck_A G s.heap.size)) (F0 m 28 ls [.int s0, .ref (ck_ad G 10 0)]) := by
  obtain ⟨hx, hb, hr, hml, hown, hts, hlocks⟩ := id X
  have inX7 : ∀ w ∈ wsX70, w ∈ wsX7_tick := fun _ h => List.mem_cons_of_mem _ (List.mem_append_right _ (h))
  unfold sp_X7_tick_28 at h
  refine ck_puti hx hb hts inX7 tyX7 tyX7_ok nmX7 hown hw (hM 10 (by decide) (by decide)) rfl rfl 0 (by decide) (hts _ (List.mem_of_getElem? (i := 2) rfl)) rfl rfl rfl (Nat.le_of_ble_eq_true rfl) rfl dX7_tick_28 (fun H locs hw => ?_)
  obtain ⟨σ1, eσ1⟩ : ∃ z : ck_S, z = ck_ui σ 10 0 0 s0 := ⟨_, rfl⟩
  rw [← eσ1] at hw
  have h := h σ1 eσ1
  refine lv_iconst (v := 0) hx hb dX7_tick_31 (by decide) ?_
  refine lv_istore_n (lv' := [(2, .int 0), (0, .ref (ck_ad G 10 0)), (1, .int x1)]) hx hb dX7_tick_32 rfl hl (by decide) rfl (fun ls hl => ?_)
  obtain ⟨fu, h⟩ := h
  exact wk_X7_tick_33 X hM fu _ _ _ _ _ _ h hw (lv_sub hl [1, 2, 0] rfl)
set_option maxHeartbeats 4000000 in
set_option maxRecDepth 100000 in
theorem wk_X7_tick_12 {p : Program} {l : Launch} {e : Env} {s : State} {m : MethodId} {args : Array Value} {below : List Frame} {meth : Method} {c : Code} {G : ck_G} (X : ck_X p s m meth c args cX7_tick 4 (some .int) RX7 wsX7_tick) (hM : ck_inM G) {post : Int32 → ck_S → Prop} {σ : ck_S} {x1 : Int32} {H : Heap} {locs : List Loc} {ls : Array Slot} (h : sp_X7_tick_12 (ck_nc G) (ck_nb G) post σ x1) (hw : ck_H G s H locs σ) (hl : lv_has ls 4 [(0, .ref (ck_ad G 10 0)), (1, .int x1)]) : W p l e ({ frames := 5, cells := 0, slots := 0, locals := 124 } : Room) s m args below meth c H locs 0 0 (MQ below (va_Qi post (ck_Q G) (ck_A G s.heap.size)) args s 0 0 (ck_A G s.heap.size)) (F0 m 12 ls [.ref (ck_ad G 10 0)]) := by
  obtain ⟨hx, hb, hr, hml, hown, hts, hlocks⟩ := id X
  have inX7 : ∀ w ∈ wsX70, w ∈ wsX7_tick := fun _ h => List.mem_cons_of_mem _ (List.mem_append_right _ (h))
  unfold sp_X7_tick_12 at h
  refine lv_iconst (v := 1) hx hb dX7_tick_12 (by decide) ?_
  refine lv_goto (tgt := 28) hx hb dX7_tick_13 (by decide) ?_
  exact wk_X7_tick_28 X hM h hw (lv_sub hl [0, 1] rfl)
set_option maxHeartbeats 4000000 in
set_option maxRecDepth 100000 in
theorem wk_X7_tick_0 {p : Program} {l : Launch} {e : Env} {s : State} {m : MethodId} {args : Array Value} {below : List Frame} {meth : Method} {c : Code} {G : ck_G} (X : ck_X p s m meth c args cX7_tick 4 (some .int) RX7 wsX7_tick) (hM : ck_inM G) {post : Int32 → ck_S → Prop} {σ : ck_S} {a0 : Int32} {H : Heap} {locs : List Loc} {ls : Array Slot} (h : sp_X7_tick (ck_nc G) (ck_nb G) σ a0 post) (hw : ck_H G s H locs σ) (hl : lv_has ls 4 [(0, .ref (ck_ad G 10 0)), (1, .int a0)]) : W p l e ({ frames := 5, cells := 0, slots := 0, locals := 124 } : Room) s m args below meth c H locs 0 0 (MQ below (va_Qi post (ck_Q G) (ck_A G s.heap.size)) args s 0 0 (ck_A G s.heap.size)) (F0 m 0 ls []) := by
  obtain ⟨hx, hb, hr, hml, hown, hts, hlocks⟩ := id X
  have inX7 : ∀ w ∈ wsX70, w ∈ wsX7_tick := fun _ h => List.mem_cons_of_mem _ (List.mem_append_right _ (h))
  unfold sp_X7_tick at h
  refine lv_aload_n hx hb dX7_tick_0 rfl (lv_at hl 0 rfl) ?_
  refine lv_iload_n hx hb dX7_tick_1 rfl (lv_at hl 1 rfl) ?_
  refine lv_iconst (v := 1) hx hb dX7_tick_2 (by decide) ?_
  obtain ⟨hA, hB⟩ := h
  refine lv_icmp_lt (tgt := 12) hx hb dX7_tick_3 (by decide) (fun c1 => ?_) (fun c1 => ?_)
  · have h := hA c1
    exact wk_X7_tick_12 X hM h hw (lv_sub hl [0, 1] rfl)
  · have h := hB c1
    refine lv_iload_n hx hb dX7_tick_6 rfl (lv_at hl 1 rfl) ?_
    refine lv_bipush (v := 100) hx hb dX7_tick_7 (by decide) ?_
    obtain ⟨hA, hB⟩ := h
    refine lv_icmp_le (tgt := 16) hx hb dX7_tick_9 (by decide) (fun c2 => ?_) (fun c2 => ?_)
    · have h := hA c2
      refine lv_aload_n hx hb dX7_tick_16 rfl (lv_at hl 0 rfl) ?_
      refine ck_get hx hb hts inX7 hown hw (hM 10 (by decide) (by decide)) rfl rfl 9 (by decide) (hts _ (List.mem_of_getElem? (i := 1) rfl)) rfl dX7_tick_17 ?_
      obtain ⟨hA, hB⟩ := h
      refine lv_if_eq (tgt := 27) hx hb dX7_tick_20 (by decide) (fun c3 => ?_) (fun c3 => ?_)
      · have h := hA c3
        refine lv_iconst (v := 0) hx hb dX7_tick_27 (by decide) ?_
        exact wk_X7_tick_28 X hM h hw (lv_sub hl [0, 1] rfl)
      · have h := hB c3
        refine lv_iconst (v := 2) hx hb dX7_tick_23 (by decide) ?_
        refine lv_goto (tgt := 28) hx hb dX7_tick_24 (by decide) ?_
        exact wk_X7_tick_28 X hM h hw (lv_sub hl [0, 1] rfl)
    · have h := hB c2
      exact wk_X7_tick_12 X hM h hw (lv_sub hl [0, 1] rfl)
set_option maxHeartbeats 4000000 in
set_option maxRecDepth 100000 in
theorem ct_X7_tick (l : Launch) (G : ck_G) (hM : ck_inM G) {a0 : Int32} {σ : ck_S} {post : Int32 → ck_S → Prop} (h : sp_X7_tick (ck_nc G) (ck_nb G) σ a0 post) : ck_Mi l yX7_tick wsX7_tick ({ frames := 5, cells := 0, slots := 0, locals := 124 } : Room) G σ [.ref (ck_ad G 10 0), .int a0] post := by
  intro sz
  refine Met.ofW (cc := cX7_tick) (maxL := 4) (ret := (some .int)) (by decide) rfl ?_
  intro p e s m args below meth c s₁ B hml hv
  obtain ⟨rfl, rfl, hw⟩ := ck_enter hv
  have hl := lv_entry ([.ref (ck_ad G 10 0), .int a0]) (n := 4) (Nat.le_of_ble_eq_true rfl)
  rw [lg_entry_eq]
  generalize (lg_sl ([.ref (ck_ad G 10 0), .int a0]) ++ List.replicate (4 - (lg_sl ([.ref (ck_ad G 10 0), .int a0])).length) Slot.unset).toArray = ls at hl ⊢
  have hl : lv_has ls 4 [(0, .ref (ck_ad G 10 0)), (1, .int a0)] := hl
  exact wk_X7_tick_0 ⟨B.exec, B.bytes, B.returns, hml, findClass_of_methodNamed B.named, atoms_spec (ws := wsX7_tick) B.pre, B.notSynchronized⟩ hM h hw hl
