def sp_X3_beginAnew (nc nb : Nat) (σ : ck_S) (i : Nat) (post : ck_S → Prop) : Prop := ∀ σ1, σ1 = ck_ui σ 30 i 3 0 → ∀ σ2, σ2 = ck_ui σ1 30 i 4 0 → ∀ σ3, σ3 = ck_ui σ2 30 i 5 0 → ∀ σ4, σ4 = ck_ud σ3 30 i 6 4626322717216342016 → ∀ σ5, σ5 = ck_ui σ4 30 i 7 0 → post σ5
set_option maxHeartbeats 4000000 in
set_option maxRecDepth 100000 in
theorem wk_X3_beginAnew_0 {p : Program} {l : Launch} {e : Env} {s : State} {m : MethodId} {args : Array Value} {below : List Frame} {meth : Method} {c : Code} {G : ck_G} (X : ck_X p s m meth c args cX3_beginAnew 1 none RX3 wsX3_beginAnew) (hC : ck_inC G) {i : Nat} (hi : i < ck_nc G) {post : ck_S → Prop} {σ : ck_S} {H : Heap} {locs : List Loc} {ls : Array Slot} (h : sp_X3_beginAnew (ck_nc G) (ck_nb G) σ i post) (hw : ck_H G s H locs σ) (hl : lv_has ls 1 [(0, .ref (ck_ad G 30 i))]) : W p l e ({ frames := 0, cells := 0, slots := 0, locals := 0 } : Room) s m args below meth c H locs 0 0 (MQ below (va_Qv post (ck_Q G) (ck_A G s.heap.size)) args s 0 0 (ck_A G s.heap.size)) (F0 m 0 ls []) := by
  obtain ⟨hx, hb, hr, hml, hown, hts, hlocks⟩ := id X
  have inX3 : ∀ w ∈ wsX30, w ∈ wsX3_beginAnew := fun _ h => List.mem_cons_of_mem _ (List.mem_append_right _ (h))
  unfold sp_X3_beginAnew at h
  refine lv_aload_n hx hb dX3_beginAnew_0 rfl (lv_at hl 0 rfl) ?_
  refine lv_iconst (v := 0) hx hb dX3_beginAnew_1 (by decide) ?_
  refine ck_puti hx hb hts inX3 tyX3 tyX3_ok nmX3 hown hw (hC.2 30 _ (by decide) (by decide) hi) rfl rfl 3 (by decide) (hts _ (List.mem_of_getElem? (i := 1) rfl)) rfl rfl rfl (Nat.le_of_ble_eq_true rfl) rfl dX3_beginAnew_2 (fun H locs hw => ?_)
  obtain ⟨σ1, eσ1⟩ : ∃ z : ck_S, z = ck_ui σ 30 i 3 0 := ⟨_, rfl⟩
  rw [← eσ1] at hw
  have h := h σ1 eσ1
  refine lv_aload_n hx hb dX3_beginAnew_5 rfl (lv_at hl 0 rfl) ?_
  refine lv_iconst (v := 0) hx hb dX3_beginAnew_6 (by decide) ?_
  refine ck_puti hx hb hts inX3 tyX3 tyX3_ok nmX3 hown hw (hC.2 30 _ (by decide) (by decide) hi) rfl rfl 4 (by decide) (hts _ (List.mem_of_getElem? (i := 2) rfl)) rfl rfl rfl (Nat.le_of_ble_eq_true rfl) rfl dX3_beginAnew_7 (fun H locs hw => ?_)
  obtain ⟨σ2, eσ2⟩ : ∃ z : ck_S, z = ck_ui σ1 30 i 4 0 := ⟨_, rfl⟩
  rw [← eσ2] at hw
  have h := h σ2 eσ2
  refine lv_aload_n hx hb dX3_beginAnew_10 rfl (lv_at hl 0 rfl) ?_
  refine lv_iconst (v := 0) hx hb dX3_beginAnew_11 (by decide) ?_
  refine ck_puti hx hb hts inX3 tyX3 tyX3_ok nmX3 hown hw (hC.2 30 _ (by decide) (by decide) hi) rfl rfl 5 (by decide) (hts _ (List.mem_of_getElem? (i := 3) rfl)) rfl rfl rfl (Nat.le_of_ble_eq_true rfl) rfl dX3_beginAnew_12 (fun H locs hw => ?_)
  obtain ⟨σ3, eσ3⟩ : ∃ z : ck_S, z = ck_ui σ2 30 i 5 0 := ⟨_, rfl⟩
  rw [← eσ3] at hw
  have h := h σ3 eσ3
  refine lv_aload_n hx hb dX3_beginAnew_15 rfl (lv_at hl 0 rfl) ?_
  refine lv_ldc2d hx hb hown (hts _ (List.mem_of_getElem? (i := 4) rfl)) dX3_beginAnew_16 ?_
  refine ck_putd hx hb hts inX3 tyX3 tyX3_ok nmX3 hown hw (hC.2 30 _ (by decide) (by decide) hi) rfl rfl 6 (by decide) (hts _ (List.mem_of_getElem? (i := 5) rfl)) rfl rfl rfl (Nat.le_of_ble_eq_true rfl) rfl dX3_beginAnew_19 (fun H locs hw => ?_)
  obtain ⟨σ4, eσ4⟩ : ∃ z : ck_S, z = ck_ud σ3 30 i 6 4626322717216342016 := ⟨_, rfl⟩
  rw [← eσ4] at hw
  have h := h σ4 eσ4
  refine lv_aload_n hx hb dX3_beginAnew_22 rfl (lv_at hl 0 rfl) ?_
  refine lv_iconst (v := 0) hx hb dX3_beginAnew_23 (by decide) ?_
  refine ck_puti hx hb hts inX3 tyX3 tyX3_ok nmX3 hown hw (hC.2 30 _ (by decide) (by decide) hi) rfl rfl 7 (by decide) (hts _ (List.mem_of_getElem? (i := 6) rfl)) rfl rfl rfl (Nat.le_of_ble_eq_true rfl) rfl dX3_beginAnew_24 (fun H locs hw => ?_)
  obtain ⟨σ5, eσ5⟩ : ∃ z : ck_S, z = ck_ui σ4 30 i 7 0 := ⟨_, rfl⟩
  rw [← eσ5] at hw
  have h := h σ5 eσ5
  exact ck_vret X hw h dX3_beginAnew_27
set_option maxHeartbeats 4000000 in
set_option maxRecDepth 100000 in
theorem ct_X3_beginAnew (l : Launch) (G : ck_G) (hC : ck_inC G) {i : Nat} (hi : i < ck_nc G) {σ : ck_S} {post : ck_S → Prop} (h : sp_X3_beginAnew (ck_nc G) (ck_nb G) σ i post) : ck_Mv l yX3_beginAnew wsX3_beginAnew ({ frames := 0, cells := 0, slots := 0, locals := 0 } : Room) G σ [.ref (ck_ad G 30 i)] post := by
  intro sz
  refine Met.ofW (cc := cX3_beginAnew) (maxL := 1) (ret := none) (by decide) rfl ?_
  intro p e s m args below meth c s₁ B hml hv
  obtain ⟨rfl, rfl, hw⟩ := ck_enter hv
  have hl := lv_entry ([.ref (ck_ad G 30 i)]) (n := 1) (Nat.le_of_ble_eq_true rfl)
  rw [lg_entry_eq]
  generalize (lg_sl ([.ref (ck_ad G 30 i)]) ++ List.replicate (1 - (lg_sl ([.ref (ck_ad G 30 i)])).length) Slot.unset).toArray = ls at hl ⊢
  have hl : lv_has ls 1 [(0, .ref (ck_ad G 30 i))] := hl
  exact wk_X3_beginAnew_0 ⟨B.exec, B.bytes, B.returns, hml, findClass_of_methodNamed B.named, atoms_spec (ws := wsX3_beginAnew) B.pre, B.notSynchronized⟩ hC hi h hw hl
def sp_X3_numberIn_29 (nc nb : Nat) (post : Int32 → ck_S → Prop) (σ : ck_S) (s0 : Int64) : Prop := post ((s0 &&& 65535).toInt32) σ
def sp_X3_numberIn (nc nb : Nat) (σ : ck_S) (a0 : Int64) (a1 : Int64) (a2 : Int32) (post : Int32 → ck_S → Prop) : Prop := ((4 ≤ a2 → (sp_X3_numberIn_29 nc nb post σ ((a1.toUInt64 >>> ((112 - (16 * a2)).toInt64.toUInt64 &&& Int64.toUInt64 63)).toInt64))) ∧ (¬ 4 ≤ a2 → (sp_X3_numberIn_29 nc nb post σ ((a0.toUInt64 >>> ((48 - (16 * a2)).toInt64.toUInt64 &&& Int64.toUInt64 63)).toInt64))))
set_option maxHeartbeats 4000000 in
set_option maxRecDepth 100000 in
theorem wk_X3_numberIn_29 {p : Program} {l : Launch} {e : Env} {s : State} {m : MethodId} {args : Array Value} {below : List Frame} {meth : Method} {c : Code} {G : ck_G} (X : ck_X p s m meth c args cX3_numberIn 7 (some .int) RX3 wsX3_numberIn) {post : Int32 → ck_S → Prop} {σ : ck_S} {s0 : Int64} {H : Heap} {locs : List Loc} {ls : Array Slot} (h : sp_X3_numberIn_29 (ck_nc G) (ck_nb G) post σ s0) (hw : ck_H G s H locs σ) (hl : lv_has ls 7 []) : W p l e ({ frames := 0, cells := 0, slots := 0, locals := 0 } : Room) s m args below meth c H locs 0 0 (MQ below (va_Qi post (ck_Q G) (ck_A G s.heap.size)) args s 0 0 (ck_A G s.heap.size)) (F0 m 29 ls [.long s0]) := by
  obtain ⟨hx, hb, hr, hml, hown, hts, hlocks⟩ := id X
  unfold sp_X3_numberIn_29 at h
  refine lv_lstore (lv' := [(5, .long s0)]) hx hb dX3_numberIn_29 hl (by decide) rfl (fun ls hl => ?_)
  refine lv_lload hx hb dX3_numberIn_31 (lv_at hl 0 rfl) ?_
  refine lv_ldc2 hx hb hown (hts _ (List.mem_of_getElem? (i := 1) rfl)) dX3_numberIn_33 ?_
  refine lv_land hx hb dX3_numberIn_36 ?_
  refine lv_l2i hx hb dX3_numberIn_37 rfl ?_
  exact ck_iret X hw h dX3_numberIn_38
set_option maxHeartbeats 4000000 in
set_option maxRecDepth 100000 in
theorem wk_X3_numberIn_0 {p : Program} {l : Launch} {e : Env} {s : State} {m : MethodId} {args : Array Value} {below : List Frame} {meth : Method} {c : Code} {G : ck_G} (X : ck_X p s m meth c args cX3_numberIn 7 (some .int) RX3 wsX3_numberIn) {post : Int32 → ck_S → Prop} {σ : ck_S} {a0 : Int64} {a1 : Int64} {a2 : Int32} {H : Heap} {locs : List Loc} {ls : Array Slot} (h : sp_X3_numberIn (ck_nc G) (ck_nb G) σ a0 a1 a2 post) (hw : ck_H G s H locs σ) (hl : lv_has ls 7 [(0, .long a0), (2, .long a1), (4, .int a2)]) : W p l e ({ frames := 0, cells := 0, slots := 0, locals := 0 } : Room) s m args below meth c H locs 0 0 (MQ below (va_Qi post (ck_Q G) (ck_A G s.heap.size)) args s 0 0 (ck_A G s.heap.size)) (F0 m 0 ls []) := by
  obtain ⟨hx, hb, hr, hml, hown, hts, hlocks⟩ := id X
  unfold sp_X3_numberIn at h
  refine lv_iload hx hb dX3_numberIn_0 (lv_at hl 2 rfl) ?_
  refine lv_iconst (v := 4) hx hb dX3_numberIn_2 (by decide) ?_
  obtain ⟨hA, hB⟩ := h
  refine lv_icmp_ge (tgt := 19) hx hb dX3_numberIn_3 (by decide) (fun c1 => ?_) (fun c1 => ?_)
  · have h := hA c1
    refine lv_lload_n hx hb dX3_numberIn_19 rfl (lv_at hl 1 rfl) ?_
    refine lv_bipush (v := 112) hx hb dX3_numberIn_20 (by decide) ?_
    refine lv_bipush (v := 16) hx hb dX3_numberIn_22 (by decide) ?_
    refine lv_iload hx hb dX3_numberIn_24 (lv_at hl 2 rfl) ?_
    refine lv_imul hx hb dX3_numberIn_26 ?_
    refine lv_isub hx hb dX3_numberIn_27 ?_
    refine lv_lushr hx hb dX3_numberIn_28 rfl ?_
    exact wk_X3_numberIn_29 X h hw (lv_sub hl [] rfl)
  · have h := hB c1
    refine lv_lload_n hx hb dX3_numberIn_6 rfl (lv_at hl 0 rfl) ?_
    refine lv_bipush (v := 48) hx hb dX3_numberIn_7 (by decide) ?_
    refine lv_bipush (v := 16) hx hb dX3_numberIn_9 (by decide) ?_
    refine lv_iload hx hb dX3_numberIn_11 (lv_at hl 2 rfl) ?_
    refine lv_imul hx hb dX3_numberIn_13 ?_
    refine lv_isub hx hb dX3_numberIn_14 ?_
    refine lv_lushr hx hb dX3_numberIn_15 rfl ?_
    refine lv_goto (tgt := 29) hx hb dX3_numberIn_16 (by decide) ?_
    exact wk_X3_numberIn_29 X h hw (lv_sub hl [] rfl)
set_option maxHeartbeats 4000000 in
set_option maxRecDepth 100000 in
theorem ct_X3_numberIn (l : Launch) (G : ck_G) {a0 : Int64} {a1 : Int64} {a2 : Int32} {σ : ck_S} {post : Int32 → ck_S → Prop} (h : sp_X3_numberIn (ck_nc G) (ck_nb G) σ a0 a1 a2 post) : ck_Mi l yX3_numberIn wsX3_numberIn ({ frames := 0, cells := 0, slots := 0, locals := 0 } : Room) G σ [.long a0, .long a1, .int a2] post := by
  intro sz
  refine Met.ofW (cc := cX3_numberIn) (maxL := 7) (ret := (some .int)) (by decide) rfl ?_
  intro p e s m args below meth c s₁ B hml hv
  obtain ⟨rfl, rfl, hw⟩ := ck_enter hv
  have hl := lv_entry ([.long a0, .long a1, .int a2]) (n := 7) (Nat.le_of_ble_eq_true rfl)
  rw [lg_entry_eq]
  generalize (lg_sl ([.long a0, .long a1, .int a2]) ++ List.replicate (7 - (lg_sl ([.long a0, .long a1, .int a2])).length) Slot.unset).toArray = ls at hl ⊢
  have hl : lv_has ls 7 [(0, .long a0), (2, .long a1), (4, .int a2)] := hl
  exact wk_X3_numberIn_0 ⟨B.exec, B.bytes, B.returns, hml, findClass_of_methodNamed B.named, atoms_spec (ws := wsX3_numberIn) B.pre, B.notSynchronized⟩ h hw hl
def sp_X3_take_69 (nc nb : Nat) (i : Nat) (post : ck_S → Prop) (K3 : ck_S → Int64 → Int64 → UInt64 → Int32 → Prop) (σ : ck_S) (x1 : Int64) (x3 : Int64) (x5 : UInt64) (x7 : Int32) (x8 : Int32) (s0 : Int32) (s1 : Int32) : Prop := (vp_in s1 6) ∧ ∀ σ2, σ2 = ck_ui σ 32 i (Int32.toNatClampNeg s1) s0 → (vp_in x7 6) ∧ ∀ σ4, σ4 = ck_ui σ2 31 i (Int32.toNatClampNeg x7) x8 → ∀ x_5, x_5 = x7 + 1 → K3 σ4 x1 x3 x5 x_5
def sp_X3_take_43 (nc nb : Nat) (i : Nat) (post : ck_S → Prop) (K3 : ck_S → Int64 → Int64 → UInt64 → Int32 → Prop) (σ : ck_S) (x1 : Int64) (x3 : Int64) (x5 : UInt64) (x7 : Int32) (x8 : Int32) (s0 : Int32) : Prop := ((s0 = 0 → (sp_X3_take_69 nc nb i post K3 σ x1 x3 x5 x7 x8 1 x7)) ∧ (¬ s0 = 0 → ((vp_in x7 6) ∧ sp_X3_take_69 nc nb i post K3 σ x1 x3 x5 x7 x8 ((ck_gi σ 32 i (Int32.toNatClampNeg x7)) + 1) x7)))
def sp_X3_take_42 (nc nb : Nat) (i : Nat) (post : ck_S → Prop) (K3 : ck_S → Int64 → Int64 → UInt64 → Int32 → Prop) (σ : ck_S) (x1 : Int64) (x3 : Int64) (x5 : UInt64) (x7 : Int32) (x8 : Int32) : Prop := sp_X3_take_43 nc nb i post K3 σ x1 x3 x5 x7 x8 0
def bd_X3_take_3 (nc nb : Nat) (i : Nat) (post : ck_S → Prop) (K3 : ck_S → Int64 → Int64 → UInt64 → Int32 → Prop) (σ : ck_S) (x1 : Int64) (x3 : Int64) (x5 : UInt64) (x7 : Int32) : Prop := ((6 ≤ x7 → (∀ σ2, σ2 = ck_ui σ 30 i 3 ((((x3.toUInt64 >>> ((16 : Int32).toInt64.toUInt64 &&& Int64.toUInt64 63)).toInt64) &&& 65535).toInt32) → sp_J9_floorMod_7cf53 nc nb σ2 (ck_gi σ2 30 i 4) 8 (fun x_4 σ3 => (vp_in x_4 8) ∧ ∀ σ6, σ6 = ck_ud σ3 33 i (Int32.toNatClampNeg x_4) x5 → ∀ σ7, σ7 = ck_ui σ6 30 i 4 ((ck_gi σ6 30 i 4) + 1) → ∀ σ8, σ8 = ck_ui σ7 30 i 5 0 → post σ8))) ∧ (¬ 6 ≤ x7 → (sp_X3_numberIn nc nb σ x1 x3 x7 (fun x_10 σ9 => (((ck_gi σ9 30 i 4) ≤ 0 → (sp_X3_take_42 nc nb i post K3 σ9 x1 x3 x5 x7 x_10)) ∧ (¬ (ck_gi σ9 30 i 4) ≤ 0 → ((vp_in x7 6) ∧ ((¬ x_10 = (ck_gi σ9 31 i (Int32.toNatClampNeg x7)) → (sp_X3_take_42 nc nb i post K3 σ9 x1 x3 x5 x7 x_10)) ∧ (x_10 = (ck_gi σ9 31 i (Int32.toNatClampNeg x7)) → (sp_X3_take_43 nc nb i post K3 σ9 x1 x3 x5 x7 x_10 1))))))))))
def sp_X3_take (nc nb : Nat) (σ : ck_S) (i : Nat) (a0 : Int64) (a1 : Int64) (a2 : UInt64) (post : ck_S → Prop) : Prop := lx_5 (bd_X3_take_3 nc nb i post) σ a0 a1 a2 0
set_option maxHeartbeats 4000000 in
set_option maxRecDepth 100000 in
theorem wk_X3_take_69 {p : Program} {l : Launch} {e : Env} {s : State} {m : MethodId} {args : Array Value} {below : List Frame} {meth : Method} {c : Code} {G : ck_G} (X : ck_X p s m meth c args cX3_take 10 none RX3 wsX3_take) (hC : ck_inC G) {i : Nat} (hi : i < ck_nc G) {post : ck_S → Prop} {K3 : ck_S → Int64 → Int64 → UInt64 → Int32 → Prop} (hK3 : ∀ (σ : ck_S) (x1 : Int64) (x3 : Int64) (x5 : UInt64) (x7 : Int32) (H : Heap) (locs : List Loc) (ls : Array Slot), K3 σ x1 x3 x5 x7 → ck_H G s H locs σ → lv_has ls 10 [(0, .ref (ck_ad G 30 i)), (1, .long x1), (3, .long x3), (5, .double x5), (7, .int x7)] → W p l e ({ frames := 1, cells := 0, slots := 0, locals := 26 } : Room) s m args below meth c H locs 0 0 (MQ below (va_Qv post (ck_Q G) (ck_A G s.heap.size)) args s 0 0 (ck_A G s.heap.size)) (F0 m 3 ls [])) {σ : ck_S} {x1 : Int64} {x3 : Int64} {x5 : UInt64} {x7 : Int32} {x8 : Int32} {s0 : Int32} {s1 : Int32} {H : Heap} {locs : List Loc} {ls : Array Slot} (h : sp_X3_take_69 (ck_nc G) (ck_nb G) i post K3 σ x1 x3 x5 x7 x8 s0 s1) (hw : ck_H G s H locs σ) (hl : lv_has ls 10 [(0, .ref (ck_ad G 30 i)), (1, .long x1), (3, .long x3), (5, .double x5), (7, .int x7), (8, .int x8)]) : W p l e ({ frames := 1, cells := 0, slots := 0, locals := 26 } : Room) s m args below meth c H locs 0 0 (MQ below (va_Qv post (ck_Q G) (ck_A G s.heap.size)) args s 0 0 (ck_A G s.heap.size)) (F0 m 69 ls [.int s0, .int s1, .ref (ck_ad G 32 i)]) := by
  obtain ⟨hx, hb, hr, hml, hown, hts, hlocks⟩ := id X
  have inX3 : ∀ w ∈ wsX30, w ∈ wsX3_take := fun _ h => List.mem_cons_of_mem _ (List.mem_append_right _ (h))
  unfold sp_X3_take_69 at h
  obtain ⟨n1, h⟩ := h
  refine ck_iast hx hb hw (hC.2 32 _ (by decide) (by decide) hi) (fun _ => rfl) n1 dX3_take_69 (fun H locs hw => ?_)
  obtain ⟨σ2, eσ2⟩ : ∃ z : ck_S, z = ck_ui σ 32 i (Int32.toNatClampNeg s1) s0 := ⟨_, rfl⟩
  rw [← eσ2] at hw
  have h := h σ2 eσ2
  refine lv_aload_n hx hb dX3_take_70 rfl (lv_at hl 0 rfl) ?_
  refine ck_get hx hb hts inX3 hown hw (hC.2 30 _ (by decide) (by decide) hi) rfl rfl 0 (by decide) (hts _ (List.mem_of_getElem? (i := 2) rfl)) rfl dX3_take_71 ?_
  refine lv_iload hx hb dX3_take_74 (lv_at hl 4 rfl) ?_
  refine lv_iload hx hb dX3_take_76 (lv_at hl 5 rfl) ?_
  obtain ⟨n3, h⟩ := h
  refine ck_iast hx hb hw (hC.2 31 _ (by decide) (by decide) hi) (fun _ => rfl) n3 dX3_take_78 (fun H locs hw => ?_)
  obtain ⟨σ4, eσ4⟩ : ∃ z : ck_S, z = ck_ui σ2 31 i (Int32.toNatClampNeg x7) x8 := ⟨_, rfl⟩
  rw [← eσ4] at hw
  have h := h σ4 eσ4
  obtain ⟨x_5, ex_5⟩ : ∃ z : Int32, z = x7 + 1 := ⟨_, rfl⟩
  have h := h x_5 ex_5
  refine lv_iinc (v := x_5) (lv' := [(7, .int x_5), (0, .ref (ck_ad G 30 i)), (1, .long x1), (3, .long x3), (5, .double x5), (8, .int x8)]) hx hb dX3_take_79 hl (k := 4) rfl (by rw [ex_5]; rfl) (by decide) rfl (fun ls hl => ?_)
  refine lv_goto (tgt := 3) hx hb dX3_take_82 (by decide) ?_
  exact hK3 _ _ _ _ _ _ _ _ h hw (lv_sub hl [1, 2, 3, 4, 0] rfl)
set_option maxHeartbeats 4000000 in
set_option maxRecDepth 100000 in
theorem wk_X3_take_43 {p : Program} {l : Launch} {e : Env} {s : State} {m : MethodId} {args : Array Value} {below : List Frame} {meth : Method} {c : Code} {G : ck_G} (X : ck_X p s m meth c args cX3_take 10 none RX3 wsX3_take) (hC : ck_inC G) {i : Nat} (hi : i < ck_nc G) {post : ck_S → Prop} {K3 : ck_S → Int64 → Int64 → UInt64 → Int32 → Prop} (hK3 : ∀ (σ : ck_S) (x1 : Int64) (x3 : Int64) (x5 : UInt64) (x7 : Int32) (H : Heap) (locs : List Loc) (ls : Array Slot), K3 σ x1 x3 x5 x7 → ck_H G s H locs σ → lv_has ls 10 [(0, .ref (ck_ad G 30 i)), (1, .long x1), (3, .long x3), (5, .double x5), (7, .int x7)] → W p l e ({ frames := 1, cells := 0, slots := 0, locals := 26 } : Room) s m args below meth c H locs 0 0 (MQ below (va_Qv post (ck_Q G) (ck_A G s.heap.size)) args s 0 0 (ck_A G s.heap.size)) (F0 m 3 ls [])) {σ : ck_S} {x1 : Int64} {x3 : Int64} {x5 : UInt64} {x7 : Int32} {x8 : Int32} {s0 : Int32} {H : Heap} {locs : List Loc} {ls : Array Slot} (h : sp_X3_take_43 (ck_nc G) (ck_nb G) i post K3 σ x1 x3 x5 x7 x8 s0) (hw : ck_H G s H locs σ) (hl : lv_has ls 10 [(0, .ref (ck_ad G 30 i)), (1, .long x1), (3, .long x3), (5, .double x5), (7, .int x7), (8, .int x8)]) : W p l e ({ frames := 1, cells := 0, slots := 0, locals := 26 } : Room) s m args below meth c H locs 0 0 (MQ below (va_Qv post (ck_Q G) (ck_A G s.heap.size)) args s 0 0 (ck_A G s.heap.size)) (F0 m 43 ls [.int s0]) := by
  obtain ⟨hx, hb, hr, hml, hown, hts, hlocks⟩ := id X
  have inX3 : ∀ w ∈ wsX30, w ∈ wsX3_take := fun _ h => List.mem_cons_of_mem _ (List.mem_append_right _ (h))
  unfold sp_X3_take_43 at h
  refine lv_istore (lv' := [(9, .int s0), (0, .ref (ck_ad G 30 i)), (1, .long x1), (3, .long x3), (5, .double x5), (7, .int x7), (8, .int x8)]) hx hb dX3_take_43 hl (by decide) rfl (fun ls hl => ?_)
  refine lv_aload_n hx hb dX3_take_45 rfl (lv_at hl 1 rfl) ?_
  refine ck_get hx hb hts inX3 hown hw (hC.2 30 _ (by decide) (by decide) hi) rfl rfl 1 (by decide) (hts _ (List.mem_of_getElem? (i := 3) rfl)) rfl dX3_take_46 ?_
  refine lv_iload hx hb dX3_take_49 (lv_at hl 5 rfl) ?_
  refine lv_iload hx hb dX3_take_51 (lv_at hl 0 rfl) ?_
  obtain ⟨hA, hB⟩ := h
  refine lv_if_eq (tgt := 68) hx hb dX3_take_53 (by decide) (fun c1 => ?_) (fun c1 => ?_)
  · have h := hA c1
    refine lv_iconst (v := 1) hx hb dX3_take_68 (by decide) ?_
    exact wk_X3_take_69 X hC hi hK3 h hw (lv_sub hl [1, 2, 3, 4, 5, 6] rfl)
  · have h := hB c1
    refine lv_aload_n hx hb dX3_take_56 rfl (lv_at hl 1 rfl) ?_
    refine ck_get hx hb hts inX3 hown hw (hC.2 30 _ (by decide) (by decide) hi) rfl rfl 1 (by decide) (hts _ (List.mem_of_getElem? (i := 3) rfl)) rfl dX3_take_57 ?_
    refine lv_iload hx hb dX3_take_60 (lv_at hl 5 rfl) ?_
    obtain ⟨n2, h⟩ := h
    refine ck_iald hx hb hw (hC.2 32 _ (by decide) (by decide) hi) rfl n2 dX3_take_62 ?_
    refine lv_iconst (v := 1) hx hb dX3_take_63 (by decide) ?_
    refine lv_iadd hx hb dX3_take_64 ?_
    refine lv_goto (tgt := 69) hx hb dX3_take_65 (by decide) ?_
    exact wk_X3_take_69 X hC hi hK3 h hw (lv_sub hl [1, 2, 3, 4, 5, 6] rfl)
set_option maxHeartbeats 4000000 in
set_option maxRecDepth 100000 in
theorem wk_X3_take_42 {p : Program} {l : Launch} {e : Env} {s : State} {m : MethodId} {args : Array Value} {below : List Frame} {meth : Method} {c : Code} {G : ck_G} (X : ck_X p s m meth c args cX3_take 10 none RX3 wsX3_take) (hC : ck_inC G) {i : Nat} (hi : i < ck_nc G) {post : ck_S → Prop} {K3 : ck_S → Int64 → Int64 → UInt64 → Int32 → Prop} (hK3 : ∀ (σ : ck_S) (x1 : Int64) (x3 : Int64) (x5 : UInt64) (x7 : Int32) (H : Heap) (locs : List Loc) (ls : Array Slot), K3 σ x1 x3 x5 x7 → ck_H G s H locs σ → lv_has ls 10 [(0, .ref (ck_ad G 30 i)), (1, .long x1), (3, .long x3), (5, .double x5), (7, .int x7)] → W p l e ({ frames := 1, cells := 0, slots := 0, locals := 26 } : Room) s m args below meth c H locs 0 0 (MQ below (va_Qv post (ck_Q G) (ck_A G s.heap.size)) args s 0 0 (ck_A G s.heap.size)) (F0 m 3 ls [])) {σ : ck_S} {x1 : Int64} {x3 : Int64} {x5 : UInt64} {x7 : Int32} {x8 : Int32} {H : Heap} {locs : List Loc} {ls : Array Slot} (h : sp_X3_take_42 (ck_nc G) (ck_nb G) i post K3 σ x1 x3 x5 x7 x8) (hw : ck_H G s H locs σ) (hl : lv_has ls 10 [(0, .ref (ck_ad G 30 i)), (1, .long x1), (3, .long x3), (5, .double x5), (7, .int x7), (8, .int x8)]) : W p l e ({ frames := 1, cells := 0, slots := 0, locals := 26 } : Room) s m args below meth c H locs 0 0 (MQ below (va_Qv post (ck_Q G) (ck_A G s.heap.size)) args s 0 0 (ck_A G s.heap.size)) (F0 m 42 ls []) := by
  obtain ⟨hx, hb, hr, hml, hown, hts, hlocks⟩ := id X
  have inX3 : ∀ w ∈ wsX30, w ∈ wsX3_take := fun _ h => List.mem_cons_of_mem _ (List.mem_append_right _ (h))
  unfold sp_X3_take_42 at h
  refine lv_iconst (v := 0) hx hb dX3_take_42 (by decide) ?_
  exact wk_X3_take_43 X hC hi hK3 h hw (lv_sub hl [0, 1, 2, 3, 4, 5] rfl)
set_option maxHeartbeats 4000000 in
set_option maxRecDepth 100000 in
theorem wk_X3_take_3 {p : Program} {l : Launch} {e : Env} {s : State} {m : MethodId} {args : Array Value} {below : List Frame} {meth : Method} {c : Code} {G : ck_G} (X : ck_X p s m meth c args cX3_take 10 none RX3 wsX3_take) (hC : ck_inC G) {i : Nat} (hi : i < ck_nc G) {post : ck_S → Prop} : ∀ (fu : Nat) (σ : ck_S) (x1 : Int64) (x3 : Int64) (x5 : UInt64) (x7 : Int32) (H : Heap) (locs : List Loc) (ls : Array Slot), lk_5 (bd_X3_take_3 (ck_nc G) (ck_nb G) i post) fu σ x1 x3 x5 x7 → ck_H G s H locs σ → lv_has ls 10 [(0, .ref (ck_ad G 30 i)), (1, .long x1), (3, .long x3), (5, .double x5), (7, .int x7)] → W p l e ({ frames := 1, cells := 0, slots := 0, locals := 26 } : Room) s m args below meth c H locs 0 0 (MQ below (va_Qv post (ck_Q G) (ck_A G s.heap.size)) args s 0 0 (ck_A G s.heap.size)) (F0 m 3 ls []) := by
  obtain ⟨hx, hb, hr, hml, hown, hts, hlocks⟩ := id X
  have inX3 : ∀ w ∈ wsX30, w ∈ wsX3_take := fun _ h => List.mem_cons_of_mem _ (List.mem_append_right _ (h))
  intro fu
  induction fu with
  | zero => intro σ x1 x3 x5 x7 H locs ls h hw hl; exact h.elim
  | succ fu hK3 =>
    intro σ x1 x3 x5 x7 H locs ls h hw hl
    have h : bd_X3_take_3 (ck_nc G) (ck_nb G) i post (lk_5 (bd_X3_take_3 (ck_nc G) (ck_nb G) i post) fu) σ x1 x3 x5 x7 := h
    unfold bd_X3_take_3 at h
    refine lv_iload hx hb dX3_take_3 (lv_at hl 4 rfl) ?_
    refine lv_bipush (v := 6) hx hb dX3_take_5 (by decide) ?_
    obtain ⟨hA, hB⟩ := h
    refine lv_icmp_ge (tgt := 85) hx hb dX3_take_7 (by decide) (fun c1 => ?_) (fun c1 => ?_)
    · have h := hA c1
      refine lv_aload_n hx hb dX3_take_85 rfl (lv_at hl 0 rfl) ?_
      refine lv_lload_n hx hb dX3_take_86 rfl (lv_at hl 2 rfl) ?_
      refine lv_bipush (v := 16) hx hb dX3_take_87 (by decide) ?_
      refine lv_lushr hx hb dX3_take_89 rfl ?_
      refine lv_ldc2 hx hb hown (hts _ (List.mem_of_getElem? (i := 4) rfl)) dX3_take_90 ?_
      refine lv_land hx hb dX3_take_93 ?_
      refine lv_l2i hx hb dX3_take_94 rfl ?_
      refine ck_puti hx hb hts inX3 tyX3 tyX3_ok nmX3 hown hw (hC.2 30 _ (by decide) (by decide) hi) rfl rfl 3 (by decide) (hts _ (List.mem_of_getElem? (i := 5) rfl)) rfl rfl rfl (Nat.le_of_ble_eq_true rfl) rfl dX3_take_95 (fun H locs hw => ?_)
      obtain ⟨σ2, eσ2⟩ : ∃ z : ck_S, z = ck_ui σ 30 i 3 ((((x3.toUInt64 >>> ((16 : Int32).toInt64.toUInt64 &&& Int64.toUInt64 63)).toInt64) &&& 65535).toInt32) := ⟨_, rfl⟩
      rw [← eσ2] at hw
      have h := h σ2 eσ2
      refine lv_aload_n hx hb dX3_take_98 rfl (lv_at hl 0 rfl) ?_
      refine ck_get hx hb hts inX3 hown hw (hC.2 30 _ (by decide) (by decide) hi) rfl rfl 2 (by decide) (hts _ (List.mem_of_getElem? (i := 6) rfl)) rfl dX3_take_99 ?_
      refine lv_aload_n hx hb dX3_take_102 rfl (lv_at hl 0 rfl) ?_
      refine ck_get hx hb hts inX3 hown hw (hC.2 30 _ (by decide) (by decide) hi) rfl rfl 4 (by decide) (hts _ (List.mem_of_getElem? (i := 1) rfl)) rfl dX3_take_103 ?_
      refine lv_bipush (v := 8) hx hb dX3_take_106 (by decide) ?_
      refine ck_callSi (rest := [.ref (ck_ad G 33 i)]) ⟨hx, hb, hml, hown, hts⟩ hw (ct_J9_floorMod_7cf53 l G h) (va_cwS 2 hts gX3_take_J9_floorMod_7cf53 rfl rfl rfl (by decide +kernel) ⟨(Nat.le_of_ble_eq_true rfl), (Nat.le_of_ble_eq_true rfl)⟩) rfl hl.1 rfl (Nat.le_of_ble_eq_true rfl) dX3_take_108 ⟨(Nat.le_of_ble_eq_true rfl), (Nat.le_of_ble_eq_true rfl)⟩ (fun x_4 σ3 H locs h hw => ?_)
      refine lv_dload hx hb dX3_take_111 (lv_at hl 3 rfl) ?_
      obtain ⟨n5, h⟩ := h
      refine ck_dast hx hb hw (hC.2 33 _ (by decide) (by decide) hi) (fun _ => rfl) n5 dX3_take_113 (fun H locs hw => ?_)
      obtain ⟨σ6, eσ6⟩ : ∃ z : ck_S, z = ck_ud σ3 33 i (Int32.toNatClampNeg x_4) x5 := ⟨_, rfl⟩
      rw [← eσ6] at hw
      have h := h σ6 eσ6
      refine lv_aload_n hx hb dX3_take_114 rfl (lv_at hl 0 rfl) ?_
      refine lv_dup hx hb dX3_take_115 rfl ?_
      refine ck_get hx hb hts inX3 hown hw (hC.2 30 _ (by decide) (by decide) hi) rfl rfl 4 (by decide) (hts _ (List.mem_of_getElem? (i := 1) rfl)) rfl dX3_take_116 ?_
      refine lv_iconst (v := 1) hx hb dX3_take_119 (by decide) ?_
      refine lv_iadd hx hb dX3_take_120 ?_
      refine ck_puti hx hb hts inX3 tyX3 tyX3_ok nmX3 hown hw (hC.2 30 _ (by decide) (by decide) hi) rfl rfl 4 (by decide) (hts _ (List.mem_of_getElem? (i := 1) rfl)) rfl rfl rfl (Nat.le_of_ble_eq_true rfl) rfl dX3_take_121 (fun H locs hw => ?_)
      obtain ⟨σ7, eσ7⟩ : ∃ z : ck_S, z = ck_ui σ6 30 i 4 ((ck_gi σ6 30 i 4) + 1) := ⟨_, rfl⟩
      rw [← eσ7] at hw
      have h := h σ7 eσ7
      refine lv_aload_n hx hb dX3_take_124 rfl (lv_at hl 0 rfl) ?_
      refine lv_iconst (v := 0) hx hb dX3_take_125 (by decide) ?_
      refine ck_puti hx hb hts inX3 tyX3 tyX3_ok nmX3 hown hw (hC.2 30 _ (by decide) (by decide) hi) rfl rfl 5 (by decide) (hts _ (List.mem_of_getElem? (i := 7) rfl)) rfl rfl rfl (Nat.le_of_ble_eq_true rfl) rfl dX3_take_126 (fun H locs hw => ?_)
      obtain ⟨σ8, eσ8⟩ : ∃ z : ck_S, z = ck_ui σ7 30 i 5 0 := ⟨_, rfl⟩
      rw [← eσ8] at hw
      have h := h σ8 eσ8
      exact ck_vret X hw h dX3_take_129
    · have h := hB c1
      refine lv_lload_n hx hb dX3_take_10 rfl (lv_at hl 1 rfl) ?_
      refine lv_lload_n hx hb dX3_take_11 rfl (lv_at hl 2 rfl) ?_
      refine lv_iload hx hb dX3_take_12 (lv_at hl 4 rfl) ?_
      refine ck_callSi (rest := []) ⟨hx, hb, hml, hown, hts⟩ hw (ct_X3_numberIn l G h) (va_cwS 3 hts gX3_take_X3_numberIn rfl rfl rfl (by decide +kernel) ⟨(Nat.le_of_ble_eq_true rfl), (Nat.le_of_ble_eq_true rfl)⟩) rfl hl.1 rfl (Nat.le_of_ble_eq_true rfl) dX3_take_14 ⟨(Nat.le_of_ble_eq_true rfl), (Nat.le_of_ble_eq_true rfl)⟩ (fun x_10 σ9 H locs h hw => ?_)
      refine lv_istore (lv' := [(8, .int x_10), (0, .ref (ck_ad G 30 i)), (1, .long x1), (3, .long x3), (5, .double x5), (7, .int x7)]) hx hb dX3_take_17 hl (by decide) rfl (fun ls hl => ?_)
      refine lv_aload_n hx hb dX3_take_19 rfl (lv_at hl 1 rfl) ?_
      refine ck_get hx hb hts inX3 hown hw (hC.2 30 _ (by decide) (by decide) hi) rfl rfl 4 (by decide) (hts _ (List.mem_of_getElem? (i := 1) rfl)) rfl dX3_take_20 ?_
      obtain ⟨hA, hB⟩ := h
      refine lv_if_le (tgt := 42) hx hb dX3_take_23 (by decide) (fun c11 => ?_) (fun c11 => ?_)
      · have h := hA c11
        exact wk_X3_take_42 X hC hi hK3 h hw (lv_sub hl [1, 2, 3, 4, 5, 0] rfl)
      · have h := hB c11
        refine lv_iload hx hb dX3_take_26 (lv_at hl 0 rfl) ?_
        refine lv_aload_n hx hb dX3_take_28 rfl (lv_at hl 1 rfl) ?_
        refine ck_get hx hb hts inX3 hown hw (hC.2 30 _ (by decide) (by decide) hi) rfl rfl 0 (by decide) (hts _ (List.mem_of_getElem? (i := 2) rfl)) rfl dX3_take_29 ?_
        refine lv_iload hx hb dX3_take_32 (lv_at hl 5 rfl) ?_
        obtain ⟨n12, h⟩ := h
        refine ck_iald hx hb hw (hC.2 31 _ (by decide) (by decide) hi) rfl n12 dX3_take_34 ?_
        obtain ⟨hA, hB⟩ := h
        refine lv_icmp_ne (tgt := 42) hx hb dX3_take_35 (by decide) (fun c13 => ?_) (fun c13 => ?_)
        · have h := hA c13
          exact wk_X3_take_42 X hC hi hK3 h hw (lv_sub hl [1, 2, 3, 4, 5, 0] rfl)
        · have h := hB c13
          refine lv_iconst (v := 1) hx hb dX3_take_38 (by decide) ?_
          refine lv_goto (tgt := 43) hx hb dX3_take_39 (by decide) ?_
          exact wk_X3_take_43 X hC hi hK3 h hw (lv_sub hl [1, 2, 3, 4, 5, 0] rfl)
set_option maxHeartbeats 4000000 in
set_option maxRecDepth 100000 in
theorem wk_X3_take_0 {p : Program} {l : Launch} {e : Env} {s : State} {m : MethodId} {args : Array Value} {below : List Frame} {meth : Method} {c : Code} {G : ck_G} (X : ck_X p s m meth c args cX3_take 10 none RX3 wsX3_take) (hC : ck_inC G) {i : Nat} (hi : i < ck_nc G) {post : ck_S → Prop} {σ : ck_S} {a0 : Int64} {a1 : Int64} {a2 : UInt64} {H : Heap} {locs : List Loc} {ls : Array Slot} (h : sp_X3_take (ck_nc G) (ck_nb G) σ i a0 a1 a2 post) (hw : ck_H G s H locs σ) (hl : lv_has ls 10 [(0, .ref (ck_ad G 30 i)), (1, .long a0), (3, .long a1), (5, .double a2)]) : W p l e ({ frames := 1, cells := 0, slots := 0, locals := 26 } : Room) s m args below meth c H locs 0 0 (MQ below (va_Qv post (ck_Q G) (ck_A G s.heap.size)) args s 0 0 (ck_A G s.heap.size)) (F0 m 0 ls []) := by
  obtain ⟨hx, hb, hr, hml, hown, hts, hlocks⟩ := id X
  have inX3 : ∀ w ∈ wsX30, w ∈ wsX3_take := fun _ h => List.mem_cons_of_mem _ (List.mem_append_right _ (h))
  unfold sp_X3_take at h
  refine lv_iconst (v := 0) hx hb dX3_take_0 (by decide) ?_
  refine lv_istore (lv' := [(7, .int 0), (0, .ref (ck_ad G 30 i)), (1, .long a0), (3, .long a1), (5, .double a2)]) hx hb dX3_take_1 hl (by decide) rfl (fun ls hl => ?_)
  obtain ⟨fu, h⟩ := h
  exact wk_X3_take_3 X hC hi fu _ _ _ _ _ _ _ _ h hw (lv_sub hl [1, 2, 3, 4, 0] rfl)
set_option maxHeartbeats 4000000 in
set_option maxRecDepth 100000 in
theorem ct_X3_take (l : Launch) (G : ck_G) (hC : ck_inC G) {i : Nat} (hi : i < ck_nc G) {a0 : Int64} {a1 : Int64} {a2 : UInt64} {σ : ck_S} {post : ck_S → Prop} (h : sp_X3_take (ck_nc G) (ck_nb G) σ i a0 a1 a2 post) : ck_Mv l yX3_take wsX3_take ({ frames := 1, cells := 0, slots := 0, locals := 26 } : Room) G σ [.ref (ck_ad G 30 i), .long a0, .long a1, .double a2] post := by
  intro sz
  refine Met.ofW (cc := cX3_take) (maxL := 10) (ret := none) (by decide) rfl ?_
  intro p e s m args below meth c s₁ B hml hv
  obtain ⟨rfl, rfl, hw⟩ := ck_enter hv
  have hl := lv_entry ([.ref (ck_ad G 30 i), .long a0, .long a1, .double a2]) (n := 10) (Nat.le_of_ble_eq_true rfl)
  rw [lg_entry_eq]
  generalize (lg_sl ([.ref (ck_ad G 30 i), .long a0, .long a1, .double a2]) ++ List.replicate (10 - (lg_sl ([.ref (ck_ad G 30 i), .long a0, .long a1, .double a2])).length) Slot.unset).toArray = ls at hl ⊢
  have hl : lv_has ls 10 [(0, .ref (ck_ad G 30 i)), (1, .long a0), (3, .long a1), (5, .double a2)] := hl
  exact wk_X3_take_0 ⟨B.exec, B.bytes, B.returns, hml, findClass_of_methodNamed B.named, atoms_spec (ws := wsX3_take) B.pre, B.notSynchronized⟩ hC hi h hw hl
def sp_X3_isStale (nc nb : Nat) (σ : ck_S) (i : Nat) (post : Int32 → ck_S → Prop) : Prop := (((ck_gi σ 30 i 4) = 0 → ((ck_b 1 ∧ post 1 σ))) ∧ (¬ (ck_gi σ 30 i 4) = 0 → ((((ck_gi σ 30 i 5) ≤ 10 → ((ck_b 0 ∧ post 0 σ))) ∧ (¬ (ck_gi σ 30 i 5) ≤ 10 → ((ck_b 1 ∧ post 1 σ)))))))
set_option maxHeartbeats 4000000 in
set_option maxRecDepth 100000 in
theorem wk_X3_isStale_0 {p : Program} {l : Launch} {e : Env} {s : State} {m : MethodId} {args : Array Value} {below : List Frame} {meth : Method} {c : Code} {G : ck_G} (X : ck_X p s m meth c args cX3_isStale 1 (some .boolean) RX3 wsX3_isStale) (hC : ck_inC G) {i : Nat} (hi : i < ck_nc G) {post : Int32 → ck_S → Prop} {σ : ck_S} {H : Heap} {locs : List Loc} {ls : Array Slot} (h : sp_X3_isStale (ck_nc G) (ck_nb G) σ i post) (hw : ck_H G s H locs σ) (hl : lv_has ls 1 [(0, .ref (ck_ad G 30 i))]) : W p l e ({ frames := 0, cells := 0, slots := 0, locals := 0 } : Room) s m args below meth c H locs 0 0 (MQ below (va_Qi post (ck_Q G) (ck_A G s.heap.size)) args s 0 0 (ck_A G s.heap.size)) (F0 m 0 ls []) := by
  obtain ⟨hx, hb, hr, hml, hown, hts, hlocks⟩ := id X
  have inX3 : ∀ w ∈ wsX30, w ∈ wsX3_isStale := fun _ h => List.mem_cons_of_mem _ (List.mem_append_right _ (h))
  unfold sp_X3_isStale at h
  refine lv_aload_n hx hb dX3_isStale_0 rfl (lv_at hl 0 rfl) ?_
  refine ck_get hx hb hts inX3 hown hw (hC.2 30 _ (by decide) (by decide) hi) rfl rfl 4 (by decide) (hts _ (List.mem_of_getElem? (i := 1) rfl)) rfl dX3_isStale_1 ?_
  obtain ⟨hA, hB⟩ := h
  refine lv_if_eq (tgt := 16) hx hb dX3_isStale_4 (by decide) (fun c1 => ?_) (fun c1 => ?_)
  · have h := hA c1
    refine lv_iconst (v := 1) hx hb dX3_isStale_16 (by decide) ?_
    refine lv_goto (tgt := 21) hx hb dX3_isStale_17 (by decide) ?_
    exact ck_zret X hw h dX3_isStale_21
  · have h := hB c1
    refine lv_aload_n hx hb dX3_isStale_7 rfl (lv_at hl 0 rfl) ?_
    refine ck_get hx hb hts inX3 hown hw (hC.2 30 _ (by decide) (by decide) hi) rfl rfl 5 (by decide) (hts _ (List.mem_of_getElem? (i := 2) rfl)) rfl dX3_isStale_8 ?_
    refine lv_bipush (v := 10) hx hb dX3_isStale_11 (by decide) ?_
    obtain ⟨hA, hB⟩ := h
    refine lv_icmp_le (tgt := 20) hx hb dX3_isStale_13 (by decide) (fun c2 => ?_) (fun c2 => ?_)
    · have h := hA c2
      refine lv_iconst (v := 0) hx hb dX3_isStale_20 (by decide) ?_
      exact ck_zret X hw h dX3_isStale_21
    · have h := hB c2
      refine lv_iconst (v := 1) hx hb dX3_isStale_16 (by decide) ?_
      refine lv_goto (tgt := 21) hx hb dX3_isStale_17 (by decide) ?_
      exact ck_zret X hw h dX3_isStale_21
set_option maxHeartbeats 4000000 in
set_option maxRecDepth 100000 in
theorem ct_X3_isStale (l : Launch) (G : ck_G) (hC : ck_inC G) {i : Nat} (hi : i < ck_nc G) {σ : ck_S} {post : Int32 → ck_S → Prop} (h : sp_X3_isStale (ck_nc G) (ck_nb G) σ i post) : ck_Mi l yX3_isStale wsX3_isStale ({ frames := 0, cells := 0, slots := 0, locals := 0 } : Room) G σ [.ref (ck_ad G 30 i)] post := by
  intro sz
  refine Met.ofW (cc := cX3_isStale) (maxL := 1) (ret := (some .boolean)) (by decide) rfl ?_
  intro p e s m args below meth c s₁ B hml hv
  obtain ⟨rfl, rfl, hw⟩ := ck_enter hv
  have hl := lv_entry ([.ref (ck_ad G 30 i)]) (n := 1) (Nat.le_of_ble_eq_true rfl)
  rw [lg_entry_eq]
  generalize (lg_sl ([.ref (ck_ad G 30 i)]) ++ List.replicate (1 - (lg_sl ([.ref (ck_ad G 30 i)])).length) Slot.unset).toArray = ls at hl ⊢
  have hl : lv_has ls 1 [(0, .ref (ck_ad G 30 i))] := hl
  exact wk_X3_isStale_0 ⟨B.exec, B.bytes, B.returns, hml, findClass_of_methodNamed B.named, atoms_spec (ws := wsX3_isStale) B.pre, B.notSynchronized⟩ hC hi h hw hl
def sp_X3_currentsSwing_69 (nc nb : Nat) (i : Nat) (post : Int32 → ck_S → Prop) (K28 : ck_S → UInt64 → UInt64 → Int32 → Int32 → Prop) (σ : ck_S) (x1 : UInt64) (x6 : Int32) (x7 : Int32) (s0 : UInt64) : Prop := ∀ x_1, x_1 = x7 + 1 → K28 σ x1 s0 x6 x_1
def sp_X3_currentsSwing_55 (nc nb : Nat) (i : Nat) (post : Int32 → ck_S → Prop) (K28 : ck_S → UInt64 → UInt64 → Int32 → Int32 → Prop) (σ : ck_S) (x3 : UInt64) (x6 : Int32) (x7 : Int32) (x8 : UInt64) (s0 : UInt64) : Prop := (((Op.cmpValue (FP.dcmp x8 x3) .l) ≤ 0 → (sp_X3_currentsSwing_69 nc nb i post K28 σ s0 x6 x7 x3)) ∧ (¬ (Op.cmpValue (FP.dcmp x8 x3) .l) ≤ 0 → (sp_X3_currentsSwing_69 nc nb i post K28 σ s0 x6 x7 x8)))
def bd_X3_currentsSwing_28 (nc nb : Nat) (i : Nat) (post : Int32 → ck_S → Prop) (K28 : ck_S → UInt64 → UInt64 → Int32 → Int32 → Prop) (σ : ck_S) (x1 : UInt64) (x3 : UInt64) (x6 : Int32) (x7 : Int32) : Prop := ((x6 ≤ x7 → ((vf_n64 (FP.dsub x3 x1)) ∧ (((Op.cmpValue (FP.dcmp (FP.dsub x3 x1) 4620693217682128896) .l) ≤ 0 → ((ck_b 0 ∧ post 0 σ))) ∧ (¬ (Op.cmpValue (FP.dcmp (FP.dsub x3 x1) 4620693217682128896) .l) ≤ 0 → ((ck_b 1 ∧ post 1 σ)))))) ∧ (¬ x6 ≤ x7 → ((vp_in x7 8) ∧ ∀ z_5, z_5 = (ck_gd σ 33 i (Int32.toNatClampNeg x7)) → ((0 ≤ (Op.cmpValue (FP.dcmp z_5 x1) .g) → (sp_X3_currentsSwing_55 nc nb i post K28 σ x3 x6 x7 z_5 x1)) ∧ (¬ 0 ≤ (Op.cmpValue (FP.dcmp z_5 x1) .g) → (sp_X3_currentsSwing_55 nc nb i post K28 σ x3 x6 x7 z_5 z_5))))))
def sp_X3_currentsSwing (nc nb : Nat) (σ : ck_S) (i : Nat) (post : Int32 → ck_S → Prop) : Prop := (vp_in 0 8) ∧ ∀ z_2, z_2 = (ck_gd σ 33 i (Int32.toNatClampNeg 0)) → (vp_in 0 8) ∧ ∀ z_4, z_4 = (ck_gd σ 33 i (Int32.toNatClampNeg 0)) → ∀ x_5, x_5 = (nI 8) → lx_5 (bd_X3_currentsSwing_28 nc nb i post) σ z_2 z_4 x_5 0
set_option maxHeartbeats 4000000 in
set_option maxRecDepth 100000 in
theorem wk_X3_currentsSwing_69 {p : Program} {l : Launch} {e : Env} {s : State} {m : MethodId} {args : Array Value} {below : List Frame} {meth : Method} {c : Code} {G : ck_G} (X : ck_X p s m meth c args cX3_currentsSwing 10 (some .boolean) RX3 wsX3_currentsSwing) (hC : ck_inC G) {i : Nat} (hi : i < ck_nc G) {post : Int32 → ck_S → Prop} {K28 : ck_S → UInt64 → UInt64 → Int32 → Int32 → Prop} (hK28 : ∀ (σ : ck_S) (x1 : UInt64) (x3 : UInt64) (x6 : Int32) (x7 : Int32) (H : Heap) (locs : List Loc) (ls : Array Slot), K28 σ x1 x3 x6 x7 → ck_H G s H locs σ → lv_has ls 10 [(1, .double x1), (3, .double x3), (5, .ref (ck_ad G 33 i)), (6, .int x6), (7, .int x7)] → W p l e ({ frames := 0, cells := 0, slots := 0, locals := 0 } : Room) s m args below meth c H locs 0 0 (MQ below (va_Qi post (ck_Q G) (ck_A G s.heap.size)) args s 0 0 (ck_A G s.heap.size)) (F0 m 28 ls [])) {σ : ck_S} {x1 : UInt64} {x6 : Int32} {x7 : Int32} {s0 : UInt64} {H : Heap} {locs : List Loc} {ls : Array Slot} (h : sp_X3_currentsSwing_69 (ck_nc G) (ck_nb G) i post K28 σ x1 x6 x7 s0) (hw : ck_H G s H locs σ) (hl : lv_has ls 10 [(1, .double x1), (5, .ref (ck_ad G 33 i)), (6, .int x6), (7, .int x7)]) : W p l e ({ frames := 0, cells := 0, slots := 0, locals := 0 } : Room) s m args below meth c H locs 0 0 (MQ below (va_Qi post (ck_Q G) (ck_A G s.heap.size)) args s 0 0 (ck_A G s.heap.size)) (F0 m 69 ls [.double s0]) := by
  obtain ⟨hx, hb, hr, hml, hown, hts, hlocks⟩ := id X
  have inX3 : ∀ w ∈ wsX30, w ∈ wsX3_currentsSwing := fun _ h => List.mem_cons_of_mem _ (List.mem_append_right _ (h))
  unfold sp_X3_currentsSwing_69 at h
  refine lv_dstore_n (lv' := [(3, .double s0), (1, .double x1), (5, .ref (ck_ad G 33 i)), (6, .int x6), (7, .int x7)]) hx hb dX3_currentsSwing_69 rfl hl (by decide) rfl (fun ls hl => ?_)
  obtain ⟨x_1, ex_1⟩ : ∃ z : Int32, z = x7 + 1 := ⟨_, rfl⟩
  have h := h x_1 ex_1
  refine lv_iinc (v := x_1) (lv' := [(7, .int x_1), (3, .double s0), (1, .double x1), (5, .ref (ck_ad G 33 i)), (6, .int x6)]) hx hb dX3_currentsSwing_70 hl (k := 4) rfl (by rw [ex_1]; rfl) (by decide) rfl (fun ls hl => ?_)
  refine lv_goto (tgt := 28) hx hb dX3_currentsSwing_73 (by decide) ?_
  exact hK28 _ _ _ _ _ _ _ _ h hw (lv_sub hl [2, 1, 3, 4, 0] rfl)
set_option maxHeartbeats 4000000 in
set_option maxRecDepth 100000 in
theorem wk_X3_currentsSwing_55 {p : Program} {l : Launch} {e : Env} {s : State} {m : MethodId} {args : Array Value} {below : List Frame} {meth : Method} {c : Code} {G : ck_G} (X : ck_X p s m meth c args cX3_currentsSwing 10 (some .boolean) RX3 wsX3_currentsSwing) (hC : ck_inC G) {i : Nat} (hi : i < ck_nc G) {post : Int32 → ck_S → Prop} {K28 : ck_S → UInt64 → UInt64 → Int32 → Int32 → Prop} (hK28 : ∀ (σ : ck_S) (x1 : UInt64) (x3 : UInt64) (x6 : Int32) (x7 : Int32) (H : Heap) (locs : List Loc) (ls : Array Slot), K28 σ x1 x3 x6 x7 → ck_H G s H locs σ → lv_has ls 10 [(1, .double x1), (3, .double x3), (5, .ref (ck_ad G 33 i)), (6, .int x6), (7, .int x7)] → W p l e ({ frames := 0, cells := 0, slots := 0, locals := 0 } : Room) s m args below meth c H locs 0 0 (MQ below (va_Qi post (ck_Q G) (ck_A G s.heap.size)) args s 0 0 (ck_A G s.heap.size)) (F0 m 28 ls [])) {σ : ck_S} {x3 : UInt64} {x6 : Int32} {x7 : Int32} {x8 : UInt64} {s0 : UInt64} {H : Heap} {locs : List Loc} {ls : Array Slot} (h : sp_X3_currentsSwing_55 (ck_nc G) (ck_nb G) i post K28 σ x3 x6 x7 x8 s0) (hw : ck_H G s H locs σ) (hl : lv_has ls 10 [(3, .double x3), (5, .ref (ck_ad G 33 i)), (6, .int x6), (7, .int x7), (8, .double x8)]) : W p l e ({ frames := 0, cells := 0, slots := 0, locals := 0 } : Room) s m args below meth c H locs 0 0 (MQ below (va_Qi post (ck_Q G) (ck_A G s.heap.size)) args s 0 0 (ck_A G s.heap.size)) (F0 m 55 ls [.double s0]) := by
  obtain ⟨hx, hb, hr, hml, hown, hts, hlocks⟩ := id X
  have inX3 : ∀ w ∈ wsX30, w ∈ wsX3_currentsSwing := fun _ h => List.mem_cons_of_mem _ (List.mem_append_right _ (h))
  unfold sp_X3_currentsSwing_55 at h
  refine lv_dstore_n (lv' := [(1, .double s0), (3, .double x3), (5, .ref (ck_ad G 33 i)), (6, .int x6), (7, .int x7), (8, .double x8)]) hx hb dX3_currentsSwing_55 rfl hl (by decide) rfl (fun ls hl => ?_)
  refine lv_dload hx hb dX3_currentsSwing_56 (lv_at hl 5 rfl) ?_
  refine lv_dload_n hx hb dX3_currentsSwing_58 rfl (lv_at hl 1 rfl) ?_
  refine lv_dcmp hx hb dX3_currentsSwing_59 ?_
  obtain ⟨hA, hB⟩ := h
  refine lv_if_le (tgt := 68) hx hb dX3_currentsSwing_60 (by decide) (fun c1 => ?_) (fun c1 => ?_)
  · have h := hA c1
    refine lv_dload_n hx hb dX3_currentsSwing_68 rfl (lv_at hl 1 rfl) ?_
    exact wk_X3_currentsSwing_69 X hC hi hK28 h hw (lv_sub hl [0, 2, 3, 4] rfl)
  · have h := hB c1
    refine lv_dload hx hb dX3_currentsSwing_63 (lv_at hl 5 rfl) ?_
    refine lv_goto (tgt := 69) hx hb dX3_currentsSwing_65 (by decide) ?_
    exact wk_X3_currentsSwing_69 X hC hi hK28 h hw (lv_sub hl [0, 2, 3, 4] rfl)
set_option maxHeartbeats 4000000 in
set_option maxRecDepth 100000 in
theorem wk_X3_currentsSwing_28 {p : Program} {l : Launch} {e : Env} {s : State} {m : MethodId} {args : Array Value} {below : List Frame} {meth : Method} {c : Code} {G : ck_G} (X : ck_X p s m meth c args cX3_currentsSwing 10 (some .boolean) RX3 wsX3_currentsSwing) (hC : ck_inC G) {i : Nat} (hi : i < ck_nc G) {post : Int32 → ck_S → Prop} : ∀ (fu : Nat) (σ : ck_S) (x1 : UInt64) (x3 : UInt64) (x6 : Int32) (x7 : Int32) (H : Heap) (locs : List Loc) (ls : Array Slot), lk_5 (bd_X3_currentsSwing_28 (ck_nc G) (ck_nb G) i post) fu σ x1 x3 x6 x7 → ck_H G s H locs σ → lv_has ls 10 [(1, .double x1), (3, .double x3), (5, .ref (ck_ad G 33 i)), (6, .int x6), (7, .int x7)] → W p l e ({ frames := 0, cells := 0, slots := 0, locals := 0 } : Room) s m args below meth c H locs 0 0 (MQ below (va_Qi post (ck_Q G) (ck_A G s.heap.size)) args s 0 0 (ck_A G s.heap.size)) (F0 m 28 ls []) := by
  obtain ⟨hx, hb, hr, hml, hown, hts, hlocks⟩ := id X
  have inX3 : ∀ w ∈ wsX30, w ∈ wsX3_currentsSwing := fun _ h => List.mem_cons_of_mem _ (List.mem_append_right _ (h))
  intro fu
  induction fu with
  | zero => intro σ x1 x3 x6 x7 H locs ls h hw hl; exact h.elim
  | succ fu hK28 =>
    intro σ x1 x3 x6 x7 H locs ls h hw hl
    have h : bd_X3_currentsSwing_28 (ck_nc G) (ck_nb G) i post (lk_5 (bd_X3_currentsSwing_28 (ck_nc G) (ck_nb G) i post) fu) σ x1 x3 x6 x7 := h
    unfold bd_X3_currentsSwing_28 at h
    refine lv_iload hx hb dX3_currentsSwing_28 (lv_at hl 4 rfl) ?_
    refine lv_iload hx hb dX3_currentsSwing_30 (lv_at hl 3 rfl) ?_
    obtain ⟨hA, hB⟩ := h
    refine lv_icmp_ge (tgt := 76) hx hb dX3_currentsSwing_32 (by decide) (fun c1 => ?_) (fun c1 => ?_)
    · have h := hA c1
      refine lv_dload_n hx hb dX3_currentsSwing_76 rfl (lv_at hl 1 rfl) ?_
      refine lv_dload_n hx hb dX3_currentsSwing_77 rfl (lv_at hl 0 rfl) ?_
      obtain ⟨n2, h⟩ := h
      refine lv_dsub hx hb dX3_currentsSwing_78 n2 ?_
      refine lv_ldc2d hx hb hown (hts _ (List.mem_of_getElem? (i := 2) rfl)) dX3_currentsSwing_79 ?_
      refine lv_dcmp hx hb dX3_currentsSwing_82 ?_
      obtain ⟨hA, hB⟩ := h
      refine lv_if_le (tgt := 90) hx hb dX3_currentsSwing_83 (by decide) (fun c3 => ?_) (fun c3 => ?_)
      · have h := hA c3
        refine lv_iconst (v := 0) hx hb dX3_currentsSwing_90 (by decide) ?_
        exact ck_zret X hw h dX3_currentsSwing_91
      · have h := hB c3
        refine lv_iconst (v := 1) hx hb dX3_currentsSwing_86 (by decide) ?_
        refine lv_goto (tgt := 91) hx hb dX3_currentsSwing_87 (by decide) ?_
        exact ck_zret X hw h dX3_currentsSwing_91
    · have h := hB c1
      refine lv_aload hx hb dX3_currentsSwing_35 (lv_at hl 2 rfl) ?_
      refine lv_iload hx hb dX3_currentsSwing_37 (lv_at hl 4 rfl) ?_
      obtain ⟨n4, h⟩ := h
      refine ck_dald hx hb hw (hC.2 33 _ (by decide) (by decide) hi) rfl n4 dX3_currentsSwing_39 ?_
      refine lv_topd (fun z_5 ez_5 => ?_)
      have h := h z_5 ez_5
      refine lv_dstore (lv' := [(8, .double z_5), (1, .double x1), (3, .double x3), (5, .ref (ck_ad G 33 i)), (6, .int x6), (7, .int x7)]) hx hb dX3_currentsSwing_40 hl (by decide) rfl (fun ls hl => ?_)
      refine lv_dload hx hb dX3_currentsSwing_42 (lv_at hl 0 rfl) ?_
      refine lv_dload_n hx hb dX3_currentsSwing_44 rfl (lv_at hl 1 rfl) ?_
      refine lv_dcmp hx hb dX3_currentsSwing_45 ?_
      obtain ⟨hA, hB⟩ := h
      refine lv_if_ge (tgt := 54) hx hb dX3_currentsSwing_46 (by decide) (fun c6 => ?_) (fun c6 => ?_)
      · have h := hA c6
        refine lv_dload_n hx hb dX3_currentsSwing_54 rfl (lv_at hl 1 rfl) ?_
        exact wk_X3_currentsSwing_55 X hC hi hK28 h hw (lv_sub hl [2, 3, 4, 5, 0] rfl)
      · have h := hB c6
        refine lv_dload hx hb dX3_currentsSwing_49 (lv_at hl 0 rfl) ?_
        refine lv_goto (tgt := 55) hx hb dX3_currentsSwing_51 (by decide) ?_
        exact wk_X3_currentsSwing_55 X hC hi hK28 h hw (lv_sub hl [2, 3, 4, 5, 0] rfl)
set_option maxHeartbeats 4000000 in
set_option maxRecDepth 100000 in
theorem wk_X3_currentsSwing_0 {p : Program} {l : Launch} {e : Env} {s : State} {m : MethodId} {args : Array Value} {below : List Frame} {meth : Method} {c : Code} {G : ck_G} (X : ck_X p s m meth c args cX3_currentsSwing 10 (some .boolean) RX3 wsX3_currentsSwing) (hC : ck_inC G) {i : Nat} (hi : i < ck_nc G) {post : Int32 → ck_S → Prop} {σ : ck_S} {H : Heap} {locs : List Loc} {ls : Array Slot} (h : sp_X3_currentsSwing (ck_nc G) (ck_nb G) σ i post) (hw : ck_H G s H locs σ) (hl : lv_has ls 10 [(0, .ref (ck_ad G 30 i))]) : W p l e ({ frames := 0, cells := 0, slots := 0, locals := 0 } : Room) s m args below meth c H locs 0 0 (MQ below (va_Qi post (ck_Q G) (ck_A G s.heap.size)) args s 0 0 (ck_A G s.heap.size)) (F0 m 0 ls []) := by
  obtain ⟨hx, hb, hr, hml, hown, hts, hlocks⟩ := id X
  have inX3 : ∀ w ∈ wsX30, w ∈ wsX3_currentsSwing := fun _ h => List.mem_cons_of_mem _ (List.mem_append_right _ (h))
  unfold sp_X3_currentsSwing at h
  refine lv_aload_n hx hb dX3_currentsSwing_0 rfl (lv_at hl 0 rfl) ?_
  refine ck_get hx hb hts inX3 hown hw (hC.2 30 _ (by decide) (by decide) hi) rfl rfl 2 (by decide) (hts _ (List.mem_of_getElem? (i := 1) rfl)) rfl dX3_currentsSwing_1 ?_
  refine lv_iconst (v := 0) hx hb dX3_currentsSwing_4 (by decide) ?_
  obtain ⟨n1, h⟩ := h
  refine ck_dald hx hb hw (hC.2 33 _ (by decide) (by decide) hi) rfl n1 dX3_currentsSwing_5 ?_
  refine lv_topd (fun z_2 ez_2 => ?_)
  have h := h z_2 ez_2
  refine lv_dstore_n (lv' := [(1, .double z_2), (0, .ref (ck_ad G 30 i))]) hx hb dX3_currentsSwing_6 rfl hl (by decide) rfl (fun ls hl => ?_)
  refine lv_aload_n hx hb dX3_currentsSwing_7 rfl (lv_at hl 1 rfl) ?_
  refine ck_get hx hb hts inX3 hown hw (hC.2 30 _ (by decide) (by decide) hi) rfl rfl 2 (by decide) (hts _ (List.mem_of_getElem? (i := 1) rfl)) rfl dX3_currentsSwing_8 ?_
  refine lv_iconst (v := 0) hx hb dX3_currentsSwing_11 (by decide) ?_
  obtain ⟨n3, h⟩ := h
  refine ck_dald hx hb hw (hC.2 33 _ (by decide) (by decide) hi) rfl n3 dX3_currentsSwing_12 ?_
  refine lv_topd (fun z_4 ez_4 => ?_)
  have h := h z_4 ez_4
  refine lv_dstore_n (lv' := [(3, .double z_4), (1, .double z_2), (0, .ref (ck_ad G 30 i))]) hx hb dX3_currentsSwing_13 rfl hl (by decide) rfl (fun ls hl => ?_)
  refine lv_aload_n hx hb dX3_currentsSwing_14 rfl (lv_at hl 2 rfl) ?_
  refine ck_get hx hb hts inX3 hown hw (hC.2 30 _ (by decide) (by decide) hi) rfl rfl 2 (by decide) (hts _ (List.mem_of_getElem? (i := 1) rfl)) rfl dX3_currentsSwing_15 ?_
  refine lv_astore (lv' := [(5, .ref (ck_ad G 33 i)), (3, .double z_4), (1, .double z_2), (0, .ref (ck_ad G 30 i))]) hx hb dX3_currentsSwing_18 hl (by decide) rfl (fun ls hl => ?_)
  refine lv_aload hx hb dX3_currentsSwing_20 (lv_at hl 0 rfl) ?_
  refine ck_alen hx hb hw (hC.2 33 _ (by decide) (by decide) hi) rfl 1 rfl rfl dX3_currentsSwing_22 ?_
  refine lv_topi (fun x_5 ex_5 => ?_)
  have h := h x_5 ex_5
  refine lv_istore (lv' := [(6, .int x_5), (5, .ref (ck_ad G 33 i)), (3, .double z_4), (1, .double z_2), (0, .ref (ck_ad G 30 i))]) hx hb dX3_currentsSwing_23 hl (by decide) rfl (fun ls hl => ?_)
  refine lv_iconst (v := 0) hx hb dX3_currentsSwing_25 (by decide) ?_
  refine lv_istore (lv' := [(7, .int 0), (6, .int x_5), (5, .ref (ck_ad G 33 i)), (3, .double z_4), (1, .double z_2), (0, .ref (ck_ad G 30 i))]) hx hb dX3_currentsSwing_26 hl (by decide) rfl (fun ls hl => ?_)
  obtain ⟨fu, h⟩ := h
  exact wk_X3_currentsSwing_28 X hC hi fu _ _ _ _ _ _ _ _ h hw (lv_sub hl [4, 3, 2, 1, 0] rfl)
set_option maxHeartbeats 4000000 in
set_option maxRecDepth 100000 in
theorem ct_X3_currentsSwing (l : Launch) (G : ck_G) (hC : ck_inC G) {i : Nat} (hi : i < ck_nc G) {σ : ck_S} {post : Int32 → ck_S → Prop} (h : sp_X3_currentsSwing (ck_nc G) (ck_nb G) σ i post) : ck_Mi l yX3_currentsSwing wsX3_currentsSwing ({ frames := 0, cells := 0, slots := 0, locals := 0 } : Room) G σ [.ref (ck_ad G 30 i)] post := by
  intro sz
  refine Met.ofW (cc := cX3_currentsSwing) (maxL := 10) (ret := (some .boolean)) (by decide) rfl ?_
  intro p e s m args below meth c s₁ B hml hv
  obtain ⟨rfl, rfl, hw⟩ := ck_enter hv
  have hl := lv_entry ([.ref (ck_ad G 30 i)]) (n := 10) (Nat.le_of_ble_eq_true rfl)
  rw [lg_entry_eq]
  generalize (lg_sl ([.ref (ck_ad G 30 i)]) ++ List.replicate (10 - (lg_sl ([.ref (ck_ad G 30 i)])).length) Slot.unset).toArray = ls at hl ⊢
  have hl : lv_has ls 10 [(0, .ref (ck_ad G 30 i))] := hl
  exact wk_X3_currentsSwing_0 ⟨B.exec, B.bytes, B.returns, hml, findClass_of_methodNamed B.named, atoms_spec (ws := wsX3_currentsSwing) B.pre, B.notSynchronized⟩ hC hi h hw hl
def sp_X3_isStuck (nc nb : Nat) (σ : ck_S) (i : Nat) (a0 : Int32) (post : Int32 → ck_S → Prop) : Prop := (vp_in a0 6) ∧ (((ck_gi σ 32 i (Int32.toNatClampNeg a0)) < 8 → ((ck_b 0 ∧ post 0 σ))) ∧ (¬ (ck_gi σ 32 i (Int32.toNatClampNeg a0)) < 8 → (sp_X3_currentsSwing nc nb σ i (fun x_4 σ3 => ((x_4 = 0 → ((ck_b 0 ∧ post 0 σ3))) ∧ (¬ x_4 = 0 → ((ck_b 1 ∧ post 1 σ3))))))))
set_option maxHeartbeats 4000000 in
set_option maxRecDepth 100000 in
theorem wk_X3_isStuck_0 {p : Program} {l : Launch} {e : Env} {s : State} {m : MethodId} {args : Array Value} {below : List Frame} {meth : Method} {c : Code} {G : ck_G} (X : ck_X p s m meth c args cX3_isStuck 2 (some .boolean) RX3 wsX3_isStuck) (hC : ck_inC G) {i : Nat} (hi : i < ck_nc G) {post : Int32 → ck_S → Prop} {σ : ck_S} {a0 : Int32} {H : Heap} {locs : List Loc} {ls : Array Slot} (h : sp_X3_isStuck (ck_nc G) (ck_nb G) σ i a0 post) (hw : ck_H G s H locs σ) (hl : lv_has ls 2 [(0, .ref (ck_ad G 30 i)), (1, .int a0)]) : W p l e ({ frames := 1, cells := 0, slots := 0, locals := 29 } : Room) s m args below meth c H locs 0 0 (MQ below (va_Qi post (ck_Q G) (ck_A G s.heap.size)) args s 0 0 (ck_A G s.heap.size)) (F0 m 0 ls []) := by
  obtain ⟨hx, hb, hr, hml, hown, hts, hlocks⟩ := id X
  have inX3 : ∀ w ∈ wsX30, w ∈ wsX3_isStuck := fun _ h => List.mem_cons_of_mem _ (List.mem_append_right _ (h))
  unfold sp_X3_isStuck at h
  refine lv_aload_n hx hb dX3_isStuck_0 rfl (lv_at hl 0 rfl) ?_
  refine ck_get hx hb hts inX3 hown hw (hC.2 30 _ (by decide) (by decide) hi) rfl rfl 1 (by decide) (hts _ (List.mem_of_getElem? (i := 1) rfl)) rfl dX3_isStuck_1 ?_
  refine lv_iload_n hx hb dX3_isStuck_4 rfl (lv_at hl 1 rfl) ?_
  obtain ⟨n1, h⟩ := h
  refine ck_iald hx hb hw (hC.2 32 _ (by decide) (by decide) hi) rfl n1 dX3_isStuck_5 ?_
  refine lv_bipush (v := 8) hx hb dX3_isStuck_6 (by decide) ?_
  obtain ⟨hA, hB⟩ := h
  refine lv_icmp_lt (tgt := 22) hx hb dX3_isStuck_8 (by decide) (fun c2 => ?_) (fun c2 => ?_)
  · have h := hA c2
    refine lv_iconst (v := 0) hx hb dX3_isStuck_22 (by decide) ?_
    exact ck_zret X hw h dX3_isStuck_23
  · have h := hB c2
    refine lv_aload_n hx hb dX3_isStuck_11 rfl (lv_at hl 0 rfl) ?_
    refine ck_callVi (rest := []) ⟨hx, hb, hml, hown, hts⟩ hw (hC.2 30 _ (by decide) (by decide) hi) rfl rfl (ct_X3_currentsSwing l G hC hi h) (cwV 0 hts gX3_isStuck_X3_currentsSwing rfl rfl rfl (by decide +kernel) ⟨(Nat.le_of_ble_eq_true rfl), (Nat.le_of_ble_eq_true rfl)⟩) rfl hl.1 rfl (Nat.le_of_ble_eq_true rfl) dX3_isStuck_12 ⟨(Nat.le_of_ble_eq_true rfl), (Nat.le_of_ble_eq_true rfl)⟩ (fun x_4 σ3 H locs h hw => ?_)
    obtain ⟨hA, hB⟩ := h
    refine lv_if_eq (tgt := 22) hx hb dX3_isStuck_15 (by decide) (fun c5 => ?_) (fun c5 => ?_)
    · have h := hA c5
      refine lv_iconst (v := 0) hx hb dX3_isStuck_22 (by decide) ?_
      exact ck_zret X hw h dX3_isStuck_23
    · have h := hB c5
      refine lv_iconst (v := 1) hx hb dX3_isStuck_18 (by decide) ?_
      refine lv_goto (tgt := 23) hx hb dX3_isStuck_19 (by decide) ?_
      exact ck_zret X hw h dX3_isStuck_23
set_option maxHeartbeats 4000000 in
set_option maxRecDepth 100000 in
theorem ct_X3_isStuck (l : Launch) (G : ck_G) (hC : ck_inC G) {i : Nat} (hi : i < ck_nc G) {a0 : Int32} {σ : ck_S} {post : Int32 → ck_S → Prop} (h : sp_X3_isStuck (ck_nc G) (ck_nb G) σ i a0 post) : ck_Mi l yX3_isStuck wsX3_isStuck ({ frames := 1, cells := 0, slots := 0, locals := 29 } : Room) G σ [.ref (ck_ad G 30 i), .int a0] post := by
  intro sz
  refine Met.ofW (cc := cX3_isStuck) (maxL := 2) (ret := (some .boolean)) (by decide) rfl ?_
  intro p e s m args below meth c s₁ B hml hv
  obtain ⟨rfl, rfl, hw⟩ := ck_enter hv
  have hl := lv_entry ([.ref (ck_ad G 30 i), .int a0]) (n := 2) (Nat.le_of_ble_eq_true rfl)
  rw [lg_entry_eq]
  generalize (lg_sl ([.ref (ck_ad G 30 i), .int a0]) ++ List.replicate (2 - (lg_sl ([.ref (ck_ad G 30 i), .int a0])).length) Slot.unset).toArray = ls at hl ⊢
  have hl : lv_has ls 2 [(0, .ref (ck_ad G 30 i)), (1, .int a0)] := hl
  exact wk_X3_isStuck_0 ⟨B.exec, B.bytes, B.returns, hml, findClass_of_methodNamed B.named, atoms_spec (ws := wsX3_isStuck) B.pre, B.notSynchronized⟩ hC hi h hw hl
def sp_X3_isValid (nc nb : Nat) (σ : ck_S) (i : Nat) (a0 : Int32) (post : Int32 → ck_S → Prop) : Prop := sp_X3_isStale nc nb σ i (fun x_2 σ1 => ((¬ x_2 = 0 → ((ck_b 0 ∧ post 0 σ1))) ∧ (x_2 = 0 → ((vp_in a0 6) ∧ (((ck_gi σ1 31 i (Int32.toNatClampNeg a0)) < 500 → ((ck_b 0 ∧ post 0 σ1))) ∧ (¬ (ck_gi σ1 31 i (Int32.toNatClampNeg a0)) < 500 → ((vp_in a0 6) ∧ (((ck_gi σ1 31 i (Int32.toNatClampNeg a0)) ≤ 4999 → (((¬ ((((ck_gi σ1 30 i 3).toUInt32 >>> (a0.toUInt32 &&& Int32.toUInt32 31)).toInt32) &&& 1) = 0 → ((ck_b 0 ∧ post 0 σ1))) ∧ (((((ck_gi σ1 30 i 3).toUInt32 >>> (a0.toUInt32 &&& Int32.toUInt32 31)).toInt32) &&& 1) = 0 → (sp_X3_isStuck nc nb σ1 i a0 (fun x_10 σ9 => ((¬ x_10 = 0 → ((ck_b 0 ∧ post 0 σ9))) ∧ (x_10 = 0 → ((ck_b 1 ∧ post 1 σ9)))))))))) ∧ (¬ (ck_gi σ1 31 i (Int32.toNatClampNeg a0)) ≤ 4999 → ((ck_b 0 ∧ post 0 σ1)))))))))))
set_option maxHeartbeats 4000000 in
set_option maxRecDepth 100000 in
theorem wk_X3_isValid_0 {p : Program} {l : Launch} {e : Env} {s : State} {m : MethodId} {args : Array Value} {below : List Frame} {meth : Method} {c : Code} {G : ck_G} (X : ck_X p s m meth c args cX3_isValid 2 (some .boolean) RX3 wsX3_isValid) (hC : ck_inC G) {i : Nat} (hi : i < ck_nc G) {post : Int32 → ck_S → Prop} {σ : ck_S} {a0 : Int32} {H : Heap} {locs : List Loc} {ls : Array Slot} (h : sp_X3_isValid (ck_nc G) (ck_nb G) σ i a0 post) (hw : ck_H G s H locs σ) (hl : lv_has ls 2 [(0, .ref (ck_ad G 30 i)), (1, .int a0)]) : W p l e ({ frames := 2, cells := 0, slots := 0, locals := 50 } : Room) s m args below meth c H locs 0 0 (MQ below (va_Qi post (ck_Q G) (ck_A G s.heap.size)) args s 0 0 (ck_A G s.heap.size)) (F0 m 0 ls []) := by
  obtain ⟨hx, hb, hr, hml, hown, hts, hlocks⟩ := id X
  have inX3 : ∀ w ∈ wsX30, w ∈ wsX3_isValid := fun _ h => List.mem_cons_of_mem _ (List.mem_append_right _ (h))
  unfold sp_X3_isValid at h
  refine lv_aload_n hx hb dX3_isValid_0 rfl (lv_at hl 0 rfl) ?_
  refine ck_callVi (rest := []) ⟨hx, hb, hml, hown, hts⟩ hw (hC.2 30 _ (by decide) (by decide) hi) rfl rfl (ct_X3_isStale l G hC hi h) (cwV 0 hts gX3_isValid_X3_isStale rfl rfl rfl (by decide +kernel) ⟨(Nat.le_of_ble_eq_true rfl), (Nat.le_of_ble_eq_true rfl)⟩) rfl hl.1 rfl (Nat.le_of_ble_eq_true rfl) dX3_isValid_1 ⟨(Nat.le_of_ble_eq_true rfl), (Nat.le_of_ble_eq_true rfl)⟩ (fun x_2 σ1 H locs h hw => ?_)
  obtain ⟨hA, hB⟩ := h
  refine lv_if_ne (tgt := 31) hx hb dX3_isValid_4 (by decide) (fun c3 => ?_) (fun c3 => ?_)
  · have h := hA c3
    refine lv_iconst (v := 0) hx hb dX3_isValid_31 (by decide) ?_
    exact ck_zret X hw h dX3_isValid_32
  · have h := hB c3
    refine lv_aload_n hx hb dX3_isValid_7 rfl (lv_at hl 0 rfl) ?_
    refine ck_get hx hb hts inX3 hown hw (hC.2 30 _ (by decide) (by decide) hi) rfl rfl 0 (by decide) (hts _ (List.mem_of_getElem? (i := 1) rfl)) rfl dX3_isValid_8 ?_
    refine lv_iload_n hx hb dX3_isValid_11 rfl (lv_at hl 1 rfl) ?_
    obtain ⟨n4, h⟩ := h
    refine ck_iald hx hb hw (hC.2 31 _ (by decide) (by decide) hi) rfl n4 dX3_isValid_12 ?_
    refine lv_sipush (v := 500) hx hb dX3_isValid_13 (by decide) ?_
    obtain ⟨hA, hB⟩ := h
    refine lv_icmp_lt (tgt := 31) hx hb dX3_isValid_16 (by decide) (fun c5 => ?_) (fun c5 => ?_)
    · have h := hA c5
      refine lv_iconst (v := 0) hx hb dX3_isValid_31 (by decide) ?_
      exact ck_zret X hw h dX3_isValid_32
    · have h := hB c5
      refine lv_aload_n hx hb dX3_isValid_19 rfl (lv_at hl 0 rfl) ?_
      refine ck_get hx hb hts inX3 hown hw (hC.2 30 _ (by decide) (by decide) hi) rfl rfl 0 (by decide) (hts _ (List.mem_of_getElem? (i := 1) rfl)) rfl dX3_isValid_20 ?_
      refine lv_iload_n hx hb dX3_isValid_23 rfl (lv_at hl 1 rfl) ?_
      obtain ⟨n6, h⟩ := h
      refine ck_iald hx hb hw (hC.2 31 _ (by decide) (by decide) hi) rfl n6 dX3_isValid_24 ?_
      refine lv_sipush (v := 4999) hx hb dX3_isValid_25 (by decide) ?_
      obtain ⟨hA, hB⟩ := h
      refine lv_icmp_le (tgt := 33) hx hb dX3_isValid_28 (by decide) (fun c7 => ?_) (fun c7 => ?_)
      · have h := hA c7
        refine lv_aload_n hx hb dX3_isValid_33 rfl (lv_at hl 0 rfl) ?_
        refine ck_get hx hb hts inX3 hown hw (hC.2 30 _ (by decide) (by decide) hi) rfl rfl 3 (by decide) (hts _ (List.mem_of_getElem? (i := 2) rfl)) rfl dX3_isValid_34 ?_
        refine lv_iload_n hx hb dX3_isValid_37 rfl (lv_at hl 1 rfl) ?_
        refine lv_iushr hx hb dX3_isValid_38 rfl ?_
        refine lv_iconst (v := 1) hx hb dX3_isValid_39 (by decide) ?_
        refine lv_iand hx hb dX3_isValid_40 ?_
        obtain ⟨hA, hB⟩ := h
        refine lv_if_ne (tgt := 56) hx hb dX3_isValid_41 (by decide) (fun c8 => ?_) (fun c8 => ?_)
        · have h := hA c8
          refine lv_iconst (v := 0) hx hb dX3_isValid_56 (by decide) ?_
          exact ck_zret X hw h dX3_isValid_57
        · have h := hB c8
          refine lv_aload_n hx hb dX3_isValid_44 rfl (lv_at hl 0 rfl) ?_
          refine lv_iload_n hx hb dX3_isValid_45 rfl (lv_at hl 1 rfl) ?_
          refine ck_callVi (rest := []) ⟨hx, hb, hml, hown, hts⟩ hw (hC.2 30 _ (by decide) (by decide) hi) rfl rfl (ct_X3_isStuck l G hC hi h) (cwV 1 hts gX3_isValid_X3_isStuck rfl rfl rfl (by decide +kernel) ⟨(Nat.le_of_ble_eq_true rfl), (Nat.le_of_ble_eq_true rfl)⟩) rfl hl.1 rfl (Nat.le_of_ble_eq_true rfl) dX3_isValid_46 ⟨(Nat.le_of_ble_eq_true rfl), (Nat.le_of_ble_eq_true rfl)⟩ (fun x_10 σ9 H locs h hw => ?_)
          obtain ⟨hA, hB⟩ := h
          refine lv_if_ne (tgt := 56) hx hb dX3_isValid_49 (by decide) (fun c11 => ?_) (fun c11 => ?_)
          · have h := hA c11
            refine lv_iconst (v := 0) hx hb dX3_isValid_56 (by decide) ?_
            exact ck_zret X hw h dX3_isValid_57
          · have h := hB c11
            refine lv_iconst (v := 1) hx hb dX3_isValid_52 (by decide) ?_
            refine lv_goto (tgt := 57) hx hb dX3_isValid_53 (by decide) ?_
            exact ck_zret X hw h dX3_isValid_57
      · have h := hB c7
        refine lv_iconst (v := 0) hx hb dX3_isValid_31 (by decide) ?_
        exact ck_zret X hw h dX3_isValid_32
set_option maxHeartbeats 4000000 in
set_option maxRecDepth 100000 in
theorem ct_X3_isValid (l : Launch) (G : ck_G) (hC : ck_inC G) {i : Nat} (hi : i < ck_nc G) {a0 : Int32} {σ : ck_S} {post : Int32 → ck_S → Prop} (h : sp_X3_isValid (ck_nc G) (ck_nb G) σ i a0 post) : ck_Mi l yX3_isValid wsX3_isValid ({ frames := 2, cells := 0, slots := 0, locals := 50 } : Room) G σ [.ref (ck_ad G 30 i), .int a0] post := by
  intro sz
  refine Met.ofW (cc := cX3_isValid) (maxL := 2) (ret := (some .boolean)) (by decide) rfl ?_
  intro p e s m args below meth c s₁ B hml hv
  obtain ⟨rfl, rfl, hw⟩ := ck_enter hv
  have hl := lv_entry ([.ref (ck_ad G 30 i), .int a0]) (n := 2) (Nat.le_of_ble_eq_true rfl)
  rw [lg_entry_eq]
  generalize (lg_sl ([.ref (ck_ad G 30 i), .int a0]) ++ List.replicate (2 - (lg_sl ([.ref (ck_ad G 30 i), .int a0])).length) Slot.unset).toArray = ls at hl ⊢
  have hl : lv_has ls 2 [(0, .ref (ck_ad G 30 i)), (1, .int a0)] := hl
  exact wk_X3_isValid_0 ⟨B.exec, B.bytes, B.returns, hml, findClass_of_methodNamed B.named, atoms_spec (ws := wsX3_isValid) B.pre, B.notSynchronized⟩ hC hi h hw hl
def sp_X3_cellsToBleed_75 (nc nb : Nat) (i : Nat) (post : Int32 → ck_S → Prop) (K5 : ck_S → Int32 → Int32 → Int32 → Int32 → Prop) (σ : ck_S) (x1 : Int32) (x2 : Int32) (x3 : Int32) (x4 : Int32) : Prop := ∀ x_1, x_1 = x4 + 1 → K5 σ x1 x2 x3 x_1
def sp_X3_cellsToBleed_35 (nc nb : Nat) (i : Nat) (post : Int32 → ck_S → Prop) (K5 : ck_S → Int32 → Int32 → Int32 → Int32 → Prop) (σ : ck_S) (x1 : Int32) (x2 : Int32) (x3 : Int32) (x4 : Int32) (x5 : Int32) (s0 : Int32) : Prop := ((s0 = 0 → (sp_X3_cellsToBleed_75 nc nb i post K5 σ x1 x2 x3 x4)) ∧ (¬ s0 = 0 → (sp_X3_isValid nc nb σ i x4 (fun x_3 σ2 => ((x_3 = 0 → (sp_X3_cellsToBleed_75 nc nb i post K5 σ2 x1 x2 x3 x4)) ∧ (¬ x_3 = 0 → (((x5 ≤ 3300 → (sp_X3_cellsToBleed_75 nc nb i post K5 σ2 x1 x2 x3 x4)) ∧ (¬ x5 ≤ 3300 → ((((x5 - x1) ≤ 8 → (sp_X3_cellsToBleed_75 nc nb i post K5 σ2 x1 x2 x3 x4)) ∧ (¬ (x5 - x1) ≤ 8 → (∀ x_7, x_7 = (x3 ||| (1 <<< (x4 &&& 31))) → sp_X3_cellsToBleed_75 nc nb i post K5 σ2 x1 x2 x_7 x4)))))))))))))
def bd_X3_cellsToBleed_5 (nc nb : Nat) (i : Nat) (post : Int32 → ck_S → Prop) (K5 : ck_S → Int32 → Int32 → Int32 → Int32 → Prop) (σ : ck_S) (x1 : Int32) (x2 : Int32) (x3 : Int32) (x4 : Int32) : Prop := ((6 ≤ x4 → (post x3 σ)) ∧ (¬ 6 ≤ x4 → ((vp_in x4 6) ∧ ∀ x_3, x_3 = (ck_gi σ 31 i (Int32.toNatClampNeg x4)) → ((¬ ((x4 + x2) &&& 1) = 0 → (sp_X3_cellsToBleed_35 nc nb i post K5 σ x1 x2 x3 x4 x_3 0)) ∧ (((x4 + x2) &&& 1) = 0 → (sp_X3_cellsToBleed_35 nc nb i post K5 σ x1 x2 x3 x4 x_3 1))))))
def sp_X3_cellsToBleed (nc nb : Nat) (σ : ck_S) (i : Nat) (a0 : Int32) (a1 : Int32) (post : Int32 → ck_S → Prop) : Prop := lx_5 (bd_X3_cellsToBleed_5 nc nb i post) σ a0 a1 0 0
set_option maxHeartbeats 4000000 in
set_option maxRecDepth 100000 in
theorem wk_X3_cellsToBleed_75 {p : Program} {l : Launch} {e : Env} {s : State} {m : MethodId} {args : Array Value} {below : List Frame} {meth : Method} {c : Code} {G : ck_G} (X : ck_X p s m meth c args cX3_cellsToBleed 7 (some .int) RX3 wsX3_cellsToBleed) (hC : ck_inC G) {i : Nat} (hi : i < ck_nc G) {post : Int32 → ck_S → Prop} {K5 : ck_S → Int32 → Int32 → Int32 → Int32 → Prop} (hK5 : ∀ (σ : ck_S) (x1 : Int32) (x2 : Int32) (x3 : Int32) (x4 : Int32) (H : Heap) (locs : List Loc) (ls : Array Slot), K5 σ x1 x2 x3 x4 → ck_H G s H locs σ → lv_has ls 7 [(0, .ref (ck_ad G 30 i)), (1, .int x1), (2, .int x2), (3, .int x3), (4, .int x4)] → W p l e ({ frames := 3, cells := 0, slots := 0, locals := 71 } : Room) s m args below meth c H locs 0 0 (MQ below (va_Qi post (ck_Q G) (ck_A G s.heap.size)) args s 0 0 (ck_A G s.heap.size)) (F0 m 5 ls [])) {σ : ck_S} {x1 : Int32} {x2 : Int32} {x3 : Int32} {x4 : Int32} {H : Heap} {locs : List Loc} {ls : Array Slot} (h : sp_X3_cellsToBleed_75 (ck_nc G) (ck_nb G) i post K5 σ x1 x2 x3 x4) (hw : ck_H G s H locs σ) (hl : lv_has ls 7 [(0, .ref (ck_ad G 30 i)), (1, .int x1), (2, .int x2), (3, .int x3), (4, .int x4)]) : W p l e ({ frames := 3, cells := 0, slots := 0, locals := 71 } : Room) s m args below meth c H locs 0 0 (MQ below (va_Qi post (ck_Q G) (ck_A G s.heap.size)) args s 0 0 (ck_A G s.heap.size)) (F0 m 75 ls []) := by
  obtain ⟨hx, hb, hr, hml, hown, hts, hlocks⟩ := id X
  have inX3 : ∀ w ∈ wsX30, w ∈ wsX3_cellsToBleed := fun _ h => List.mem_cons_of_mem _ (List.mem_append_right _ (h))
  unfold sp_X3_cellsToBleed_75 at h
  obtain ⟨x_1, ex_1⟩ : ∃ z : Int32, z = x4 + 1 := ⟨_, rfl⟩
  have h := h x_1 ex_1
  refine lv_iinc (v := x_1) (lv' := [(4, .int x_1), (0, .ref (ck_ad G 30 i)), (1, .int x1), (2, .int x2), (3, .int x3)]) hx hb dX3_cellsToBleed_75 hl (k := 4) rfl (by rw [ex_1]; rfl) (by decide) rfl (fun ls hl => ?_)
  refine lv_goto (tgt := 5) hx hb dX3_cellsToBleed_78 (by decide) ?_
  exact hK5 _ _ _ _ _ _ _ _ h hw (lv_sub hl [1, 2, 3, 4, 0] rfl)
set_option maxHeartbeats 4000000 in
set_option maxRecDepth 100000 in
theorem wk_X3_cellsToBleed_35 {p : Program} {l : Launch} {e : Env} {s : State} {m : MethodId} {args : Array Value} {below : List Frame} {meth : Method} {c : Code} {G : ck_G} (X : ck_X p s m meth c args cX3_cellsToBleed 7 (some .int) RX3 wsX3_cellsToBleed) (hC : ck_inC G) {i : Nat} (hi : i < ck_nc G) {post : Int32 → ck_S → Prop} {K5 : ck_S → Int32 → Int32 → Int32 → Int32 → Prop} (hK5 : ∀ (σ : ck_S) (x1 : Int32) (x2 : Int32) (x3 : Int32) (x4 : Int32) (H : Heap) (locs : List Loc) (ls : Array Slot), K5 σ x1 x2 x3 x4 → ck_H G s H locs σ → lv_has ls 7 [(0, .ref (ck_ad G 30 i)), (1, .int x1), (2, .int x2), (3, .int x3), (4, .int x4)] → W p l e ({ frames := 3, cells := 0, slots := 0, locals := 71 } : Room) s m args below meth c H locs 0 0 (MQ below (va_Qi post (ck_Q G) (ck_A G s.heap.size)) args s 0 0 (ck_A G s.heap.size)) (F0 m 5 ls [])) {σ : ck_S} {x1 : Int32} {x2 : Int32} {x3 : Int32} {x4 : Int32} {x5 : Int32} {s0 : Int32} {H : Heap} {locs : List Loc} {ls : Array Slot} (h : sp_X3_cellsToBleed_35 (ck_nc G) (ck_nb G) i post K5 σ x1 x2 x3 x4 x5 s0) (hw : ck_H G s H locs σ) (hl : lv_has ls 7 [(0, .ref (ck_ad G 30 i)), (1, .int x1), (2, .int x2), (3, .int x3), (4, .int x4), (5, .int x5)]) : W p l e ({ frames := 3, cells := 0, slots := 0, locals := 71 } : Room) s m args below meth c H locs 0 0 (MQ below (va_Qi post (ck_Q G) (ck_A G s.heap.size)) args s 0 0 (ck_A G s.heap.size)) (F0 m 35 ls [.int s0]) := by
  obtain ⟨hx, hb, hr, hml, hown, hts, hlocks⟩ := id X
  have inX3 : ∀ w ∈ wsX30, w ∈ wsX3_cellsToBleed := fun _ h => List.mem_cons_of_mem _ (List.mem_append_right _ (h))
  unfold sp_X3_cellsToBleed_35 at h
  refine lv_istore (lv' := [(6, .int s0), (0, .ref (ck_ad G 30 i)), (1, .int x1), (2, .int x2), (3, .int x3), (4, .int x4), (5, .int x5)]) hx hb dX3_cellsToBleed_35 hl (by decide) rfl (fun ls hl => ?_)
  refine lv_iload hx hb dX3_cellsToBleed_37 (lv_at hl 0 rfl) ?_
  obtain ⟨hA, hB⟩ := h
  refine lv_if_eq (tgt := 75) hx hb dX3_cellsToBleed_39 (by decide) (fun c1 => ?_) (fun c1 => ?_)
  · have h := hA c1
    exact wk_X3_cellsToBleed_75 X hC hi hK5 h hw (lv_sub hl [1, 2, 3, 4, 5] rfl)
  · have h := hB c1
    refine lv_aload_n hx hb dX3_cellsToBleed_42 rfl (lv_at hl 1 rfl) ?_
    refine lv_iload hx hb dX3_cellsToBleed_43 (lv_at hl 5 rfl) ?_
    refine ck_callVi (rest := []) ⟨hx, hb, hml, hown, hts⟩ hw (hC.2 30 _ (by decide) (by decide) hi) rfl rfl (ct_X3_isValid l G hC hi h) (cwV 1 hts gX3_cellsToBleed_X3_isValid rfl rfl rfl (by decide +kernel) ⟨(Nat.le_of_ble_eq_true rfl), (Nat.le_of_ble_eq_true rfl)⟩) rfl hl.1 rfl (Nat.le_of_ble_eq_true rfl) dX3_cellsToBleed_45 ⟨(Nat.le_of_ble_eq_true rfl), (Nat.le_of_ble_eq_true rfl)⟩ (fun x_3 σ2 H locs h hw => ?_)
    obtain ⟨hA, hB⟩ := h
    refine lv_if_eq (tgt := 75) hx hb dX3_cellsToBleed_48 (by decide) (fun c4 => ?_) (fun c4 => ?_)
    · have h := hA c4
      exact wk_X3_cellsToBleed_75 X hC hi hK5 h hw (lv_sub hl [1, 2, 3, 4, 5] rfl)
    · have h := hB c4
      refine lv_iload hx hb dX3_cellsToBleed_51 (lv_at hl 6 rfl) ?_
      refine lv_sipush (v := 3300) hx hb dX3_cellsToBleed_53 (by decide) ?_
      obtain ⟨hA, hB⟩ := h
      refine lv_icmp_le (tgt := 75) hx hb dX3_cellsToBleed_56 (by decide) (fun c5 => ?_) (fun c5 => ?_)
      · have h := hA c5
        exact wk_X3_cellsToBleed_75 X hC hi hK5 h hw (lv_sub hl [1, 2, 3, 4, 5] rfl)
      · have h := hB c5
        refine lv_iload hx hb dX3_cellsToBleed_59 (lv_at hl 6 rfl) ?_
        refine lv_iload_n hx hb dX3_cellsToBleed_61 rfl (lv_at hl 2 rfl) ?_
        refine lv_isub hx hb dX3_cellsToBleed_62 ?_
        refine lv_bipush (v := 8) hx hb dX3_cellsToBleed_63 (by decide) ?_
        obtain ⟨hA, hB⟩ := h
        refine lv_icmp_le (tgt := 75) hx hb dX3_cellsToBleed_65 (by decide) (fun c6 => ?_) (fun c6 => ?_)
        · have h := hA c6
          exact wk_X3_cellsToBleed_75 X hC hi hK5 h hw (lv_sub hl [1, 2, 3, 4, 5] rfl)
        · have h := hB c6
          refine lv_iload_n hx hb dX3_cellsToBleed_68 rfl (lv_at hl 4 rfl) ?_
          refine lv_iconst (v := 1) hx hb dX3_cellsToBleed_69 (by decide) ?_
          refine lv_iload hx hb dX3_cellsToBleed_70 (lv_at hl 5 rfl) ?_
          refine lv_ishl hx hb dX3_cellsToBleed_72 ?_
          refine lv_ior hx hb dX3_cellsToBleed_73 ?_
          refine lv_topi (fun x_7 ex_7 => ?_)
          have h := h x_7 ex_7
          refine lv_istore_n (lv' := [(3, .int x_7), (6, .int s0), (0, .ref (ck_ad G 30 i)), (1, .int x1), (2, .int x2), (4, .int x4), (5, .int x5)]) hx hb dX3_cellsToBleed_74 rfl hl (by decide) rfl (fun ls hl => ?_)
          exact wk_X3_cellsToBleed_75 X hC hi hK5 h hw (lv_sub hl [2, 3, 4, 0, 5] rfl)
set_option maxHeartbeats 4000000 in
set_option maxRecDepth 100000 in
theorem wk_X3_cellsToBleed_5 {p : Program} {l : Launch} {e : Env} {s : State} {m : MethodId} {args : Array Value} {below : List Frame} {meth : Method} {c : Code} {G : ck_G} (X : ck_X p s m meth c args cX3_cellsToBleed 7 (some .int) RX3 wsX3_cellsToBleed) (hC : ck_inC G) {i : Nat} (hi : i < ck_nc G) {post : Int32 → ck_S → Prop} : ∀ (fu : Nat) (σ : ck_S) (x1 : Int32) (x2 : Int32) (x3 : Int32) (x4 : Int32) (H : Heap) (locs : List Loc) (ls : Array Slot), lk_5 (bd_X3_cellsToBleed_5 (ck_nc G) (ck_nb G) i post) fu σ x1 x2 x3 x4 → ck_H G s H locs σ → lv_has ls 7 [(0, .ref (ck_ad G 30 i)), (1, .int x1), (2, .int x2), (3, .int x3), (4, .int x4)] → W p l e ({ frames := 3, cells := 0, slots := 0, locals := 71 } : Room) s m args below meth c H locs 0 0 (MQ below (va_Qi post (ck_Q G) (ck_A G s.heap.size)) args s 0 0 (ck_A G s.heap.size)) (F0 m 5 ls []) := by
  obtain ⟨hx, hb, hr, hml, hown, hts, hlocks⟩ := id X
  have inX3 : ∀ w ∈ wsX30, w ∈ wsX3_cellsToBleed := fun _ h => List.mem_cons_of_mem _ (List.mem_append_right _ (h))
  intro fu
  induction fu with
  | zero => intro σ x1 x2 x3 x4 H locs ls h hw hl; exact h.elim
  | succ fu hK5 =>
    intro σ x1 x2 x3 x4 H locs ls h hw hl
    have h : bd_X3_cellsToBleed_5 (ck_nc G) (ck_nb G) i post (lk_5 (bd_X3_cellsToBleed_5 (ck_nc G) (ck_nb G) i post) fu) σ x1 x2 x3 x4 := h
    unfold bd_X3_cellsToBleed_5 at h
    refine lv_iload hx hb dX3_cellsToBleed_5 (lv_at hl 4 rfl) ?_
    refine lv_bipush (v := 6) hx hb dX3_cellsToBleed_7 (by decide) ?_
    obtain ⟨hA, hB⟩ := h
    refine lv_icmp_ge (tgt := 81) hx hb dX3_cellsToBleed_9 (by decide) (fun c1 => ?_) (fun c1 => ?_)
    · have h := hA c1
      refine lv_iload_n hx hb dX3_cellsToBleed_81 rfl (lv_at hl 3 rfl) ?_
      exact ck_iret X hw h dX3_cellsToBleed_82
    · have h := hB c1
      refine lv_aload_n hx hb dX3_cellsToBleed_12 rfl (lv_at hl 0 rfl) ?_
      refine ck_get hx hb hts inX3 hown hw (hC.2 30 _ (by decide) (by decide) hi) rfl rfl 0 (by decide) (hts _ (List.mem_of_getElem? (i := 1) rfl)) rfl dX3_cellsToBleed_13 ?_
      refine lv_iload hx hb dX3_cellsToBleed_16 (lv_at hl 4 rfl) ?_
      obtain ⟨n2, h⟩ := h
      refine ck_iald hx hb hw (hC.2 31 _ (by decide) (by decide) hi) rfl n2 dX3_cellsToBleed_18 ?_
      refine lv_topi (fun x_3 ex_3 => ?_)
      have h := h x_3 ex_3
      refine lv_istore (lv' := [(5, .int x_3), (0, .ref (ck_ad G 30 i)), (1, .int x1), (2, .int x2), (3, .int x3), (4, .int x4)]) hx hb dX3_cellsToBleed_19 hl (by decide) rfl (fun ls hl => ?_)
      refine lv_iload hx hb dX3_cellsToBleed_21 (lv_at hl 5 rfl) ?_
      refine lv_iload_n hx hb dX3_cellsToBleed_23 rfl (lv_at hl 3 rfl) ?_
      refine lv_iadd hx hb dX3_cellsToBleed_24 ?_
      refine lv_iconst (v := 1) hx hb dX3_cellsToBleed_25 (by decide) ?_
      refine lv_iand hx hb dX3_cellsToBleed_26 ?_
      obtain ⟨hA, hB⟩ := h
      refine lv_if_ne (tgt := 34) hx hb dX3_cellsToBleed_27 (by decide) (fun c4 => ?_) (fun c4 => ?_)
      · have h := hA c4
        refine lv_iconst (v := 0) hx hb dX3_cellsToBleed_34 (by decide) ?_
        exact wk_X3_cellsToBleed_35 X hC hi hK5 h hw (lv_sub hl [1, 2, 3, 4, 5, 0] rfl)
      · have h := hB c4
        refine lv_iconst (v := 1) hx hb dX3_cellsToBleed_30 (by decide) ?_
        refine lv_goto (tgt := 35) hx hb dX3_cellsToBleed_31 (by decide) ?_
        exact wk_X3_cellsToBleed_35 X hC hi hK5 h hw (lv_sub hl [1, 2, 3, 4, 5, 0] rfl)
set_option maxHeartbeats 4000000 in
set_option maxRecDepth 100000 in
theorem wk_X3_cellsToBleed_0 {p : Program} {l : Launch} {e : Env} {s : State} {m : MethodId} {args : Array Value} {below : List Frame} {meth : Method} {c : Code} {G : ck_G} (X : ck_X p s m meth c args cX3_cellsToBleed 7 (some .int) RX3 wsX3_cellsToBleed) (hC : ck_inC G) {i : Nat} (hi : i < ck_nc G) {post : Int32 → ck_S → Prop} {σ : ck_S} {a0 : Int32} {a1 : Int32} {H : Heap} {locs : List Loc} {ls : Array Slot} (h : sp_X3_cellsToBleed (ck_nc G) (ck_nb G) σ i a0 a1 post) (hw : ck_H G s H locs σ) (hl : lv_has ls 7 [(0, .ref (ck_ad G 30 i)), (1, .int a0), (2, .int a1)]) : W p l e ({ frames := 3, cells := 0, slots := 0, locals := 71 } : Room) s m args below meth c H locs 0 0 (MQ below (va_Qi post (ck_Q G) (ck_A G s.heap.size)) args s 0 0 (ck_A G s.heap.size)) (F0 m 0 ls []) := by
  obtain ⟨hx, hb, hr, hml, hown, hts, hlocks⟩ := id X
  have inX3 : ∀ w ∈ wsX30, w ∈ wsX3_cellsToBleed := fun _ h => List.mem_cons_of_mem _ (List.mem_append_right _ (h))
  unfold sp_X3_cellsToBleed at h
  refine lv_iconst (v := 0) hx hb dX3_cellsToBleed_0 (by decide) ?_
  refine lv_istore_n (lv' := [(3, .int 0), (0, .ref (ck_ad G 30 i)), (1, .int a0), (2, .int a1)]) hx hb dX3_cellsToBleed_1 rfl hl (by decide) rfl (fun ls hl => ?_)
  refine lv_iconst (v := 0) hx hb dX3_cellsToBleed_2 (by decide) ?_
  refine lv_istore (lv' := [(4, .int 0), (3, .int 0), (0, .ref (ck_ad G 30 i)), (1, .int a0), (2, .int a1)]) hx hb dX3_cellsToBleed_3 hl (by decide) rfl (fun ls hl => ?_)
  obtain ⟨fu, h⟩ := h
  exact wk_X3_cellsToBleed_5 X hC hi fu _ _ _ _ _ _ _ _ h hw (lv_sub hl [2, 3, 4, 1, 0] rfl)
set_option maxHeartbeats 4000000 in
set_option maxRecDepth 100000 in
theorem ct_X3_cellsToBleed (l : Launch) (G : ck_G) (hC : ck_inC G) {i : Nat} (hi : i < ck_nc G) {a0 : Int32} {a1 : Int32} {σ : ck_S} {post : Int32 → ck_S → Prop} (h : sp_X3_cellsToBleed (ck_nc G) (ck_nb G) σ i a0 a1 post) : ck_Mi l yX3_cellsToBleed wsX3_cellsToBleed ({ frames := 3, cells := 0, slots := 0, locals := 71 } : Room) G σ [.ref (ck_ad G 30 i), .int a0, .int a1] post := by
  intro sz
  refine Met.ofW (cc := cX3_cellsToBleed) (maxL := 7) (ret := (some .int)) (by decide) rfl ?_
  intro p e s m args below meth c s₁ B hml hv
  obtain ⟨rfl, rfl, hw⟩ := ck_enter hv
  have hl := lv_entry ([.ref (ck_ad G 30 i), .int a0, .int a1]) (n := 7) (Nat.le_of_ble_eq_true rfl)
  rw [lg_entry_eq]
  generalize (lg_sl ([.ref (ck_ad G 30 i), .int a0, .int a1]) ++ List.replicate (7 - (lg_sl ([.ref (ck_ad G 30 i), .int a0, .int a1])).length) Slot.unset).toArray = ls at hl ⊢
  have hl : lv_has ls 7 [(0, .ref (ck_ad G 30 i)), (1, .int a0), (2, .int a1)] := hl
  exact wk_X3_cellsToBleed_0 ⟨B.exec, B.bytes, B.returns, hml, findClass_of_methodNamed B.named, atoms_spec (ws := wsX3_cellsToBleed) B.pre, B.notSynchronized⟩ hC hi h hw hl
def sp_X5_allValid (nc nb : Nat) (σ : ck_S) (post : Int32 → ck_S → Prop) : Prop := ((¬ (ck_gi σ 2 0 0) = 0 → ((ck_b 0 ∧ post 0 σ))) ∧ ((ck_gi σ 2 0 0) = 0 → (((¬ (ck_gi σ 2 0 1) = 0 → ((ck_b 0 ∧ post 0 σ))) ∧ ((ck_gi σ 2 0 1) = 0 → ((ck_b 1 ∧ post 1 σ)))))))
set_option maxHeartbeats 4000000 in
set_option maxRecDepth 100000 in
theorem wk_X5_allValid_0 {p : Program} {l : Launch} {e : Env} {s : State} {m : MethodId} {args : Array Value} {below : List Frame} {meth : Method} {c : Code} {G : ck_G} (X : ck_X p s m meth c args cX5_allValid 1 (some .boolean) RX5 wsX5_allValid) (hC : ck_inC G) {post : Int32 → ck_S → Prop} {σ : ck_S} {H : Heap} {locs : List Loc} {ls : Array Slot} (h : sp_X5_allValid (ck_nc G) (ck_nb G) σ post) (hw : ck_H G s H locs σ) (hl : lv_has ls 1 [(0, .ref (ck_ad G 2 0))]) : W p l e ({ frames := 0, cells := 0, slots := 0, locals := 0 } : Room) s m args below meth c H locs 0 0 (MQ below (va_Qi post (ck_Q G) (ck_A G s.heap.size)) args s 0 0 (ck_A G s.heap.size)) (F0 m 0 ls []) := by
  obtain ⟨hx, hb, hr, hml, hown, hts, hlocks⟩ := id X
  have inX5 : ∀ w ∈ wsX50, w ∈ wsX5_allValid := fun _ h => List.mem_cons_of_mem _ (List.mem_append_right _ (h))
  unfold sp_X5_allValid at h
  refine lv_aload_n hx hb dX5_allValid_0 rfl (lv_at hl 0 rfl) ?_
  refine ck_get hx hb hts inX5 hown hw (hC.1 2 (by decide)) rfl rfl 0 (by decide) (hts _ (List.mem_of_getElem? (i := 1) rfl)) rfl dX5_allValid_1 ?_
  obtain ⟨hA, hB⟩ := h
  refine lv_if_ne (tgt := 18) hx hb dX5_allValid_4 (by decide) (fun c1 => ?_) (fun c1 => ?_)
  · have h := hA c1
    refine lv_iconst (v := 0) hx hb dX5_allValid_18 (by decide) ?_
    exact ck_zret X hw h dX5_allValid_19
  · have h := hB c1
    refine lv_aload_n hx hb dX5_allValid_7 rfl (lv_at hl 0 rfl) ?_
    refine ck_get hx hb hts inX5 hown hw (hC.1 2 (by decide)) rfl rfl 1 (by decide) (hts _ (List.mem_of_getElem? (i := 2) rfl)) rfl dX5_allValid_8 ?_
    obtain ⟨hA, hB⟩ := h
    refine lv_if_ne (tgt := 18) hx hb dX5_allValid_11 (by decide) (fun c2 => ?_) (fun c2 => ?_)
    · have h := hA c2
      refine lv_iconst (v := 0) hx hb dX5_allValid_18 (by decide) ?_
      exact ck_zret X hw h dX5_allValid_19
    · have h := hB c2
      refine lv_iconst (v := 1) hx hb dX5_allValid_14 (by decide) ?_
      refine lv_goto (tgt := 19) hx hb dX5_allValid_15 (by decide) ?_
      exact ck_zret X hw h dX5_allValid_19
set_option maxHeartbeats 4000000 in
set_option maxRecDepth 100000 in
theorem ct_X5_allValid (l : Launch) (G : ck_G) (hC : ck_inC G) {σ : ck_S} {post : Int32 → ck_S → Prop} (h : sp_X5_allValid (ck_nc G) (ck_nb G) σ post) : ck_Mi l yX5_allValid wsX5_allValid ({ frames := 0, cells := 0, slots := 0, locals := 0 } : Room) G σ [.ref (ck_ad G 2 0)] post := by
  intro sz
  refine Met.ofW (cc := cX5_allValid) (maxL := 1) (ret := (some .boolean)) (by decide) rfl ?_
  intro p e s m args below meth c s₁ B hml hv
  obtain ⟨rfl, rfl, hw⟩ := ck_enter hv
  have hl := lv_entry ([.ref (ck_ad G 2 0)]) (n := 1) (Nat.le_of_ble_eq_true rfl)
  rw [lg_entry_eq]
  generalize (lg_sl ([.ref (ck_ad G 2 0)]) ++ List.replicate (1 - (lg_sl ([.ref (ck_ad G 2 0)])).length) Slot.unset).toArray = ls at hl ⊢
  have hl : lv_has ls 1 [(0, .ref (ck_ad G 2 0))] := hl
  exact wk_X5_allValid_0 ⟨B.exec, B.bytes, B.returns, hml, findClass_of_methodNamed B.named, atoms_spec (ws := wsX5_allValid) B.pre, B.notSynchronized⟩ hC h hw hl
def sp_X5_lookAtCells_65 (nc nb : Nat) (i0 : Nat) (post : ck_S → Prop) (K2 : ck_S → Int32 → Prop) (σ : ck_S) (x2 : Int32) : Prop := ∀ x_1, x_1 = x2 + 1 → K2 σ x_1
def bd_X5_lookAtCells_2 (nc nb : Nat) (i0 : Nat) (post : ck_S → Prop) (K2 : ck_S → Int32 → Prop) (σ : ck_S) (x2 : Int32) : Prop := ((6 ≤ x2 → (post σ)) ∧ (¬ 6 ≤ x2 → (sp_X3_isValid nc nb σ i0 x2 (fun x_3 σ2 => ((x_3 = 0 → (∀ σ5, σ5 = ck_ui σ2 2 0 1 1 → sp_X5_lookAtCells_65 nc nb i0 post K2 σ5 x2)) ∧ (¬ x_3 = 0 → ((vp_in x2 6) ∧ ∀ x_7, x_7 = (ck_gi σ2 31 i0 (Int32.toNatClampNeg x2)) → ∀ σ8, σ8 = ck_ui σ2 2 0 2 ((ck_gi σ2 2 0 2) + x_7) → ∀ σ9, σ9 = ck_ui σ8 2 0 3 (if x_7 < (ck_gi σ8 2 0 3) then x_7 else (ck_gi σ8 2 0 3)) → ∀ σ10, σ10 = ck_ui σ9 2 0 4 (if (ck_gi σ9 2 0 4) < x_7 then x_7 else (ck_gi σ9 2 0 4)) → sp_X5_lookAtCells_65 nc nb i0 post K2 σ10 x2)))))))
def sp_X5_lookAtCells (nc nb : Nat) (σ : ck_S) (i0 : Nat) (post : ck_S → Prop) : Prop := lx_2 (bd_X5_lookAtCells_2 nc nb i0 post) σ 0
set_option maxHeartbeats 4000000 in
set_option maxRecDepth 100000 in
theorem wk_X5_lookAtCells_65 {p : Program} {l : Launch} {e : Env} {s : State} {m : MethodId} {args : Array Value} {below : List Frame} {meth : Method} {c : Code} {G : ck_G} (X : ck_X p s m meth c args cX5_lookAtCells 4 none RX5 wsX5_lookAtCells) (hC : ck_inC G) {i0 : Nat} (hi0 : i0 < ck_nc G) {post : ck_S → Prop} {K2 : ck_S → Int32 → Prop} (hK2 : ∀ (σ : ck_S) (x2 : Int32) (H : Heap) (locs : List Loc) (ls : Array Slot), K2 σ x2 → ck_H G s H locs σ → lv_has ls 4 [(0, .ref (ck_ad G 2 0)), (1, .ref (ck_ad G 30 i0)), (2, .int x2)] → W p l e ({ frames := 3, cells := 0, slots := 0, locals := 71 } : Room) s m args below meth c H locs 0 0 (MQ below (va_Qv post (ck_Q G) (ck_A G s.heap.size)) args s 0 0 (ck_A G s.heap.size)) (F0 m 2 ls [])) {σ : ck_S} {x2 : Int32} {H : Heap} {locs : List Loc} {ls : Array Slot} (h : sp_X5_lookAtCells_65 (ck_nc G) (ck_nb G) i0 post K2 σ x2) (hw : ck_H G s H locs σ) (hl : lv_has ls 4 [(0, .ref (ck_ad G 2 0)), (1, .ref (ck_ad G 30 i0)), (2, .int x2)]) : W p l e ({ frames := 3, cells := 0, slots := 0, locals := 71 } : Room) s m args below meth c H locs 0 0 (MQ below (va_Qv post (ck_Q G) (ck_A G s.heap.size)) args s 0 0 (ck_A G s.heap.size)) (F0 m 65 ls []) := by
  obtain ⟨hx, hb, hr, hml, hown, hts, hlocks⟩ := id X
  have inX3 : ∀ w ∈ wsX30, w ∈ wsX5_lookAtCells := fun _ h => List.mem_cons_of_mem _ (List.mem_append_left _ (List.mem_append_right _ (h)))
  have inX5 : ∀ w ∈ wsX50, w ∈ wsX5_lookAtCells := fun _ h => List.mem_cons_of_mem _ (List.mem_append_right _ (h))
  unfold sp_X5_lookAtCells_65 at h
  obtain ⟨x_1, ex_1⟩ : ∃ z : Int32, z = x2 + 1 := ⟨_, rfl⟩
  have h := h x_1 ex_1
  refine lv_iinc (v := x_1) (lv' := [(2, .int x_1), (0, .ref (ck_ad G 2 0)), (1, .ref (ck_ad G 30 i0))]) hx hb dX5_lookAtCells_65 hl (k := 2) rfl (by rw [ex_1]; rfl) (by decide) rfl (fun ls hl => ?_)
  refine lv_goto (tgt := 2) hx hb dX5_lookAtCells_68 (by decide) ?_
  exact hK2 _ _ _ _ _ h hw (lv_sub hl [1, 2, 0] rfl)
set_option maxHeartbeats 4000000 in
set_option maxRecDepth 100000 in
theorem wk_X5_lookAtCells_2 {p : Program} {l : Launch} {e : Env} {s : State} {m : MethodId} {args : Array Value} {below : List Frame} {meth : Method} {c : Code} {G : ck_G} (X : ck_X p s m meth c args cX5_lookAtCells 4 none RX5 wsX5_lookAtCells) (hC : ck_inC G) {i0 : Nat} (hi0 : i0 < ck_nc G) {post : ck_S → Prop} : ∀ (fu : Nat) (σ : ck_S) (x2 : Int32) (H : Heap) (locs : List Loc) (ls : Array Slot), lk_2 (bd_X5_lookAtCells_2 (ck_nc G) (ck_nb G) i0 post) fu σ x2 → ck_H G s H locs σ → lv_has ls 4 [(0, .ref (ck_ad G 2 0)), (1, .ref (ck_ad G 30 i0)), (2, .int x2)] → W p l e ({ frames := 3, cells := 0, slots := 0, locals := 71 } : Room) s m args below meth c H locs 0 0 (MQ below (va_Qv post (ck_Q G) (ck_A G s.heap.size)) args s 0 0 (ck_A G s.heap.size)) (F0 m 2 ls []) := by
  obtain ⟨hx, hb, hr, hml, hown, hts, hlocks⟩ := id X
  have inX3 : ∀ w ∈ wsX30, w ∈ wsX5_lookAtCells := fun _ h => List.mem_cons_of_mem _ (List.mem_append_left _ (List.mem_append_right _ (h)))
  have inX5 : ∀ w ∈ wsX50, w ∈ wsX5_lookAtCells := fun _ h => List.mem_cons_of_mem _ (List.mem_append_right _ (h))
  intro fu
  induction fu with
  | zero => intro σ x2 H locs ls h hw hl; exact h.elim
  | succ fu hK2 =>
    intro σ x2 H locs ls h hw hl
    have h : bd_X5_lookAtCells_2 (ck_nc G) (ck_nb G) i0 post (lk_2 (bd_X5_lookAtCells_2 (ck_nc G) (ck_nb G) i0 post) fu) σ x2 := h
    unfold bd_X5_lookAtCells_2 at h
    refine lv_iload_n hx hb dX5_lookAtCells_2 rfl (lv_at hl 2 rfl) ?_
    refine lv_bipush (v := 6) hx hb dX5_lookAtCells_3 (by decide) ?_
    obtain ⟨hA, hB⟩ := h
    refine lv_icmp_ge (tgt := 71) hx hb dX5_lookAtCells_5 (by decide) (fun c1 => ?_) (fun c1 => ?_)
    · have h := hA c1
      exact ck_vret X hw h dX5_lookAtCells_71
    · have h := hB c1
      refine lv_aload_n hx hb dX5_lookAtCells_8 rfl (lv_at hl 1 rfl) ?_
      refine lv_iload_n hx hb dX5_lookAtCells_9 rfl (lv_at hl 2 rfl) ?_
      refine ck_callVi (rest := []) ⟨hx, hb, hml, hown, hts⟩ hw (hC.2 30 _ (by decide) (by decide) hi0) rfl rfl (ct_X3_isValid l G hC hi0 h) (cwV 1 hts gX5_lookAtCells_X3_isValid rfl rfl rfl (by decide +kernel) ⟨(Nat.le_of_ble_eq_true rfl), (Nat.le_of_ble_eq_true rfl)⟩) rfl hl.1 rfl (Nat.le_of_ble_eq_true rfl) dX5_lookAtCells_10 ⟨(Nat.le_of_ble_eq_true rfl), (Nat.le_of_ble_eq_true rfl)⟩ (fun x_3 σ2 H locs h hw => ?_)
      obtain ⟨hA, hB⟩ := h
      refine lv_if_eq (tgt := 60) hx hb dX5_lookAtCells_13 (by decide) (fun c4 => ?_) (fun c4 => ?_)
      · have h := hA c4
        refine lv_aload_n hx hb dX5_lookAtCells_60 rfl (lv_at hl 0 rfl) ?_
        refine lv_iconst (v := 1) hx hb dX5_lookAtCells_61 (by decide) ?_
        refine ck_puti hx hb hts inX5 tyX5 tyX5_ok nmX5 hown hw (hC.1 2 (by decide)) rfl rfl 1 (by decide) (hts _ (List.mem_of_getElem? (i := 12) rfl)) rfl rfl rfl (Nat.le_of_ble_eq_true rfl) rfl dX5_lookAtCells_62 (fun H locs hw => ?_)
        obtain ⟨σ5, eσ5⟩ : ∃ z : ck_S, z = ck_ui σ2 2 0 1 1 := ⟨_, rfl⟩
        rw [← eσ5] at hw
        have h := h σ5 eσ5
        exact wk_X5_lookAtCells_65 X hC hi0 hK2 h hw (lv_sub hl [0, 1, 2] rfl)
      · have h := hB c4
        refine lv_aload_n hx hb dX5_lookAtCells_16 rfl (lv_at hl 1 rfl) ?_
        refine ck_get hx hb hts inX3 hown hw (hC.2 30 _ (by decide) (by decide) hi0) rfl rfl 0 (by decide) (hts _ (List.mem_of_getElem? (i := 1) rfl)) rfl dX5_lookAtCells_17 ?_
        refine lv_iload_n hx hb dX5_lookAtCells_20 rfl (lv_at hl 2 rfl) ?_
        obtain ⟨n6, h⟩ := h
        refine ck_iald hx hb hw (hC.2 31 _ (by decide) (by decide) hi0) rfl n6 dX5_lookAtCells_21 ?_
        refine lv_topi (fun x_7 ex_7 => ?_)
        have h := h x_7 ex_7
        refine lv_istore_n (lv' := [(3, .int x_7), (0, .ref (ck_ad G 2 0)), (1, .ref (ck_ad G 30 i0)), (2, .int x2)]) hx hb dX5_lookAtCells_22 rfl hl (by decide) rfl (fun ls hl => ?_)
        refine lv_aload_n hx hb dX5_lookAtCells_23 rfl (lv_at hl 1 rfl) ?_
        refine lv_dup hx hb dX5_lookAtCells_24 rfl ?_
        refine ck_get hx hb hts inX5 hown hw (hC.1 2 (by decide)) rfl rfl 2 (by decide) (hts _ (List.mem_of_getElem? (i := 2) rfl)) rfl dX5_lookAtCells_25 ?_
        refine lv_iload_n hx hb dX5_lookAtCells_28 rfl (lv_at hl 0 rfl) ?_
        refine lv_iadd hx hb dX5_lookAtCells_29 ?_
        refine ck_puti hx hb hts inX5 tyX5 tyX5_ok nmX5 hown hw (hC.1 2 (by decide)) rfl rfl 2 (by decide) (hts _ (List.mem_of_getElem? (i := 2) rfl)) rfl rfl rfl (Nat.le_of_ble_eq_true rfl) rfl dX5_lookAtCells_30 (fun H locs hw => ?_)
        obtain ⟨σ8, eσ8⟩ : ∃ z : ck_S, z = ck_ui σ2 2 0 2 ((ck_gi σ2 2 0 2) + x_7) := ⟨_, rfl⟩
        rw [← eσ8] at hw
        have h := h σ8 eσ8
        refine lv_aload_n hx hb dX5_lookAtCells_33 rfl (lv_at hl 1 rfl) ?_
        refine lv_aload_n hx hb dX5_lookAtCells_34 rfl (lv_at hl 1 rfl) ?_
        refine ck_get hx hb hts inX5 hown hw (hC.1 2 (by decide)) rfl rfl 3 (by decide) (hts _ (List.mem_of_getElem? (i := 3) rfl)) rfl dX5_lookAtCells_35 ?_
        refine lv_iload_n hx hb dX5_lookAtCells_38 rfl (lv_at hl 0 rfl) ?_
        refine va_mmin hx hb (hml.trans hl.1.symm) hown (hts _ (List.mem_of_getElem? (i := 4) rfl)) (hts _ (List.mem_of_getElem? (i := 5) rfl)) (hts _ (List.mem_of_getElem? (i := 6) rfl)) (hts _ (List.mem_of_getElem? (i := 7) rfl)) (Nat.le_of_ble_eq_true rfl) (Nat.le_of_ble_eq_true rfl) (Nat.le_of_ble_eq_true rfl) (Nat.le_of_ble_eq_true rfl) dX5_lookAtCells_39 ?_
        refine ck_puti hx hb hts inX5 tyX5 tyX5_ok nmX5 hown hw (hC.1 2 (by decide)) rfl rfl 3 (by decide) (hts _ (List.mem_of_getElem? (i := 3) rfl)) rfl rfl rfl (Nat.le_of_ble_eq_true rfl) rfl dX5_lookAtCells_42 (fun H locs hw => ?_)
        obtain ⟨σ9, eσ9⟩ : ∃ z : ck_S, z = ck_ui σ8 2 0 3 (if x_7 < (ck_gi σ8 2 0 3) then x_7 else (ck_gi σ8 2 0 3)) := ⟨_, rfl⟩
        rw [← eσ9] at hw
        have h := h σ9 eσ9
        refine lv_aload_n hx hb dX5_lookAtCells_45 rfl (lv_at hl 1 rfl) ?_
        refine lv_aload_n hx hb dX5_lookAtCells_46 rfl (lv_at hl 1 rfl) ?_
        refine ck_get hx hb hts inX5 hown hw (hC.1 2 (by decide)) rfl rfl 4 (by decide) (hts _ (List.mem_of_getElem? (i := 8) rfl)) rfl dX5_lookAtCells_47 ?_
        refine lv_iload_n hx hb dX5_lookAtCells_50 rfl (lv_at hl 0 rfl) ?_
        refine va_mmax hx hb (hml.trans hl.1.symm) hown (hts _ (List.mem_of_getElem? (i := 9) rfl)) (hts _ (List.mem_of_getElem? (i := 10) rfl)) (hts _ (List.mem_of_getElem? (i := 6) rfl)) (hts _ (List.mem_of_getElem? (i := 11) rfl)) (Nat.le_of_ble_eq_true rfl) (Nat.le_of_ble_eq_true rfl) (Nat.le_of_ble_eq_true rfl) (Nat.le_of_ble_eq_true rfl) dX5_lookAtCells_51 ?_
        refine ck_puti hx hb hts inX5 tyX5 tyX5_ok nmX5 hown hw (hC.1 2 (by decide)) rfl rfl 4 (by decide) (hts _ (List.mem_of_getElem? (i := 8) rfl)) rfl rfl rfl (Nat.le_of_ble_eq_true rfl) rfl dX5_lookAtCells_54 (fun H locs hw => ?_)
        obtain ⟨σ10, eσ10⟩ : ∃ z : ck_S, z = ck_ui σ9 2 0 4 (if (ck_gi σ9 2 0 4) < x_7 then x_7 else (ck_gi σ9 2 0 4)) := ⟨_, rfl⟩
        rw [← eσ10] at hw
        have h := h σ10 eσ10
        refine lv_goto (tgt := 65) hx hb dX5_lookAtCells_57 (by decide) ?_
        exact wk_X5_lookAtCells_65 X hC hi0 hK2 h hw (lv_sub hl [1, 2, 3] rfl)
set_option maxHeartbeats 4000000 in
set_option maxRecDepth 100000 in
theorem wk_X5_lookAtCells_0 {p : Program} {l : Launch} {e : Env} {s : State} {m : MethodId} {args : Array Value} {below : List Frame} {meth : Method} {c : Code} {G : ck_G} (X : ck_X p s m meth c args cX5_lookAtCells 4 none RX5 wsX5_lookAtCells) (hC : ck_inC G) {i0 : Nat} (hi0 : i0 < ck_nc G) {post : ck_S → Prop} {σ : ck_S} {H : Heap} {locs : List Loc} {ls : Array Slot} (h : sp_X5_lookAtCells (ck_nc G) (ck_nb G) σ i0 post) (hw : ck_H G s H locs σ) (hl : lv_has ls 4 [(0, .ref (ck_ad G 2 0)), (1, .ref (ck_ad G 30 i0))]) : W p l e ({ frames := 3, cells := 0, slots := 0, locals := 71 } : Room) s m args below meth c H locs 0 0 (MQ below (va_Qv post (ck_Q G) (ck_A G s.heap.size)) args s 0 0 (ck_A G s.heap.size)) (F0 m 0 ls []) := by
  obtain ⟨hx, hb, hr, hml, hown, hts, hlocks⟩ := id X
  have inX3 : ∀ w ∈ wsX30, w ∈ wsX5_lookAtCells := fun _ h => List.mem_cons_of_mem _ (List.mem_append_left _ (List.mem_append_right _ (h)))
  have inX5 : ∀ w ∈ wsX50, w ∈ wsX5_lookAtCells := fun _ h => List.mem_cons_of_mem _ (List.mem_append_right _ (h))
  unfold sp_X5_lookAtCells at h
  refine lv_iconst (v := 0) hx hb dX5_lookAtCells_0 (by decide) ?_
  refine lv_istore_n (lv' := [(2, .int 0), (0, .ref (ck_ad G 2 0)), (1, .ref (ck_ad G 30 i0))]) hx hb dX5_lookAtCells_1 rfl hl (by decide) rfl (fun ls hl => ?_)
  obtain ⟨fu, h⟩ := h
  exact wk_X5_lookAtCells_2 X hC hi0 fu _ _ _ _ _ h hw (lv_sub hl [1, 2, 0] rfl)
set_option maxHeartbeats 4000000 in
set_option maxRecDepth 100000 in
theorem ct_X5_lookAtCells (l : Launch) (G : ck_G) (hC : ck_inC G) {i0 : Nat} (hi0 : i0 < ck_nc G) {σ : ck_S} {post : ck_S → Prop} (h : sp_X5_lookAtCells (ck_nc G) (ck_nb G) σ i0 post) : ck_Mv l yX5_lookAtCells wsX5_lookAtCells ({ frames := 3, cells := 0, slots := 0, locals := 71 } : Room) G σ [.ref (ck_ad G 2 0), .ref (ck_ad G 30 i0)] post := by
  intro sz
  refine Met.ofW (cc := cX5_lookAtCells) (maxL := 4) (ret := none) (by decide) rfl ?_
  intro p e s m args below meth c s₁ B hml hv
  obtain ⟨rfl, rfl, hw⟩ := ck_enter hv
  have hl := lv_entry ([.ref (ck_ad G 2 0), .ref (ck_ad G 30 i0)]) (n := 4) (Nat.le_of_ble_eq_true rfl)
  rw [lg_entry_eq]
  generalize (lg_sl ([.ref (ck_ad G 2 0), .ref (ck_ad G 30 i0)]) ++ List.replicate (4 - (lg_sl ([.ref (ck_ad G 2 0), .ref (ck_ad G 30 i0)])).length) Slot.unset).toArray = ls at hl ⊢
  have hl : lv_has ls 4 [(0, .ref (ck_ad G 2 0)), (1, .ref (ck_ad G 30 i0))] := hl
  exact wk_X5_lookAtCells_0 ⟨B.exec, B.bytes, B.returns, hml, findClass_of_methodNamed B.named, atoms_spec (ws := wsX5_lookAtCells) B.pre, B.notSynchronized⟩ hC hi0 h hw hl
def sp_X5_look_140 (nc nb : Nat) (post : ck_S → Prop) (K48 : ck_S → Int32 → Int32 → Prop) (σ : ck_S) (x3 : Int32) (x4 : Int32) : Prop := ∀ x_1, x_1 = x4 + 1 → K48 σ x3 x_1
def sp_X5_look_115 (nc nb : Nat) (post : ck_S → Prop) (K48 : ck_S → Int32 → Int32 → Prop) (σ : ck_S) (x3 : Int32) (x4 : Int32) (j5 : Nat) (s0 : UInt64) : Prop := ∀ σ1, σ1 = ck_ud σ 2 0 6 s0 → sp_X3_isStale nc nb σ1 j5 (fun x_3 σ2 => ((x_3 = 0 → (sp_X5_lookAtCells nc nb σ2 j5 (fun σ5 => sp_X5_look_140 nc nb post K48 σ5 x3 x4))) ∧ (¬ x_3 = 0 → (∀ σ7, σ7 = ck_ui σ2 2 0 0 1 → sp_X5_look_140 nc nb post K48 σ7 x3 x4))))
def sp_X5_look_86 (nc nb : Nat) (post : ck_S → Prop) (K48 : ck_S → Int32 → Int32 → Prop) (σ : ck_S) (x3 : Int32) (x4 : Int32) (j5 : Nat) (s0 : UInt64) : Prop := ∀ σ1, σ1 = ck_ud σ 2 0 5 s0 → ((0 ≤ (Op.cmpValue (FP.dcmp (ck_gd σ1 30 j5 6) (ck_gd σ1 2 0 6)) .g) → (sp_X5_look_115 nc nb post K48 σ1 x3 x4 j5 (ck_gd σ1 2 0 6))) ∧ (¬ 0 ≤ (Op.cmpValue (FP.dcmp (ck_gd σ1 30 j5 6) (ck_gd σ1 2 0 6)) .g) → (sp_X5_look_115 nc nb post K48 σ1 x3 x4 j5 (ck_gd σ1 30 j5 6))))
def bd_X5_look_48 (nc nb : Nat) (post : ck_S → Prop) (K48 : ck_S → Int32 → Int32 → Prop) (σ : ck_S) (x3 : Int32) (x4 : Int32) : Prop := ((x3 ≤ x4 → (post σ)) ∧ (¬ x3 ≤ x4 → ((vp_in x4 nc) ∧ ∀ j3, j3 = Int32.toNatClampNeg x4 → (((Op.cmpValue (FP.dcmp (ck_gd σ 30 j3 6) (ck_gd σ 2 0 5)) .l) ≤ 0 → (sp_X5_look_86 nc nb post K48 σ x3 x4 j3 (ck_gd σ 2 0 5))) ∧ (¬ (Op.cmpValue (FP.dcmp (ck_gd σ 30 j3 6) (ck_gd σ 2 0 5)) .l) ≤ 0 → (sp_X5_look_86 nc nb post K48 σ x3 x4 j3 (ck_gd σ 30 j3 6)))))))
def sp_X5_look (nc nb : Nat) (σ : ck_S) (post : ck_S → Prop) : Prop := ∀ σ1, σ1 = ck_ui σ 2 0 0 0 → ∀ σ2, σ2 = ck_ui σ1 2 0 1 0 → ∀ σ3, σ3 = ck_ui σ2 2 0 2 0 → ∀ σ4, σ4 = ck_ui σ3 2 0 3 2147483647 → ∀ σ5, σ5 = ck_ui σ4 2 0 4 0 → ∀ σ6, σ6 = ck_ud σ5 2 0 5 13860109328209412096 → ∀ σ7, σ7 = ck_ud σ6 2 0 6 4641240890982006784 → ∀ x_8, x_8 = (nI nc) → lx_3 (bd_X5_look_48 nc nb post) σ7 x_8 0
set_option maxHeartbeats 4000000 in
set_option maxRecDepth 100000 in
theorem wk_X5_look_140 {p : Program} {l : Launch} {e : Env} {s : State} {m : MethodId} {args : Array Value} {below : List Frame} {meth : Method} {c : Code} {G : ck_G} (X : ck_X p s m meth c args cX5_look 6 none RX5 wsX5_look) (hC : ck_inC G) {post : ck_S → Prop} {K48 : ck_S → Int32 → Int32 → Prop} (hK48 : ∀ (σ : ck_S) (x3 : Int32) (x4 : Int32) (H : Heap) (locs : List Loc) (ls : Array Slot), K48 σ x3 x4 → ck_H G s H locs σ → lv_has ls 6 [(0, .ref (ck_ad G 2 0)), (2, .ref (ck_ad G 1 0)), (3, .int x3), (4, .int x4)] → W p l e ({ frames := 4, cells := 0, slots := 0, locals := 94 } : Room) s m args below meth c H locs 0 0 (MQ below (va_Qv post (ck_Q G) (ck_A G s.heap.size)) args s 0 0 (ck_A G s.heap.size)) (F0 m 48 ls [])) {σ : ck_S} {x3 : Int32} {x4 : Int32} {H : Heap} {locs : List Loc} {ls : Array Slot} (h : sp_X5_look_140 (ck_nc G) (ck_nb G) post K48 σ x3 x4) (hw : ck_H G s H locs σ) (hl : lv_has ls 6 [(0, .ref (ck_ad G 2 0)), (2, .ref (ck_ad G 1 0)), (3, .int x3), (4, .int x4)]) : W p l e ({ frames := 4, cells := 0, slots := 0, locals := 94 } : Room) s m args below meth c H locs 0 0 (MQ below (va_Qv post (ck_Q G) (ck_A G s.heap.size)) args s 0 0 (ck_A G s.heap.size)) (F0 m 140 ls []) := by
  obtain ⟨hx, hb, hr, hml, hown, hts, hlocks⟩ := id X
  have inX3 : ∀ w ∈ wsX30, w ∈ wsX5_look := fun _ h => List.mem_cons_of_mem _ (List.mem_append_right _ (h))
  have inX5 : ∀ w ∈ wsX50, w ∈ wsX5_look := fun _ h => List.mem_cons_of_mem _ (List.mem_append_left _ (List.mem_append_right _ (h)))
  unfold sp_X5_look_140 at h
  obtain ⟨x_1, ex_1⟩ : ∃ z : Int32, z = x4 + 1 := ⟨_, rfl⟩
  have h := h x_1 ex_1
  refine lv_iinc (v := x_1) (lv' := [(4, .int x_1), (0, .ref (ck_ad G 2 0)), (2, .ref (ck_ad G 1 0)), (3, .int x3)]) hx hb dX5_look_140 hl (k := 3) rfl (by rw [ex_1]; rfl) (by decide) rfl (fun ls hl => ?_)
  refine lv_goto (tgt := 48) hx hb dX5_look_143 (by decide) ?_
  exact hK48 _ _ _ _ _ _ h hw (lv_sub hl [1, 2, 3, 0] rfl)
set_option maxHeartbeats 4000000 in
set_option maxRecDepth 100000 in
theorem wk_X5_look_115 {p : Program} {l : Launch} {e : Env} {s : State} {m : MethodId} {args : Array Value} {below : List Frame} {meth : Method} {c : Code} {G : ck_G} (X : ck_X p s m meth c args cX5_look 6 none RX5 wsX5_look) (hC : ck_inC G) {post : ck_S → Prop} {K48 : ck_S → Int32 → Int32 → Prop} (hK48 : ∀ (σ : ck_S) (x3 : Int32) (x4 : Int32) (H : Heap) (locs : List Loc) (ls : Array Slot), K48 σ x3 x4 → ck_H G s H locs σ → lv_has ls 6 [(0, .ref (ck_ad G 2 0)), (2, .ref (ck_ad G 1 0)), (3, .int x3), (4, .int x4)] → W p l e ({ frames := 4, cells := 0, slots := 0, locals := 94 } : Room) s m args below meth c H locs 0 0 (MQ below (va_Qv post (ck_Q G) (ck_A G s.heap.size)) args s 0 0 (ck_A G s.heap.size)) (F0 m 48 ls [])) {σ : ck_S} {x3 : Int32} {x4 : Int32} {j5 : Nat} (hj5 : j5 < ck_nc G) {s0 : UInt64} {H : Heap} {locs : List Loc} {ls : Array Slot} (h : sp_X5_look_115 (ck_nc G) (ck_nb G) post K48 σ x3 x4 j5 s0) (hw : ck_H G s H locs σ) (hl : lv_has ls 6 [(0, .ref (ck_ad G 2 0)), (2, .ref (ck_ad G 1 0)), (3, .int x3), (4, .int x4), (5, .ref (ck_ad G 30 j5))]) : W p l e ({ frames := 4, cells := 0, slots := 0, locals := 94 } : Room) s m args below meth c H locs 0 0 (MQ below (va_Qv post (ck_Q G) (ck_A G s.heap.size)) args s 0 0 (ck_A G s.heap.size)) (F0 m 115 ls [.double s0, .ref (ck_ad G 2 0)]) := by
  obtain ⟨hx, hb, hr, hml, hown, hts, hlocks⟩ := id X
  have inX3 : ∀ w ∈ wsX30, w ∈ wsX5_look := fun _ h => List.mem_cons_of_mem _ (List.mem_append_right _ (h))
  have inX5 : ∀ w ∈ wsX50, w ∈ wsX5_look := fun _ h => List.mem_cons_of_mem _ (List.mem_append_left _ (List.mem_append_right _ (h)))
  unfold sp_X5_look_115 at h
  refine ck_putd hx hb hts inX5 tyX5 tyX5_ok nmX5 hown hw (hC.1 2 (by decide)) rfl rfl 6 (by decide) (hts _ (List.mem_of_getElem? (i := 10) rfl)) rfl rfl rfl (Nat.le_of_ble_eq_true rfl) rfl dX5_look_115 (fun H locs hw => ?_)
  obtain ⟨σ1, eσ1⟩ : ∃ z : ck_S, z = ck_ud σ 2 0 6 s0 := ⟨_, rfl⟩
  rw [← eσ1] at hw
  have h := h σ1 eσ1
  refine lv_aload hx hb dX5_look_118 (lv_at hl 4 rfl) ?_
  refine ck_callVi (rest := []) ⟨hx, hb, hml, hown, hts⟩ hw (hC.2 30 _ (by decide) (by decide) hj5) rfl rfl (ct_X3_isStale l G hC hj5 h) (cwV 0 hts gX5_look_X3_isStale rfl rfl rfl (by decide +kernel) ⟨(Nat.le_of_ble_eq_true rfl), (Nat.le_of_ble_eq_true rfl)⟩) rfl hl.1 rfl (Nat.le_of_ble_eq_true rfl) dX5_look_120 ⟨(Nat.le_of_ble_eq_true rfl), (Nat.le_of_ble_eq_true rfl)⟩ (fun x_3 σ2 H locs h hw => ?_)
  obtain ⟨hA, hB⟩ := h
  refine lv_if_eq (tgt := 134) hx hb dX5_look_123 (by decide) (fun c4 => ?_) (fun c4 => ?_)
  · have h := hA c4
    refine lv_aload_n hx hb dX5_look_134 rfl (lv_at hl 0 rfl) ?_
    refine lv_aload hx hb dX5_look_135 (lv_at hl 4 rfl) ?_
    refine ck_callVv (rest := []) ⟨hx, hb, hml, hown, hts⟩ hw (hC.1 2 (by decide)) rfl rfl (ct_X5_lookAtCells l G hC hj5 h) (cwV 1 hts gX5_look_X5_lookAtCells rfl rfl rfl (by decide +kernel) ⟨(Nat.le_of_ble_eq_true rfl), (Nat.le_of_ble_eq_true rfl)⟩) rfl hl.1 rfl (Nat.le_of_ble_eq_true rfl) dX5_look_137 ⟨(Nat.le_of_ble_eq_true rfl), (Nat.le_of_ble_eq_true rfl)⟩ (fun σ5 H locs h hw => ?_)
    exact wk_X5_look_140 X hC hK48 h hw (lv_sub hl [0, 1, 2, 3] rfl)
  · have h := hB c4
    refine lv_aload_n hx hb dX5_look_126 rfl (lv_at hl 0 rfl) ?_
    refine lv_iconst (v := 1) hx hb dX5_look_127 (by decide) ?_
    refine ck_puti hx hb hts inX5 tyX5 tyX5_ok nmX5 hown hw (hC.1 2 (by decide)) rfl rfl 0 (by decide) (hts _ (List.mem_of_getElem? (i := 1) rfl)) rfl rfl rfl (Nat.le_of_ble_eq_true rfl) rfl dX5_look_128 (fun H locs hw => ?_)
    obtain ⟨σ7, eσ7⟩ : ∃ z : ck_S, z = ck_ui σ2 2 0 0 1 := ⟨_, rfl⟩
    rw [← eσ7] at hw
    have h := h σ7 eσ7
    refine lv_goto (tgt := 140) hx hb dX5_look_131 (by decide) ?_
    exact wk_X5_look_140 X hC hK48 h hw (lv_sub hl [0, 1, 2, 3] rfl)
set_option maxHeartbeats 4000000 in
set_option maxRecDepth 100000 in
theorem wk_X5_look_86 {p : Program} {l : Launch} {e : Env} {s : State} {m : MethodId} {args : Array Value} {below : List Frame} {meth : Method} {c : Code} {G : ck_G} (X : ck_X p s m meth c args cX5_look 6 none RX5 wsX5_look) (hC : ck_inC G) {post : ck_S → Prop} {K48 : ck_S → Int32 → Int32 → Prop} (hK48 : ∀ (σ : ck_S) (x3 : Int32) (x4 : Int32) (H : Heap) (locs : List Loc) (ls : Array Slot), K48 σ x3 x4 → ck_H G s H locs σ → lv_has ls 6 [(0, .ref (ck_ad G 2 0)), (2, .ref (ck_ad G 1 0)), (3, .int x3), (4, .int x4)] → W p l e ({ frames := 4, cells := 0, slots := 0, locals := 94 } : Room) s m args below meth c H locs 0 0 (MQ below (va_Qv post (ck_Q G) (ck_A G s.heap.size)) args s 0 0 (ck_A G s.heap.size)) (F0 m 48 ls [])) {σ : ck_S} {x3 : Int32} {x4 : Int32} {j5 : Nat} (hj5 : j5 < ck_nc G) {s0 : UInt64} {H : Heap} {locs : List Loc} {ls : Array Slot} (h : sp_X5_look_86 (ck_nc G) (ck_nb G) post K48 σ x3 x4 j5 s0) (hw : ck_H G s H locs σ) (hl : lv_has ls 6 [(0, .ref (ck_ad G 2 0)), (2, .ref (ck_ad G 1 0)), (3, .int x3), (4, .int x4), (5, .ref (ck_ad G 30 j5))]) : W p l e ({ frames := 4, cells := 0, slots := 0, locals := 94 } : Room) s m args below meth c H locs 0 0 (MQ below (va_Qv post (ck_Q G) (ck_A G s.heap.size)) args s 0 0 (ck_A G s.heap.size)) (F0 m 86 ls [.double s0, .ref (ck_ad G 2 0)]) := by
  obtain ⟨hx, hb, hr, hml, hown, hts, hlocks⟩ := id X
  have inX3 : ∀ w ∈ wsX30, w ∈ wsX5_look := fun _ h => List.mem_cons_of_mem _ (List.mem_append_right _ (h))
  have inX5 : ∀ w ∈ wsX50, w ∈ wsX5_look := fun _ h => List.mem_cons_of_mem _ (List.mem_append_left _ (List.mem_append_right _ (h)))
  unfold sp_X5_look_86 at h
  refine ck_putd hx hb hts inX5 tyX5 tyX5_ok nmX5 hown hw (hC.1 2 (by decide)) rfl rfl 5 (by decide) (hts _ (List.mem_of_getElem? (i := 8) rfl)) rfl rfl rfl (Nat.le_of_ble_eq_true rfl) rfl dX5_look_86 (fun H locs hw => ?_)
  obtain ⟨σ1, eσ1⟩ : ∃ z : ck_S, z = ck_ud σ 2 0 5 s0 := ⟨_, rfl⟩
  rw [← eσ1] at hw
  have h := h σ1 eσ1
  refine lv_aload_n hx hb dX5_look_89 rfl (lv_at hl 0 rfl) ?_
  refine lv_aload hx hb dX5_look_90 (lv_at hl 4 rfl) ?_
  refine ck_get hx hb hts inX3 hown hw (hC.2 30 _ (by decide) (by decide) hj5) rfl rfl 6 (by decide) (hts _ (List.mem_of_getElem? (i := 11) rfl)) rfl dX5_look_92 ?_
  refine lv_aload_n hx hb dX5_look_95 rfl (lv_at hl 0 rfl) ?_
  refine ck_get hx hb hts inX5 hown hw (hC.1 2 (by decide)) rfl rfl 6 (by decide) (hts _ (List.mem_of_getElem? (i := 10) rfl)) rfl dX5_look_96 ?_
  refine lv_dcmp hx hb dX5_look_99 ?_
  obtain ⟨hA, hB⟩ := h
  refine lv_if_ge (tgt := 111) hx hb dX5_look_100 (by decide) (fun c2 => ?_) (fun c2 => ?_)
  · have h := hA c2
    refine lv_aload_n hx hb dX5_look_111 rfl (lv_at hl 0 rfl) ?_
    refine ck_get hx hb hts inX5 hown hw (hC.1 2 (by decide)) rfl rfl 6 (by decide) (hts _ (List.mem_of_getElem? (i := 10) rfl)) rfl dX5_look_112 ?_
    exact wk_X5_look_115 X hC hK48 hj5 h hw (lv_sub hl [0, 1, 2, 3, 4] rfl)
  · have h := hB c2
    refine lv_aload hx hb dX5_look_103 (lv_at hl 4 rfl) ?_
    refine ck_get hx hb hts inX3 hown hw (hC.2 30 _ (by decide) (by decide) hj5) rfl rfl 6 (by decide) (hts _ (List.mem_of_getElem? (i := 11) rfl)) rfl dX5_look_105 ?_
    refine lv_goto (tgt := 115) hx hb dX5_look_108 (by decide) ?_
    exact wk_X5_look_115 X hC hK48 hj5 h hw (lv_sub hl [0, 1, 2, 3, 4] rfl)
set_option maxHeartbeats 4000000 in
set_option maxRecDepth 100000 in
theorem wk_X5_look_48 {p : Program} {l : Launch} {e : Env} {s : State} {m : MethodId} {args : Array Value} {below : List Frame} {meth : Method} {c : Code} {G : ck_G} (X : ck_X p s m meth c args cX5_look 6 none RX5 wsX5_look) (hC : ck_inC G) {post : ck_S → Prop} : ∀ (fu : Nat) (σ : ck_S) (x3 : Int32) (x4 : Int32) (H : Heap) (locs : List Loc) (ls : Array Slot), lk_3 (bd_X5_look_48 (ck_nc G) (ck_nb G) post) fu σ x3 x4 → ck_H G s H locs σ → lv_has ls 6 [(0, .ref (ck_ad G 2 0)), (2, .ref (ck_ad G 1 0)), (3, .int x3), (4, .int x4)] → W p l e ({ frames := 4, cells := 0, slots := 0, locals := 94 } : Room) s m args below meth c H locs 0 0 (MQ below (va_Qv post (ck_Q G) (ck_A G s.heap.size)) args s 0 0 (ck_A G s.heap.size)) (F0 m 48 ls []) := by
  obtain ⟨hx, hb, hr, hml, hown, hts, hlocks⟩ := id X
  have inX3 : ∀ w ∈ wsX30, w ∈ wsX5_look := fun _ h => List.mem_cons_of_mem _ (List.mem_append_right _ (h))
  have inX5 : ∀ w ∈ wsX50, w ∈ wsX5_look := fun _ h => List.mem_cons_of_mem _ (List.mem_append_left _ (List.mem_append_right _ (h)))
  intro fu
  induction fu with
  | zero => intro σ x3 x4 H locs ls h hw hl; exact h.elim
  | succ fu hK48 =>
    intro σ x3 x4 H locs ls h hw hl
    have h : bd_X5_look_48 (ck_nc G) (ck_nb G) post (lk_3 (bd_X5_look_48 (ck_nc G) (ck_nb G) post) fu) σ x3 x4 := h
    unfold bd_X5_look_48 at h
    refine lv_iload hx hb dX5_look_48 (lv_at hl 3 rfl) ?_
    refine lv_iload_n hx hb dX5_look_50 rfl (lv_at hl 2 rfl) ?_
    obtain ⟨hA, hB⟩ := h
    refine lv_icmp_ge (tgt := 146) hx hb dX5_look_51 (by decide) (fun c1 => ?_) (fun c1 => ?_)
    · have h := hA c1
      exact ck_vret X hw h dX5_look_146
    · have h := hB c1
      refine lv_aload_n hx hb dX5_look_54 rfl (lv_at hl 1 rfl) ?_
      refine lv_iload hx hb dX5_look_55 (lv_at hl 3 rfl) ?_
      obtain ⟨n2, h⟩ := h
      refine ck_aald hx hb hw (hC.1 1 (by decide)) n2 dX5_look_57 ?_
      obtain ⟨j3, ej3⟩ : ∃ z : Nat, z = Int32.toNatClampNeg x4 := ⟨_, rfl⟩
      have hj3 : j3 < ck_nc G := by rw [ej3]; exact ck_in n2
      rw [← ej3]
      have h := h j3 ej3
      refine lv_astore (lv' := [(5, .ref (ck_ad G 30 j3)), (0, .ref (ck_ad G 2 0)), (2, .ref (ck_ad G 1 0)), (3, .int x3), (4, .int x4)]) hx hb dX5_look_58 hl (by decide) rfl (fun ls hl => ?_)
      refine lv_aload_n hx hb dX5_look_60 rfl (lv_at hl 1 rfl) ?_
      refine lv_aload hx hb dX5_look_61 (lv_at hl 0 rfl) ?_
      refine ck_get hx hb hts inX3 hown hw (hC.2 30 _ (by decide) (by decide) hj3) rfl rfl 6 (by decide) (hts _ (List.mem_of_getElem? (i := 11) rfl)) rfl dX5_look_63 ?_
      refine lv_aload_n hx hb dX5_look_66 rfl (lv_at hl 1 rfl) ?_
      refine ck_get hx hb hts inX5 hown hw (hC.1 2 (by decide)) rfl rfl 5 (by decide) (hts _ (List.mem_of_getElem? (i := 8) rfl)) rfl dX5_look_67 ?_
      refine lv_dcmp hx hb dX5_look_70 ?_
      obtain ⟨hA, hB⟩ := h
      refine lv_if_le (tgt := 82) hx hb dX5_look_71 (by decide) (fun c4 => ?_) (fun c4 => ?_)
      · have h := hA c4
        refine lv_aload_n hx hb dX5_look_82 rfl (lv_at hl 1 rfl) ?_
        refine ck_get hx hb hts inX5 hown hw (hC.1 2 (by decide)) rfl rfl 5 (by decide) (hts _ (List.mem_of_getElem? (i := 8) rfl)) rfl dX5_look_83 ?_
        exact wk_X5_look_86 X hC hK48 hj3 h hw (lv_sub hl [1, 2, 3, 4, 0] rfl)
      · have h := hB c4
        refine lv_aload hx hb dX5_look_74 (lv_at hl 0 rfl) ?_
        refine ck_get hx hb hts inX3 hown hw (hC.2 30 _ (by decide) (by decide) hj3) rfl rfl 6 (by decide) (hts _ (List.mem_of_getElem? (i := 11) rfl)) rfl dX5_look_76 ?_
        refine lv_goto (tgt := 86) hx hb dX5_look_79 (by decide) ?_
        exact wk_X5_look_86 X hC hK48 hj3 h hw (lv_sub hl [1, 2, 3, 4, 0] rfl)
set_option maxHeartbeats 4000000 in
set_option maxRecDepth 100000 in
theorem wk_X5_look_0 {p : Program} {l : Launch} {e : Env} {s : State} {m : MethodId} {args : Array Value} {below : List Frame} {meth : Method} {c : Code} {G : ck_G} (X : ck_X p s m meth c args cX5_look 6 none RX5 wsX5_look) (hC : ck_inC G) {post : ck_S → Prop} {σ : ck_S} {H : Heap} {locs : List Loc} {ls : Array Slot} (h : sp_X5_look (ck_nc G) (ck_nb G) σ post) (hw : ck_H G s H locs σ) (hl : lv_has ls 6 [(0, .ref (ck_ad G 2 0)), (1, .ref (ck_ad G 1 0))]) : W p l e ({ frames := 4, cells := 0, slots := 0, locals := 94 } : Room) s m args below meth c H locs 0 0 (MQ below (va_Qv post (ck_Q G) (ck_A G s.heap.size)) args s 0 0 (ck_A G s.heap.size)) (F0 m 0 ls []) := by
  obtain ⟨hx, hb, hr, hml, hown, hts, hlocks⟩ := id X
  have inX3 : ∀ w ∈ wsX30, w ∈ wsX5_look := fun _ h => List.mem_cons_of_mem _ (List.mem_append_right _ (h))
  have inX5 : ∀ w ∈ wsX50, w ∈ wsX5_look := fun _ h => List.mem_cons_of_mem _ (List.mem_append_left _ (List.mem_append_right _ (h)))
  unfold sp_X5_look at h
  refine lv_aload_n hx hb dX5_look_0 rfl (lv_at hl 0 rfl) ?_
  refine lv_iconst (v := 0) hx hb dX5_look_1 (by decide) ?_
  refine ck_puti hx hb hts inX5 tyX5 tyX5_ok nmX5 hown hw (hC.1 2 (by decide)) rfl rfl 0 (by decide) (hts _ (List.mem_of_getElem? (i := 1) rfl)) rfl rfl rfl (Nat.le_of_ble_eq_true rfl) rfl dX5_look_2 (fun H locs hw => ?_)
  obtain ⟨σ1, eσ1⟩ : ∃ z : ck_S, z = ck_ui σ 2 0 0 0 := ⟨_, rfl⟩
  rw [← eσ1] at hw
  have h := h σ1 eσ1
  refine lv_aload_n hx hb dX5_look_5 rfl (lv_at hl 0 rfl) ?_
  refine lv_iconst (v := 0) hx hb dX5_look_6 (by decide) ?_
  refine ck_puti hx hb hts inX5 tyX5 tyX5_ok nmX5 hown hw (hC.1 2 (by decide)) rfl rfl 1 (by decide) (hts _ (List.mem_of_getElem? (i := 2) rfl)) rfl rfl rfl (Nat.le_of_ble_eq_true rfl) rfl dX5_look_7 (fun H locs hw => ?_)
  obtain ⟨σ2, eσ2⟩ : ∃ z : ck_S, z = ck_ui σ1 2 0 1 0 := ⟨_, rfl⟩
  rw [← eσ2] at hw
  have h := h σ2 eσ2
  refine lv_aload_n hx hb dX5_look_10 rfl (lv_at hl 0 rfl) ?_
  refine lv_iconst (v := 0) hx hb dX5_look_11 (by decide) ?_
  refine ck_puti hx hb hts inX5 tyX5 tyX5_ok nmX5 hown hw (hC.1 2 (by decide)) rfl rfl 2 (by decide) (hts _ (List.mem_of_getElem? (i := 3) rfl)) rfl rfl rfl (Nat.le_of_ble_eq_true rfl) rfl dX5_look_12 (fun H locs hw => ?_)
  obtain ⟨σ3, eσ3⟩ : ∃ z : ck_S, z = ck_ui σ2 2 0 2 0 := ⟨_, rfl⟩
  rw [← eσ3] at hw
  have h := h σ3 eσ3
  refine lv_aload_n hx hb dX5_look_15 rfl (lv_at hl 0 rfl) ?_
  refine lv_ldc hx hb hown (hts _ (List.mem_of_getElem? (i := 4) rfl)) dX5_look_16 ?_
  refine ck_puti hx hb hts inX5 tyX5 tyX5_ok nmX5 hown hw (hC.1 2 (by decide)) rfl rfl 3 (by decide) (hts _ (List.mem_of_getElem? (i := 5) rfl)) rfl rfl rfl (Nat.le_of_ble_eq_true rfl) rfl dX5_look_18 (fun H locs hw => ?_)
  obtain ⟨σ4, eσ4⟩ : ∃ z : ck_S, z = ck_ui σ3 2 0 3 2147483647 := ⟨_, rfl⟩
  rw [← eσ4] at hw
  have h := h σ4 eσ4
  refine lv_aload_n hx hb dX5_look_21 rfl (lv_at hl 0 rfl) ?_
  refine lv_iconst (v := 0) hx hb dX5_look_22 (by decide) ?_
  refine ck_puti hx hb hts inX5 tyX5 tyX5_ok nmX5 hown hw (hC.1 2 (by decide)) rfl rfl 4 (by decide) (hts _ (List.mem_of_getElem? (i := 6) rfl)) rfl rfl rfl (Nat.le_of_ble_eq_true rfl) rfl dX5_look_23 (fun H locs hw => ?_)
  obtain ⟨σ5, eσ5⟩ : ∃ z : ck_S, z = ck_ui σ4 2 0 4 0 := ⟨_, rfl⟩
  rw [← eσ5] at hw
  have h := h σ5 eσ5
  refine lv_aload_n hx hb dX5_look_26 rfl (lv_at hl 0 rfl) ?_
  refine lv_ldc2d hx hb hown (hts _ (List.mem_of_getElem? (i := 7) rfl)) dX5_look_27 ?_
  refine ck_putd hx hb hts inX5 tyX5 tyX5_ok nmX5 hown hw (hC.1 2 (by decide)) rfl rfl 5 (by decide) (hts _ (List.mem_of_getElem? (i := 8) rfl)) rfl rfl rfl (Nat.le_of_ble_eq_true rfl) rfl dX5_look_30 (fun H locs hw => ?_)
  obtain ⟨σ6, eσ6⟩ : ∃ z : ck_S, z = ck_ud σ5 2 0 5 13860109328209412096 := ⟨_, rfl⟩
  rw [← eσ6] at hw
  have h := h σ6 eσ6
  refine lv_aload_n hx hb dX5_look_33 rfl (lv_at hl 0 rfl) ?_
  refine lv_ldc2d hx hb hown (hts _ (List.mem_of_getElem? (i := 9) rfl)) dX5_look_34 ?_
  refine ck_putd hx hb hts inX5 tyX5 tyX5_ok nmX5 hown hw (hC.1 2 (by decide)) rfl rfl 6 (by decide) (hts _ (List.mem_of_getElem? (i := 10) rfl)) rfl rfl rfl (Nat.le_of_ble_eq_true rfl) rfl dX5_look_37 (fun H locs hw => ?_)
  obtain ⟨σ7, eσ7⟩ : ∃ z : ck_S, z = ck_ud σ6 2 0 6 4641240890982006784 := ⟨_, rfl⟩
  rw [← eσ7] at hw
  have h := h σ7 eσ7
  refine lv_aload_n hx hb dX5_look_40 rfl (lv_at hl 1 rfl) ?_
  refine lv_astore_n (lv' := [(2, .ref (ck_ad G 1 0)), (0, .ref (ck_ad G 2 0)), (1, .ref (ck_ad G 1 0))]) hx hb dX5_look_41 rfl hl (by decide) rfl (fun ls hl => ?_)
  refine lv_aload_n hx hb dX5_look_42 rfl (lv_at hl 0 rfl) ?_
  refine ck_alen hx hb hw (hC.1 1 (by decide)) rfl 4 rfl rfl dX5_look_43 ?_
  refine lv_topi (fun x_8 ex_8 => ?_)
  have h := h x_8 ex_8
  refine lv_istore_n (lv' := [(3, .int x_8), (2, .ref (ck_ad G 1 0)), (0, .ref (ck_ad G 2 0)), (1, .ref (ck_ad G 1 0))]) hx hb dX5_look_44 rfl hl (by decide) rfl (fun ls hl => ?_)
  refine lv_iconst (v := 0) hx hb dX5_look_45 (by decide) ?_
  refine lv_istore (lv' := [(4, .int 0), (3, .int x_8), (2, .ref (ck_ad G 1 0)), (0, .ref (ck_ad G 2 0)), (1, .ref (ck_ad G 1 0))]) hx hb dX5_look_46 hl (by decide) rfl (fun ls hl => ?_)
  obtain ⟨fu, h⟩ := h
  exact wk_X5_look_48 X hC fu _ _ _ _ _ _ h hw (lv_sub hl [3, 2, 1, 0] rfl)
set_option maxHeartbeats 4000000 in
set_option maxRecDepth 100000 in
theorem ct_X5_look (l : Launch) (G : ck_G) (hC : ck_inC G) {σ : ck_S} {post : ck_S → Prop} (h : sp_X5_look (ck_nc G) (ck_nb G) σ post) : ck_Mv l yX5_look wsX5_look ({ frames := 4, cells := 0, slots := 0, locals := 94 } : Room) G σ [.ref (ck_ad G 2 0), .ref (ck_ad G 1 0)] post := by
  intro sz
  refine Met.ofW (cc := cX5_look) (maxL := 6) (ret := none) (by decide) rfl ?_
  intro p e s m args below meth c s₁ B hml hv
  obtain ⟨rfl, rfl, hw⟩ := ck_enter hv
  have hl := lv_entry ([.ref (ck_ad G 2 0), .ref (ck_ad G 1 0)]) (n := 6) (Nat.le_of_ble_eq_true rfl)
  rw [lg_entry_eq]
  generalize (lg_sl ([.ref (ck_ad G 2 0), .ref (ck_ad G 1 0)]) ++ List.replicate (6 - (lg_sl ([.ref (ck_ad G 2 0), .ref (ck_ad G 1 0)])).length) Slot.unset).toArray = ls at hl ⊢
  have hl : lv_has ls 6 [(0, .ref (ck_ad G 2 0)), (1, .ref (ck_ad G 1 0))] := hl
  exact wk_X5_look_0 ⟨B.exec, B.bytes, B.returns, hml, findClass_of_methodNamed B.named, atoms_spec (ws := wsX5_look) B.pre, B.notSynchronized⟩ hC h hw hl
def sp_X4_beginAnew (nc nb : Nat) (σ : ck_S) (post : ck_S → Prop) : Prop := ∀ σ1, σ1 = ck_ui σ 5 0 0 0 → ∀ σ2, σ2 = ck_ui σ1 5 0 1 0 → post σ2
set_option maxHeartbeats 4000000 in
set_option maxRecDepth 100000 in
theorem wk_X4_beginAnew_0 {p : Program} {l : Launch} {e : Env} {s : State} {m : MethodId} {args : Array Value} {below : List Frame} {meth : Method} {c : Code} {G : ck_G} (X : ck_X p s m meth c args cX4_beginAnew 1 none RX4 wsX4_beginAnew) (hC : ck_inC G) {post : ck_S → Prop} {σ : ck_S} {H : Heap} {locs : List Loc} {ls : Array Slot} (h : sp_X4_beginAnew (ck_nc G) (ck_nb G) σ post) (hw : ck_H G s H locs σ) (hl : lv_has ls 1 [(0, .ref (ck_ad G 5 0))]) : W p l e ({ frames := 0, cells := 0, slots := 0, locals := 0 } : Room) s m args below meth c H locs 0 0 (MQ below (va_Qv post (ck_Q G) (ck_A G s.heap.size)) args s 0 0 (ck_A G s.heap.size)) (F0 m 0 ls []) := by
  obtain ⟨hx, hb, hr, hml, hown, hts, hlocks⟩ := id X
  have inX4 : ∀ w ∈ wsX40, w ∈ wsX4_beginAnew := fun _ h => List.mem_cons_of_mem _ (List.mem_append_right _ (h))
  unfold sp_X4_beginAnew at h
  refine lv_aload_n hx hb dX4_beginAnew_0 rfl (lv_at hl 0 rfl) ?_
  refine lv_iconst (v := 0) hx hb dX4_beginAnew_1 (by decide) ?_
  refine ck_puti hx hb hts inX4 tyX4 tyX4_ok nmX4 hown hw (hC.1 5 (by decide)) rfl rfl 0 (by decide) (hts _ (List.mem_of_getElem? (i := 1) rfl)) rfl rfl rfl (Nat.le_of_ble_eq_true rfl) rfl dX4_beginAnew_2 (fun H locs hw => ?_)
  obtain ⟨σ1, eσ1⟩ : ∃ z : ck_S, z = ck_ui σ 5 0 0 0 := ⟨_, rfl⟩
  rw [← eσ1] at hw
  have h := h σ1 eσ1
  refine lv_aload_n hx hb dX4_beginAnew_5 rfl (lv_at hl 0 rfl) ?_
  refine lv_iconst (v := 0) hx hb dX4_beginAnew_6 (by decide) ?_
  refine ck_puti hx hb hts inX4 tyX4 tyX4_ok nmX4 hown hw (hC.1 5 (by decide)) rfl rfl 1 (by decide) (hts _ (List.mem_of_getElem? (i := 2) rfl)) rfl rfl rfl (Nat.le_of_ble_eq_true rfl) rfl dX4_beginAnew_7 (fun H locs hw => ?_)
  obtain ⟨σ2, eσ2⟩ : ∃ z : ck_S, z = ck_ui σ1 5 0 1 0 := ⟨_, rfl⟩
  rw [← eσ2] at hw
  have h := h σ2 eσ2
  exact ck_vret X hw h dX4_beginAnew_10
set_option maxHeartbeats 4000000 in
set_option maxRecDepth 100000 in
theorem ct_X4_beginAnew (l : Launch) (G : ck_G) (hC : ck_inC G) {σ : ck_S} {post : ck_S → Prop} (h : sp_X4_beginAnew (ck_nc G) (ck_nb G) σ post) : ck_Mv l yX4_beginAnew wsX4_beginAnew ({ frames := 0, cells := 0, slots := 0, locals := 0 } : Room) G σ [.ref (ck_ad G 5 0)] post := by
  intro sz
  refine Met.ofW (cc := cX4_beginAnew) (maxL := 1) (ret := none) (by decide) rfl ?_
  intro p e s m args below meth c s₁ B hml hv
  obtain ⟨rfl, rfl, hw⟩ := ck_enter hv
  have hl := lv_entry ([.ref (ck_ad G 5 0)]) (n := 1) (Nat.le_of_ble_eq_true rfl)
  rw [lg_entry_eq]
  generalize (lg_sl ([.ref (ck_ad G 5 0)]) ++ List.replicate (1 - (lg_sl ([.ref (ck_ad G 5 0)])).length) Slot.unset).toArray = ls at hl ⊢
  have hl : lv_has ls 1 [(0, .ref (ck_ad G 5 0))] := hl
  exact wk_X4_beginAnew_0 ⟨B.exec, B.bytes, B.returns, hml, findClass_of_methodNamed B.named, atoms_spec (ws := wsX4_beginAnew) B.pre, B.notSynchronized⟩ hC h hw hl
def sp_X4_opened (nc nb : Nat) (σ : ck_S) (a0 : Int32) (post : Int32 → ck_S → Prop) : Prop := ((3 ≤ (ck_gi σ 5 0 1) → ((((2 * a0) ≤ (ck_gi σ 2 0 2) → (post 0 σ)) ∧ (¬ (2 * a0) ≤ (ck_gi σ 2 0 2) → (sp_X0_latch nc nb σ 8 (fun σ3 => post 0 σ3)))))) ∧ (¬ 3 ≤ (ck_gi σ 5 0 1) → (post 4 σ)))
set_option maxHeartbeats 4000000 in
set_option maxRecDepth 100000 in
theorem wk_X4_opened_0 {p : Program} {l : Launch} {e : Env} {s : State} {m : MethodId} {args : Array Value} {below : List Frame} {meth : Method} {c : Code} {G : ck_G} (X : ck_X p s m meth c args cX4_opened 4 (some .int) RX4 wsX4_opened) (hC : ck_inC G) {post : Int32 → ck_S → Prop} {σ : ck_S} {a0 : Int32} {H : Heap} {locs : List Loc} {ls : Array Slot} (h : sp_X4_opened (ck_nc G) (ck_nb G) σ a0 post) (hw : ck_H G s H locs σ) (hl : lv_has ls 4 [(0, .ref (ck_ad G 5 0)), (1, .int a0), (2, .ref (ck_ad G 2 0)), (3, .ref (ck_ad G 3 0))]) : W p l e ({ frames := 2, cells := 0, slots := 0, locals := 42 } : Room) s m args below meth c H locs 0 0 (MQ below (va_Qi post (ck_Q G) (ck_A G s.heap.size)) args s 0 0 (ck_A G s.heap.size)) (F0 m 0 ls []) := by
  obtain ⟨hx, hb, hr, hml, hown, hts, hlocks⟩ := id X
  have inX4 : ∀ w ∈ wsX40, w ∈ wsX4_opened := fun _ h => List.mem_cons_of_mem _ (List.mem_append_left _ (List.mem_append_left _ (List.mem_append_right _ (h))))
  have inX5 : ∀ w ∈ wsX50, w ∈ wsX4_opened := fun _ h => List.mem_cons_of_mem _ (List.mem_append_left _ (List.mem_append_right _ (h)))
  unfold sp_X4_opened at h
  refine lv_aload_n hx hb dX4_opened_0 rfl (lv_at hl 0 rfl) ?_
  refine ck_get hx hb hts inX4 hown hw (hC.1 5 (by decide)) rfl rfl 1 (by decide) (hts _ (List.mem_of_getElem? (i := 1) rfl)) rfl dX4_opened_1 ?_
  refine lv_iconst (v := 3) hx hb dX4_opened_4 (by decide) ?_
  obtain ⟨hA, hB⟩ := h
  refine lv_icmp_ge (tgt := 10) hx hb dX4_opened_5 (by decide) (fun c1 => ?_) (fun c1 => ?_)
  · have h := hA c1
    refine lv_iconst (v := 2) hx hb dX4_opened_10 (by decide) ?_
    refine lv_iload_n hx hb dX4_opened_11 rfl (lv_at hl 1 rfl) ?_
    refine lv_imul hx hb dX4_opened_12 ?_
    refine lv_aload_n hx hb dX4_opened_13 rfl (lv_at hl 2 rfl) ?_
    refine ck_get hx hb hts inX5 hown hw (hC.1 2 (by decide)) rfl rfl 2 (by decide) (hts _ (List.mem_of_getElem? (i := 2) rfl)) rfl dX4_opened_14 ?_
    obtain ⟨hA, hB⟩ := h
    refine lv_icmp_le (tgt := 26) hx hb dX4_opened_17 (by decide) (fun c2 => ?_) (fun c2 => ?_)
    · have h := hA c2
      refine lv_iconst (v := 0) hx hb dX4_opened_26 (by decide) ?_
      exact ck_iret X hw h dX4_opened_27
    · have h := hB c2
      refine lv_aload_n hx hb dX4_opened_20 rfl (lv_at hl 3 rfl) ?_
      refine lv_bipush (v := 8) hx hb dX4_opened_21 (by decide) ?_
      refine ck_callVv (rest := []) ⟨hx, hb, hml, hown, hts⟩ hw (hC.1 3 (by decide)) rfl rfl (ct_X0_latch l G hC h) (cwV 1 hts gX4_opened_X0_latch rfl rfl rfl (by decide +kernel) ⟨(Nat.le_of_ble_eq_true rfl), (Nat.le_of_ble_eq_true rfl)⟩) rfl hl.1 rfl (Nat.le_of_ble_eq_true rfl) dX4_opened_23 ⟨(Nat.le_of_ble_eq_true rfl), (Nat.le_of_ble_eq_true rfl)⟩ (fun σ3 H locs h hw => ?_)
      refine lv_iconst (v := 0) hx hb dX4_opened_26 (by decide) ?_
      exact ck_iret X hw h dX4_opened_27
  · have h := hB c1
    refine lv_iconst (v := 4) hx hb dX4_opened_8 (by decide) ?_
    exact ck_iret X hw h dX4_opened_9
set_option maxHeartbeats 4000000 in
set_option maxRecDepth 100000 in
theorem ct_X4_opened (l : Launch) (G : ck_G) (hC : ck_inC G) {a0 : Int32} {σ : ck_S} {post : Int32 → ck_S → Prop} (h : sp_X4_opened (ck_nc G) (ck_nb G) σ a0 post) : ck_Mi l yX4_opened wsX4_opened ({ frames := 2, cells := 0, slots := 0, locals := 42 } : Room) G σ [.ref (ck_ad G 5 0), .int a0, .ref (ck_ad G 2 0), .ref (ck_ad G 3 0)] post := by
  intro sz
  refine Met.ofW (cc := cX4_opened) (maxL := 4) (ret := (some .int)) (by decide) rfl ?_
  intro p e s m args below meth c s₁ B hml hv
  obtain ⟨rfl, rfl, hw⟩ := ck_enter hv
  have hl := lv_entry ([.ref (ck_ad G 5 0), .int a0, .ref (ck_ad G 2 0), .ref (ck_ad G 3 0)]) (n := 4) (Nat.le_of_ble_eq_true rfl)
  rw [lg_entry_eq]
  generalize (lg_sl ([.ref (ck_ad G 5 0), .int a0, .ref (ck_ad G 2 0), .ref (ck_ad G 3 0)]) ++ List.replicate (4 - (lg_sl ([.ref (ck_ad G 5 0), .int a0, .ref (ck_ad G 2 0), .ref (ck_ad G 3 0)])).length) Slot.unset).toArray = ls at hl ⊢
  have hl : lv_has ls 4 [(0, .ref (ck_ad G 5 0)), (1, .int a0), (2, .ref (ck_ad G 2 0)), (3, .ref (ck_ad G 3 0))] := hl
  exact wk_X4_opened_0 ⟨B.exec, B.bytes, B.returns, hml, findClass_of_methodNamed B.named, atoms_spec (ws := wsX4_opened) B.pre, B.notSynchronized⟩ hC h hw hl
def sp_X4_precharged_23 (nc nb : Nat) (post : Int32 → ck_S → Prop) (σ : ck_S) : Prop := ((30 ≤ (ck_gi σ 5 0 1) → (sp_X0_latch nc nb σ 7 (fun σ2 => post 4 σ2))) ∧ (¬ 30 ≤ (ck_gi σ 5 0 1) → (post 2 σ)))
def sp_X4_precharged (nc nb : Nat) (σ : ck_S) (a0 : Int32) (post : Int32 → ck_S → Prop) : Prop := sp_X5_allValid nc nb σ (fun x_2 σ1 => ((x_2 = 0 → (sp_X4_precharged_23 nc nb post σ1)) ∧ (¬ x_2 = 0 → ((((20 * a0) < (19 * (ck_gi σ1 2 0 2)) → (sp_X4_precharged_23 nc nb post σ1)) ∧ (¬ (20 * a0) < (19 * (ck_gi σ1 2 0 2)) → (post 3 σ1)))))))
set_option maxHeartbeats 4000000 in
set_option maxRecDepth 100000 in
theorem wk_X4_precharged_23 {p : Program} {l : Launch} {e : Env} {s : State} {m : MethodId} {args : Array Value} {below : List Frame} {meth : Method} {c : Code} {G : ck_G} (X : ck_X p s m meth c args cX4_precharged 4 (some .int) RX4 wsX4_precharged) (hC : ck_inC G) {post : Int32 → ck_S → Prop} {σ : ck_S} {H : Heap} {locs : List Loc} {ls : Array Slot} (h : sp_X4_precharged_23 (ck_nc G) (ck_nb G) post σ) (hw : ck_H G s H locs σ) (hl : lv_has ls 4 [(0, .ref (ck_ad G 5 0)), (3, .ref (ck_ad G 3 0))]) : W p l e ({ frames := 2, cells := 0, slots := 0, locals := 42 } : Room) s m args below meth c H locs 0 0 (MQ below (va_Qi post (ck_Q G) (ck_A G s.heap.size)) args s 0 0 (ck_A G s.heap.size)) (F0 m 23 ls []) := by
  obtain ⟨hx, hb, hr, hml, hown, hts, hlocks⟩ := id X
  have inX4 : ∀ w ∈ wsX40, w ∈ wsX4_precharged := fun _ h => List.mem_cons_of_mem _ (List.mem_append_left _ (List.mem_append_right _ (h)))
  have inX5 : ∀ w ∈ wsX50, w ∈ wsX4_precharged := fun _ h => List.mem_cons_of_mem _ (List.mem_append_left _ (List.mem_append_left _ (List.mem_append_right _ (h))))
  unfold sp_X4_precharged_23 at h
  refine lv_aload_n hx hb dX4_precharged_23 rfl (lv_at hl 0 rfl) ?_
  refine ck_get hx hb hts inX4 hown hw (hC.1 5 (by decide)) rfl rfl 1 (by decide) (hts _ (List.mem_of_getElem? (i := 2) rfl)) rfl dX4_precharged_24 ?_
  refine lv_bipush (v := 30) hx hb dX4_precharged_27 (by decide) ?_
  obtain ⟨hA, hB⟩ := h
  refine lv_icmp_ge (tgt := 34) hx hb dX4_precharged_29 (by decide) (fun c1 => ?_) (fun c1 => ?_)
  · have h := hA c1
    refine lv_aload_n hx hb dX4_precharged_34 rfl (lv_at hl 1 rfl) ?_
    refine lv_bipush (v := 7) hx hb dX4_precharged_35 (by decide) ?_
    refine ck_callVv (rest := []) ⟨hx, hb, hml, hown, hts⟩ hw (hC.1 3 (by decide)) rfl rfl (ct_X0_latch l G hC h) (cwV 1 hts gX4_precharged_X0_latch rfl rfl rfl (by decide +kernel) ⟨(Nat.le_of_ble_eq_true rfl), (Nat.le_of_ble_eq_true rfl)⟩) rfl hl.1 rfl (Nat.le_of_ble_eq_true rfl) dX4_precharged_37 ⟨(Nat.le_of_ble_eq_true rfl), (Nat.le_of_ble_eq_true rfl)⟩ (fun σ2 H locs h hw => ?_)
    refine lv_iconst (v := 4) hx hb dX4_precharged_40 (by decide) ?_
    exact ck_iret X hw h dX4_precharged_41
  · have h := hB c1
    refine lv_iconst (v := 2) hx hb dX4_precharged_32 (by decide) ?_
    exact ck_iret X hw h dX4_precharged_33
set_option maxHeartbeats 4000000 in
set_option maxRecDepth 100000 in
theorem wk_X4_precharged_0 {p : Program} {l : Launch} {e : Env} {s : State} {m : MethodId} {args : Array Value} {below : List Frame} {meth : Method} {c : Code} {G : ck_G} (X : ck_X p s m meth c args cX4_precharged 4 (some .int) RX4 wsX4_precharged) (hC : ck_inC G) {post : Int32 → ck_S → Prop} {σ : ck_S} {a0 : Int32} {H : Heap} {locs : List Loc} {ls : Array Slot} (h : sp_X4_precharged (ck_nc G) (ck_nb G) σ a0 post) (hw : ck_H G s H locs σ) (hl : lv_has ls 4 [(0, .ref (ck_ad G 5 0)), (1, .int a0), (2, .ref (ck_ad G 2 0)), (3, .ref (ck_ad G 3 0))]) : W p l e ({ frames := 2, cells := 0, slots := 0, locals := 42 } : Room) s m args below meth c H locs 0 0 (MQ below (va_Qi post (ck_Q G) (ck_A G s.heap.size)) args s 0 0 (ck_A G s.heap.size)) (F0 m 0 ls []) := by
  obtain ⟨hx, hb, hr, hml, hown, hts, hlocks⟩ := id X
  have inX4 : ∀ w ∈ wsX40, w ∈ wsX4_precharged := fun _ h => List.mem_cons_of_mem _ (List.mem_append_left _ (List.mem_append_right _ (h)))
  have inX5 : ∀ w ∈ wsX50, w ∈ wsX4_precharged := fun _ h => List.mem_cons_of_mem _ (List.mem_append_left _ (List.mem_append_left _ (List.mem_append_right _ (h))))
  unfold sp_X4_precharged at h
  refine lv_aload_n hx hb dX4_precharged_0 rfl (lv_at hl 2 rfl) ?_
  refine ck_callVi (rest := []) ⟨hx, hb, hml, hown, hts⟩ hw (hC.1 2 (by decide)) rfl rfl (ct_X5_allValid l G hC h) (cwV 0 hts gX4_precharged_X5_allValid rfl rfl rfl (by decide +kernel) ⟨(Nat.le_of_ble_eq_true rfl), (Nat.le_of_ble_eq_true rfl)⟩) rfl hl.1 rfl (Nat.le_of_ble_eq_true rfl) dX4_precharged_1 ⟨(Nat.le_of_ble_eq_true rfl), (Nat.le_of_ble_eq_true rfl)⟩ (fun x_2 σ1 H locs h hw => ?_)
  obtain ⟨hA, hB⟩ := h
  refine lv_if_eq (tgt := 23) hx hb dX4_precharged_4 (by decide) (fun c3 => ?_) (fun c3 => ?_)
  · have h := hA c3
    exact wk_X4_precharged_23 X hC h hw (lv_sub hl [0, 3] rfl)
  · have h := hB c3
    refine lv_bipush (v := 20) hx hb dX4_precharged_7 (by decide) ?_
    refine lv_iload_n hx hb dX4_precharged_9 rfl (lv_at hl 1 rfl) ?_
    refine lv_imul hx hb dX4_precharged_10 ?_
    refine lv_bipush (v := 19) hx hb dX4_precharged_11 (by decide) ?_
    refine lv_aload_n hx hb dX4_precharged_13 rfl (lv_at hl 2 rfl) ?_
    refine ck_get hx hb hts inX5 hown hw (hC.1 2 (by decide)) rfl rfl 2 (by decide) (hts _ (List.mem_of_getElem? (i := 1) rfl)) rfl dX4_precharged_14 ?_
    refine lv_imul hx hb dX4_precharged_17 ?_
    obtain ⟨hA, hB⟩ := h
    refine lv_icmp_lt (tgt := 23) hx hb dX4_precharged_18 (by decide) (fun c4 => ?_) (fun c4 => ?_)
    · have h := hA c4
      exact wk_X4_precharged_23 X hC h hw (lv_sub hl [0, 3] rfl)
    · have h := hB c4
      refine lv_iconst (v := 3) hx hb dX4_precharged_21 (by decide) ?_
      exact ck_iret X hw h dX4_precharged_22
set_option maxHeartbeats 4000000 in
set_option maxRecDepth 100000 in
theorem ct_X4_precharged (l : Launch) (G : ck_G) (hC : ck_inC G) {a0 : Int32} {σ : ck_S} {post : Int32 → ck_S → Prop} (h : sp_X4_precharged (ck_nc G) (ck_nb G) σ a0 post) : ck_Mi l yX4_precharged wsX4_precharged ({ frames := 2, cells := 0, slots := 0, locals := 42 } : Room) G σ [.ref (ck_ad G 5 0), .int a0, .ref (ck_ad G 2 0), .ref (ck_ad G 3 0)] post := by
  intro sz
  refine Met.ofW (cc := cX4_precharged) (maxL := 4) (ret := (some .int)) (by decide) rfl ?_
  intro p e s m args below meth c s₁ B hml hv
  obtain ⟨rfl, rfl, hw⟩ := ck_enter hv
  have hl := lv_entry ([.ref (ck_ad G 5 0), .int a0, .ref (ck_ad G 2 0), .ref (ck_ad G 3 0)]) (n := 4) (Nat.le_of_ble_eq_true rfl)
  rw [lg_entry_eq]
  generalize (lg_sl ([.ref (ck_ad G 5 0), .int a0, .ref (ck_ad G 2 0), .ref (ck_ad G 3 0)]) ++ List.replicate (4 - (lg_sl ([.ref (ck_ad G 5 0), .int a0, .ref (ck_ad G 2 0), .ref (ck_ad G 3 0)])).length) Slot.unset).toArray = ls at hl ⊢
  have hl : lv_has ls 4 [(0, .ref (ck_ad G 5 0)), (1, .int a0), (2, .ref (ck_ad G 2 0)), (3, .ref (ck_ad G 3 0))] := hl
  exact wk_X4_precharged_0 ⟨B.exec, B.bytes, B.returns, hml, findClass_of_methodNamed B.named, atoms_spec (ws := wsX4_precharged) B.pre, B.notSynchronized⟩ hC h hw hl
def sp_X4_step_133 (nc nb : Nat) (post : ck_S → Prop) (σ : ck_S) (x6 : Int32) : Prop := ((x6 = (ck_gi σ 5 0 0) → (post σ)) ∧ (¬ x6 = (ck_gi σ 5 0 0) → (∀ σ2, σ2 = ck_ui σ 5 0 0 x6 → ∀ σ3, σ3 = ck_ui σ2 5 0 1 0 → post σ3)))
def sp_X4_step_110 (nc nb : Nat) (post : ck_S → Prop) (σ : ck_S) (s0 : Int32) : Prop := sp_X4_step_133 nc nb post σ s0
def sp_X4_step_52 (nc nb : Nat) (post : ck_S → Prop) (σ : ck_S) (s0 : Int32) : Prop := sp_X4_step_133 nc nb post σ s0
def sp_X4_step_27 (nc nb : Nat) (post : ck_S → Prop) (σ : ck_S) (x2 : Int32) (s0 : Int32) : Prop := ∀ x_1, x_1 = (ck_gi σ 5 0 0) → ((¬ (ck_gi σ 5 0 0) = 0 → (((¬ (ck_gi σ 5 0 0) = 4 → (((¬ s0 = 0 → (((¬ (ck_gi σ 5 0 0) = 1 → (((¬ (ck_gi σ 5 0 0) = 2 → (sp_X4_step_133 nc nb post σ x_1)) ∧ ((ck_gi σ 5 0 0) = 2 → (sp_X4_precharged nc nb σ x2 (fun x_8 σ7 => sp_X4_step_133 nc nb post σ7 x_8)))))) ∧ ((ck_gi σ 5 0 0) = 1 → ((((ck_gi σ 5 0 1) < 2 → (sp_X4_step_110 nc nb post σ 1)) ∧ (¬ (ck_gi σ 5 0 1) < 2 → (sp_X4_step_110 nc nb post σ 2)))))))) ∧ (s0 = 0 → (sp_X4_step_133 nc nb post σ 4))))) ∧ ((ck_gi σ 5 0 0) = 4 → (sp_X4_opened nc nb σ x2 (fun x_11 σ10 => sp_X4_step_133 nc nb post σ10 x_11)))))) ∧ ((ck_gi σ 5 0 0) = 0 → (((s0 = 0 → (sp_X4_step_52 nc nb post σ 0)) ∧ (¬ s0 = 0 → (sp_X4_step_52 nc nb post σ 1))))))
def sp_X4_step_26 (nc nb : Nat) (post : ck_S → Prop) (σ : ck_S) (x2 : Int32) : Prop := sp_X4_step_27 nc nb post σ x2 0
def sp_X4_step (nc nb : Nat) (σ : ck_S) (a0 : Int32) (a1 : Int32) (post : ck_S → Prop) : Prop := ∀ σ1, σ1 = ck_ui σ 5 0 1 ((ck_gi σ 5 0 1) + 1) → ((a0 = 0 → (sp_X4_step_26 nc nb post σ1 a1)) ∧ (¬ a0 = 0 → (sp_X0_anySerious nc nb σ1 (fun x_4 σ3 => ((¬ x_4 = 0 → (sp_X4_step_26 nc nb post σ3 a1)) ∧ (x_4 = 0 → (sp_X4_step_27 nc nb post σ3 a1 1)))))))
set_option maxHeartbeats 4000000 in
set_option maxRecDepth 100000 in
theorem wk_X4_step_133 {p : Program} {l : Launch} {e : Env} {s : State} {m : MethodId} {args : Array Value} {below : List Frame} {meth : Method} {c : Code} {G : ck_G} (X : ck_X p s m meth c args cX4_step 7 none RX4 wsX4_step) (hC : ck_inC G) {post : ck_S → Prop} {σ : ck_S} {x6 : Int32} {H : Heap} {locs : List Loc} {ls : Array Slot} (h : sp_X4_step_133 (ck_nc G) (ck_nb G) post σ x6) (hw : ck_H G s H locs σ) (hl : lv_has ls 7 [(0, .ref (ck_ad G 5 0)), (6, .int x6)]) : W p l e ({ frames := 3, cells := 0, slots := 0, locals := 65 } : Room) s m args below meth c H locs 0 0 (MQ below (va_Qv post (ck_Q G) (ck_A G s.heap.size)) args s 0 0 (ck_A G s.heap.size)) (F0 m 133 ls []) := by
  obtain ⟨hx, hb, hr, hml, hown, hts, hlocks⟩ := id X
  have inX4 : ∀ w ∈ wsX40, w ∈ wsX4_step := fun _ h => List.mem_cons_of_mem _ (List.mem_append_left _ (List.mem_append_left _ (List.mem_append_right _ (h))))
  unfold sp_X4_step_133 at h
  refine lv_iload hx hb dX4_step_133 (lv_at hl 1 rfl) ?_
  refine lv_aload_n hx hb dX4_step_135 rfl (lv_at hl 0 rfl) ?_
  refine ck_get hx hb hts inX4 hown hw (hC.1 5 (by decide)) rfl rfl 0 (by decide) (hts _ (List.mem_of_getElem? (i := 2) rfl)) rfl dX4_step_136 ?_
  obtain ⟨hA, hB⟩ := h
  refine lv_icmp_eq (tgt := 153) hx hb dX4_step_139 (by decide) (fun c1 => ?_) (fun c1 => ?_)
  · have h := hA c1
    exact ck_vret X hw h dX4_step_153
  · have h := hB c1
    refine lv_aload_n hx hb dX4_step_142 rfl (lv_at hl 0 rfl) ?_
    refine lv_iload hx hb dX4_step_143 (lv_at hl 1 rfl) ?_
    refine ck_puti hx hb hts inX4 tyX4 tyX4_ok nmX4 hown hw (hC.1 5 (by decide)) rfl rfl 0 (by decide) (hts _ (List.mem_of_getElem? (i := 2) rfl)) rfl rfl rfl (Nat.le_of_ble_eq_true rfl) rfl dX4_step_145 (fun H locs hw => ?_)
    obtain ⟨σ2, eσ2⟩ : ∃ z : ck_S, z = ck_ui σ 5 0 0 x6 := ⟨_, rfl⟩
    rw [← eσ2] at hw
    have h := h σ2 eσ2
    refine lv_aload_n hx hb dX4_step_148 rfl (lv_at hl 0 rfl) ?_
    refine lv_iconst (v := 0) hx hb dX4_step_149 (by decide) ?_
    refine ck_puti hx hb hts inX4 tyX4 tyX4_ok nmX4 hown hw (hC.1 5 (by decide)) rfl rfl 1 (by decide) (hts _ (List.mem_of_getElem? (i := 1) rfl)) rfl rfl rfl (Nat.le_of_ble_eq_true rfl) rfl dX4_step_150 (fun H locs hw => ?_)
    obtain ⟨σ3, eσ3⟩ : ∃ z : ck_S, z = ck_ui σ2 5 0 1 0 := ⟨_, rfl⟩
    rw [← eσ3] at hw
    have h := h σ3 eσ3
    exact ck_vret X hw h dX4_step_153
set_option maxHeartbeats 4000000 in
set_option maxRecDepth 100000 in
theorem wk_X4_step_110 {p : Program} {l : Launch} {e : Env} {s : State} {m : MethodId} {args : Array Value} {below : List Frame} {meth : Method} {c : Code} {G : ck_G} (X : ck_X p s m meth c args cX4_step 7 none RX4 wsX4_step) (hC : ck_inC G) {post : ck_S → Prop} {σ : ck_S} {s0 : Int32} {H : Heap} {locs : List Loc} {ls : Array Slot} (h : sp_X4_step_110 (ck_nc G) (ck_nb G) post σ s0) (hw : ck_H G s H locs σ) (hl : lv_has ls 7 [(0, .ref (ck_ad G 5 0))]) : W p l e ({ frames := 3, cells := 0, slots := 0, locals := 65 } : Room) s m args below meth c H locs 0 0 (MQ below (va_Qv post (ck_Q G) (ck_A G s.heap.size)) args s 0 0 (ck_A G s.heap.size)) (F0 m 110 ls [.int s0]) := by
  obtain ⟨hx, hb, hr, hml, hown, hts, hlocks⟩ := id X
  have inX4 : ∀ w ∈ wsX40, w ∈ wsX4_step := fun _ h => List.mem_cons_of_mem _ (List.mem_append_left _ (List.mem_append_left _ (List.mem_append_right _ (h))))
  unfold sp_X4_step_110 at h
  refine lv_istore (lv' := [(6, .int s0), (0, .ref (ck_ad G 5 0))]) hx hb dX4_step_110 hl (by decide) rfl (fun ls hl => ?_)
  refine lv_goto (tgt := 133) hx hb dX4_step_112 (by decide) ?_
  exact wk_X4_step_133 X hC h hw (lv_sub hl [1, 0] rfl)
set_option maxHeartbeats 4000000 in
set_option maxRecDepth 100000 in
theorem wk_X4_step_52 {p : Program} {l : Launch} {e : Env} {s : State} {m : MethodId} {args : Array Value} {below : List Frame} {meth : Method} {c : Code} {G : ck_G} (X : ck_X p s m meth c args cX4_step 7 none RX4 wsX4_step) (hC : ck_inC G) {post : ck_S → Prop} {σ : ck_S} {s0 : Int32} {H : Heap} {locs : List Loc} {ls : Array Slot} (h : sp_X4_step_52 (ck_nc G) (ck_nb G) post σ s0) (hw : ck_H G s H locs σ) (hl : lv_has ls 7 [(0, .ref (ck_ad G 5 0))]) : W p l e ({ frames := 3, cells := 0, slots := 0, locals := 65 } : Room) s m args below meth c H locs 0 0 (MQ below (va_Qv post (ck_Q G) (ck_A G s.heap.size)) args s 0 0 (ck_A G s.heap.size)) (F0 m 52 ls [.int s0]) := by
  obtain ⟨hx, hb, hr, hml, hown, hts, hlocks⟩ := id X
  have inX4 : ∀ w ∈ wsX40, w ∈ wsX4_step := fun _ h => List.mem_cons_of_mem _ (List.mem_append_left _ (List.mem_append_left _ (List.mem_append_right _ (h))))
  unfold sp_X4_step_52 at h
  refine lv_istore (lv' := [(6, .int s0), (0, .ref (ck_ad G 5 0))]) hx hb dX4_step_52 hl (by decide) rfl (fun ls hl => ?_)
  refine lv_goto (tgt := 133) hx hb dX4_step_54 (by decide) ?_
  exact wk_X4_step_133 X hC h hw (lv_sub hl [1, 0] rfl)
set_option maxHeartbeats 4000000 in
set_option maxRecDepth 100000 in
theorem wk_X4_step_27 {p : Program} {l : Launch} {e : Env} {s : State} {m : MethodId} {args : Array Value} {below : List Frame} {meth : Method} {c : Code} {G : ck_G} (X : ck_X p s m meth c args cX4_step 7 none RX4 wsX4_step) (hC : ck_inC G) {post : ck_S → Prop} {σ : ck_S} {x2 : Int32} {s0 : Int32} {H : Heap} {locs : List Loc} {ls : Array Slot} (h : sp_X4_step_27 (ck_nc G) (ck_nb G) post σ x2 s0) (hw : ck_H G s H locs σ) (hl : lv_has ls 7 [(0, .ref (ck_ad G 5 0)), (2, .int x2), (3, .ref (ck_ad G 2 0)), (4, .ref (ck_ad G 3 0))]) : W p l e ({ frames := 3, cells := 0, slots := 0, locals := 65 } : Room) s m args below meth c H locs 0 0 (MQ below (va_Qv post (ck_Q G) (ck_A G s.heap.size)) args s 0 0 (ck_A G s.heap.size)) (F0 m 27 ls [.int s0]) := by
  obtain ⟨hx, hb, hr, hml, hown, hts, hlocks⟩ := id X
  have inX4 : ∀ w ∈ wsX40, w ∈ wsX4_step := fun _ h => List.mem_cons_of_mem _ (List.mem_append_left _ (List.mem_append_left _ (List.mem_append_right _ (h))))
  unfold sp_X4_step_27 at h
  refine lv_istore (lv' := [(5, .int s0), (0, .ref (ck_ad G 5 0)), (2, .int x2), (3, .ref (ck_ad G 2 0)), (4, .ref (ck_ad G 3 0))]) hx hb dX4_step_27 hl (by decide) rfl (fun ls hl => ?_)
  refine lv_aload_n hx hb dX4_step_29 rfl (lv_at hl 1 rfl) ?_
  refine ck_get hx hb hts inX4 hown hw (hC.1 5 (by decide)) rfl rfl 0 (by decide) (hts _ (List.mem_of_getElem? (i := 2) rfl)) rfl dX4_step_30 ?_
  refine lv_topi (fun x_1 ex_1 => ?_)
  have h := h x_1 ex_1
  refine lv_istore (lv' := [(6, .int x_1), (5, .int s0), (0, .ref (ck_ad G 5 0)), (2, .int x2), (3, .ref (ck_ad G 2 0)), (4, .ref (ck_ad G 3 0))]) hx hb dX4_step_33 hl (by decide) rfl (fun ls hl => ?_)
  refine lv_aload_n hx hb dX4_step_35 rfl (lv_at hl 2 rfl) ?_
  refine ck_get hx hb hts inX4 hown hw (hC.1 5 (by decide)) rfl rfl 0 (by decide) (hts _ (List.mem_of_getElem? (i := 2) rfl)) rfl dX4_step_36 ?_
  obtain ⟨hA, hB⟩ := h
  refine lv_if_ne (tgt := 57) hx hb dX4_step_39 (by decide) (fun c2 => ?_) (fun c2 => ?_)
  · have h := hA c2
    refine lv_aload_n hx hb dX4_step_57 rfl (lv_at hl 2 rfl) ?_
    refine ck_get hx hb hts inX4 hown hw (hC.1 5 (by decide)) rfl rfl 0 (by decide) (hts _ (List.mem_of_getElem? (i := 2) rfl)) rfl dX4_step_58 ?_
    refine lv_iconst (v := 4) hx hb dX4_step_61 (by decide) ?_
    obtain ⟨hA, hB⟩ := h
    refine lv_icmp_ne (tgt := 78) hx hb dX4_step_62 (by decide) (fun c3 => ?_) (fun c3 => ?_)
    · have h := hA c3
      refine lv_iload hx hb dX4_step_78 (lv_at hl 1 rfl) ?_
      obtain ⟨hA, hB⟩ := h
      refine lv_if_ne (tgt := 89) hx hb dX4_step_80 (by decide) (fun c4 => ?_) (fun c4 => ?_)
      · have h := hA c4
        refine lv_aload_n hx hb dX4_step_89 rfl (lv_at hl 2 rfl) ?_
        refine ck_get hx hb hts inX4 hown hw (hC.1 5 (by decide)) rfl rfl 0 (by decide) (hts _ (List.mem_of_getElem? (i := 2) rfl)) rfl dX4_step_90 ?_
        refine lv_iconst (v := 1) hx hb dX4_step_93 (by decide) ?_
        obtain ⟨hA, hB⟩ := h
        refine lv_icmp_ne (tgt := 115) hx hb dX4_step_94 (by decide) (fun c5 => ?_) (fun c5 => ?_)
        · have h := hA c5
          refine lv_aload_n hx hb dX4_step_115 rfl (lv_at hl 2 rfl) ?_
          refine ck_get hx hb hts inX4 hown hw (hC.1 5 (by decide)) rfl rfl 0 (by decide) (hts _ (List.mem_of_getElem? (i := 2) rfl)) rfl dX4_step_116 ?_
          refine lv_iconst (v := 2) hx hb dX4_step_119 (by decide) ?_
          obtain ⟨hA, hB⟩ := h
          refine lv_icmp_ne (tgt := 133) hx hb dX4_step_120 (by decide) (fun c6 => ?_) (fun c6 => ?_)
          · have h := hA c6
            exact wk_X4_step_133 X hC h hw (lv_sub hl [2, 0] rfl)
          · have h := hB c6
            refine lv_aload_n hx hb dX4_step_123 rfl (lv_at hl 2 rfl) ?_
            refine lv_iload_n hx hb dX4_step_124 rfl (lv_at hl 3 rfl) ?_
            refine lv_aload_n hx hb dX4_step_125 rfl (lv_at hl 4 rfl) ?_
            refine lv_aload hx hb dX4_step_126 (lv_at hl 5 rfl) ?_
            refine ck_callVi (rest := []) ⟨hx, hb, hml, hown, hts⟩ hw (hC.1 5 (by decide)) rfl rfl (ct_X4_precharged l G hC h) (cwV 3 hts gX4_step_X4_precharged rfl rfl rfl (by decide +kernel) ⟨(Nat.le_of_ble_eq_true rfl), (Nat.le_of_ble_eq_true rfl)⟩) rfl hl.1 rfl (Nat.le_of_ble_eq_true rfl) dX4_step_128 ⟨(Nat.le_of_ble_eq_true rfl), (Nat.le_of_ble_eq_true rfl)⟩ (fun x_8 σ7 H locs h hw => ?_)
            refine lv_istore (lv' := [(6, .int x_8), (5, .int s0), (0, .ref (ck_ad G 5 0)), (2, .int x2), (3, .ref (ck_ad G 2 0)), (4, .ref (ck_ad G 3 0))]) hx hb dX4_step_131 hl (by decide) rfl (fun ls hl => ?_)
            exact wk_X4_step_133 X hC h hw (lv_sub hl [2, 0] rfl)
        · have h := hB c5
          refine lv_aload_n hx hb dX4_step_97 rfl (lv_at hl 2 rfl) ?_
          refine ck_get hx hb hts inX4 hown hw (hC.1 5 (by decide)) rfl rfl 1 (by decide) (hts _ (List.mem_of_getElem? (i := 1) rfl)) rfl dX4_step_98 ?_
          refine lv_iconst (v := 2) hx hb dX4_step_101 (by decide) ?_
          obtain ⟨hA, hB⟩ := h
          refine lv_icmp_lt (tgt := 109) hx hb dX4_step_102 (by decide) (fun c9 => ?_) (fun c9 => ?_)
          · have h := hA c9
            refine lv_iconst (v := 1) hx hb dX4_step_109 (by decide) ?_
            exact wk_X4_step_110 X hC h hw (lv_sub hl [2] rfl)
          · have h := hB c9
            refine lv_iconst (v := 2) hx hb dX4_step_105 (by decide) ?_
            refine lv_goto (tgt := 110) hx hb dX4_step_106 (by decide) ?_
            exact wk_X4_step_110 X hC h hw (lv_sub hl [2] rfl)
      · have h := hB c4
        refine lv_iconst (v := 4) hx hb dX4_step_83 (by decide) ?_
        refine lv_istore (lv' := [(6, .int 4), (5, .int s0), (0, .ref (ck_ad G 5 0)), (2, .int x2), (3, .ref (ck_ad G 2 0)), (4, .ref (ck_ad G 3 0))]) hx hb dX4_step_84 hl (by decide) rfl (fun ls hl => ?_)
        refine lv_goto (tgt := 133) hx hb dX4_step_86 (by decide) ?_
        exact wk_X4_step_133 X hC h hw (lv_sub hl [2, 0] rfl)
    · have h := hB c3
      refine lv_aload_n hx hb dX4_step_65 rfl (lv_at hl 2 rfl) ?_
      refine lv_iload_n hx hb dX4_step_66 rfl (lv_at hl 3 rfl) ?_
      refine lv_aload_n hx hb dX4_step_67 rfl (lv_at hl 4 rfl) ?_
      refine lv_aload hx hb dX4_step_68 (lv_at hl 5 rfl) ?_
      refine ck_callVi (rest := []) ⟨hx, hb, hml, hown, hts⟩ hw (hC.1 5 (by decide)) rfl rfl (ct_X4_opened l G hC h) (cwV 3 hts gX4_step_X4_opened rfl rfl rfl (by decide +kernel) ⟨(Nat.le_of_ble_eq_true rfl), (Nat.le_of_ble_eq_true rfl)⟩) rfl hl.1 rfl (Nat.le_of_ble_eq_true rfl) dX4_step_70 ⟨(Nat.le_of_ble_eq_true rfl), (Nat.le_of_ble_eq_true rfl)⟩ (fun x_11 σ10 H locs h hw => ?_)
      refine lv_istore (lv' := [(6, .int x_11), (5, .int s0), (0, .ref (ck_ad G 5 0)), (2, .int x2), (3, .ref (ck_ad G 2 0)), (4, .ref (ck_ad G 3 0))]) hx hb dX4_step_73 hl (by decide) rfl (fun ls hl => ?_)
      refine lv_goto (tgt := 133) hx hb dX4_step_75 (by decide) ?_
      exact wk_X4_step_133 X hC h hw (lv_sub hl [2, 0] rfl)
  · have h := hB c2
    refine lv_iload hx hb dX4_step_42 (lv_at hl 1 rfl) ?_
    obtain ⟨hA, hB⟩ := h
    refine lv_if_eq (tgt := 51) hx hb dX4_step_44 (by decide) (fun c12 => ?_) (fun c12 => ?_)
    · have h := hA c12
      refine lv_iconst (v := 0) hx hb dX4_step_51 (by decide) ?_
      exact wk_X4_step_52 X hC h hw (lv_sub hl [2] rfl)
    · have h := hB c12
      refine lv_iconst (v := 1) hx hb dX4_step_47 (by decide) ?_
      refine lv_goto (tgt := 52) hx hb dX4_step_48 (by decide) ?_
      exact wk_X4_step_52 X hC h hw (lv_sub hl [2] rfl)
set_option maxHeartbeats 4000000 in
set_option maxRecDepth 100000 in
theorem wk_X4_step_26 {p : Program} {l : Launch} {e : Env} {s : State} {m : MethodId} {args : Array Value} {below : List Frame} {meth : Method} {c : Code} {G : ck_G} (X : ck_X p s m meth c args cX4_step 7 none RX4 wsX4_step) (hC : ck_inC G) {post : ck_S → Prop} {σ : ck_S} {x2 : Int32} {H : Heap} {locs : List Loc} {ls : Array Slot} (h : sp_X4_step_26 (ck_nc G) (ck_nb G) post σ x2) (hw : ck_H G s H locs σ) (hl : lv_has ls 7 [(0, .ref (ck_ad G 5 0)), (2, .int x2), (3, .ref (ck_ad G 2 0)), (4, .ref (ck_ad G 3 0))]) : W p l e ({ frames := 3, cells := 0, slots := 0, locals := 65 } : Room) s m args below meth c H locs 0 0 (MQ below (va_Qv post (ck_Q G) (ck_A G s.heap.size)) args s 0 0 (ck_A G s.heap.size)) (F0 m 26 ls []) := by
  obtain ⟨hx, hb, hr, hml, hown, hts, hlocks⟩ := id X
  have inX4 : ∀ w ∈ wsX40, w ∈ wsX4_step := fun _ h => List.mem_cons_of_mem _ (List.mem_append_left _ (List.mem_append_left _ (List.mem_append_right _ (h))))
  unfold sp_X4_step_26 at h
  refine lv_iconst (v := 0) hx hb dX4_step_26 (by decide) ?_
  exact wk_X4_step_27 X hC h hw (lv_sub hl [0, 1, 2, 3] rfl)
set_option maxHeartbeats 4000000 in
set_option maxRecDepth 100000 in
theorem wk_X4_step_0 {p : Program} {l : Launch} {e : Env} {s : State} {m : MethodId} {args : Array Value} {below : List Frame} {meth : Method} {c : Code} {G : ck_G} (X : ck_X p s m meth c args cX4_step 7 none RX4 wsX4_step) (hC : ck_inC G) {post : ck_S → Prop} {σ : ck_S} {a0 : Int32} {a1 : Int32} {H : Heap} {locs : List Loc} {ls : Array Slot} (h : sp_X4_step (ck_nc G) (ck_nb G) σ a0 a1 post) (hw : ck_H G s H locs σ) (hl : lv_has ls 7 [(0, .ref (ck_ad G 5 0)), (1, .int a0), (2, .int a1), (3, .ref (ck_ad G 2 0)), (4, .ref (ck_ad G 3 0))]) : W p l e ({ frames := 3, cells := 0, slots := 0, locals := 65 } : Room) s m args below meth c H locs 0 0 (MQ below (va_Qv post (ck_Q G) (ck_A G s.heap.size)) args s 0 0 (ck_A G s.heap.size)) (F0 m 0 ls []) := by
  obtain ⟨hx, hb, hr, hml, hown, hts, hlocks⟩ := id X
  have inX4 : ∀ w ∈ wsX40, w ∈ wsX4_step := fun _ h => List.mem_cons_of_mem _ (List.mem_append_left _ (List.mem_append_left _ (List.mem_append_right _ (h))))
  unfold sp_X4_step at h
  refine lv_aload_n hx hb dX4_step_0 rfl (lv_at hl 0 rfl) ?_
  refine lv_dup hx hb dX4_step_1 rfl ?_
  refine ck_get hx hb hts inX4 hown hw (hC.1 5 (by decide)) rfl rfl 1 (by decide) (hts _ (List.mem_of_getElem? (i := 1) rfl)) rfl dX4_step_2 ?_
  refine lv_iconst (v := 1) hx hb dX4_step_5 (by decide) ?_
  refine lv_iadd hx hb dX4_step_6 ?_
  refine ck_puti hx hb hts inX4 tyX4 tyX4_ok nmX4 hown hw (hC.1 5 (by decide)) rfl rfl 1 (by decide) (hts _ (List.mem_of_getElem? (i := 1) rfl)) rfl rfl rfl (Nat.le_of_ble_eq_true rfl) rfl dX4_step_7 (fun H locs hw => ?_)
  obtain ⟨σ1, eσ1⟩ : ∃ z : ck_S, z = ck_ui σ 5 0 1 ((ck_gi σ 5 0 1) + 1) := ⟨_, rfl⟩
  rw [← eσ1] at hw
  have h := h σ1 eσ1
  refine lv_iload_n hx hb dX4_step_10 rfl (lv_at hl 1 rfl) ?_
  obtain ⟨hA, hB⟩ := h
  refine lv_if_eq (tgt := 26) hx hb dX4_step_11 (by decide) (fun c2 => ?_) (fun c2 => ?_)
  · have h := hA c2
    exact wk_X4_step_26 X hC h hw (lv_sub hl [0, 2, 3, 4] rfl)
  · have h := hB c2
    refine lv_aload hx hb dX4_step_14 (lv_at hl 4 rfl) ?_
    refine ck_callVi (rest := []) ⟨hx, hb, hml, hown, hts⟩ hw (hC.1 3 (by decide)) rfl rfl (ct_X0_anySerious l G hC h) (cwV 0 hts gX4_step_X0_anySerious rfl rfl rfl (by decide +kernel) ⟨(Nat.le_of_ble_eq_true rfl), (Nat.le_of_ble_eq_true rfl)⟩) rfl hl.1 rfl (Nat.le_of_ble_eq_true rfl) dX4_step_16 ⟨(Nat.le_of_ble_eq_true rfl), (Nat.le_of_ble_eq_true rfl)⟩ (fun x_4 σ3 H locs h hw => ?_)
    obtain ⟨hA, hB⟩ := h
    refine lv_if_ne (tgt := 26) hx hb dX4_step_19 (by decide) (fun c5 => ?_) (fun c5 => ?_)
    · have h := hA c5
      exact wk_X4_step_26 X hC h hw (lv_sub hl [0, 2, 3, 4] rfl)
    · have h := hB c5
      refine lv_iconst (v := 1) hx hb dX4_step_22 (by decide) ?_
      refine lv_goto (tgt := 27) hx hb dX4_step_23 (by decide) ?_
      exact wk_X4_step_27 X hC h hw (lv_sub hl [0, 2, 3, 4] rfl)
set_option maxHeartbeats 4000000 in
set_option maxRecDepth 100000 in
theorem ct_X4_step (l : Launch) (G : ck_G) (hC : ck_inC G) {a0 : Int32} {a1 : Int32} {σ : ck_S} {post : ck_S → Prop} (h : sp_X4_step (ck_nc G) (ck_nb G) σ a0 a1 post) : ck_Mv l yX4_step wsX4_step ({ frames := 3, cells := 0, slots := 0, locals := 65 } : Room) G σ [.ref (ck_ad G 5 0), .int a0, .int a1, .ref (ck_ad G 2 0), .ref (ck_ad G 3 0)] post := by
  intro sz
  refine Met.ofW (cc := cX4_step) (maxL := 7) (ret := none) (by decide) rfl ?_
  intro p e s m args below meth c s₁ B hml hv
  obtain ⟨rfl, rfl, hw⟩ := ck_enter hv
  have hl := lv_entry ([.ref (ck_ad G 5 0), .int a0, .int a1, .ref (ck_ad G 2 0), .ref (ck_ad G 3 0)]) (n := 7) (Nat.le_of_ble_eq_true rfl)
  rw [lg_entry_eq]
  generalize (lg_sl ([.ref (ck_ad G 5 0), .int a0, .int a1, .ref (ck_ad G 2 0), .ref (ck_ad G 3 0)]) ++ List.replicate (7 - (lg_sl ([.ref (ck_ad G 5 0), .int a0, .int a1, .ref (ck_ad G 2 0), .ref (ck_ad G 3 0)])).length) Slot.unset).toArray = ls at hl ⊢
  have hl : lv_has ls 7 [(0, .ref (ck_ad G 5 0)), (1, .int a0), (2, .int a1), (3, .ref (ck_ad G 2 0)), (4, .ref (ck_ad G 3 0))] := hl
  exact wk_X4_step_0 ⟨B.exec, B.bytes, B.returns, hml, findClass_of_methodNamed B.named, atoms_spec (ws := wsX4_step) B.pre, B.notSynchronized⟩ hC h hw hl
