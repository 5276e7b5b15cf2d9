def sp_X7_reset_85 (nc nb : Nat) (post : Int32 → ck_S → Prop) (σ : ck_S) (x1 : Int32) (s0 : Int32) : Prop := ((s0 = 0 → (∀ σ2, σ2 = ck_ui σ 10 0 26 (ck_gi σ 10 0 26) → (ck_b s0 ∧ post s0 σ2))) ∧ (¬ s0 = 0 → (∀ σ3, σ3 = ck_ui σ 10 0 26 ((ck_gi σ 10 0 26) &&& ((1 <<< (x1 &&& 31)) ^^^ (-1))) → (ck_b s0 ∧ post s0 σ3))))
def sp_X7_reset_27 (nc nb : Nat) (post : Int32 → ck_S → Prop) (σ : ck_S) (x1 : Int32) (s0 : Int32) : Prop := ∀ σ1, σ1 = ck_ui σ 10 0 0 s0 → ((0 < (ck_gi σ1 10 0 0) → ((ck_b 0 ∧ post 0 σ1))) ∧ (¬ 0 < (ck_gi σ1 10 0 0) → (((¬ (((ck_gi σ1 10 0 26) >>> (x1 &&& 31)) &&& 1) = 0 → (((x1 ≤ 6 → ((vp_in x1 7) ∧ ((¬ (ck_gi σ1 19 0 (Int32.toNatClampNeg x1)) = 0 → (sp_X7_reset_85 nc nb post σ1 x1 0)) ∧ ((ck_gi σ1 19 0 (Int32.toNatClampNeg x1)) = 0 → (sp_X7_reset_85 nc nb post σ1 x1 1))))) ∧ (¬ x1 ≤ 6 → (((¬ (ck_gi σ1 10 0 28) = 0 → (sp_X7_reset_85 nc nb post σ1 x1 0)) ∧ ((ck_gi σ1 10 0 28) = 0 → (sp_X7_reset_85 nc nb post σ1 x1 1)))))))) ∧ ((((ck_gi σ1 10 0 26) >>> (x1 &&& 31)) &&& 1) = 0 → ((ck_b 0 ∧ post 0 σ1)))))))
def sp_X7_reset_11 (nc nb : Nat) (post : Int32 → ck_S → Prop) (σ : ck_S) (x1 : Int32) : Prop := sp_X7_reset_27 nc nb post σ x1 1
def sp_X7_reset (nc nb : Nat) (σ : ck_S) (a0 : Int32) (post : Int32 → ck_S → Prop) : Prop := ((a0 < 0 → (sp_X7_reset_11 nc nb post σ a0)) ∧ (¬ a0 < 0 → (((a0 ≤ 8 → ((((ck_gi σ 10 0 9) = 0 → (sp_X7_reset_27 nc nb post σ a0 0)) ∧ (¬ (ck_gi σ 10 0 9) = 0 → (sp_X7_reset_27 nc nb post σ a0 2))))) ∧ (¬ a0 ≤ 8 → (sp_X7_reset_11 nc nb post σ a0))))))
set_option maxHeartbeats 4000000 in
set_option maxRecDepth 100000 in
theorem wk_X7_reset_85 {p : Program} {l : Launch} {e : Env} {s : State} {m : MethodId} {args : Array Value} {below : List Frame} {meth : Method} {c : Code} {G : ck_G} (X : ck_X p s m meth c args cX7_reset 3 (some .boolean) RX7 wsX7_reset) (hM : ck_inM G) {post : Int32 → ck_S → Prop} {σ : ck_S} {x1 : Int32} {s0 : Int32} {H : Heap} {locs : List Loc} {ls : Array Slot} (h : sp_X7_reset_85 (ck_nc G) (ck_nb G) post σ x1 s0) (hw : ck_H G s H locs σ) (hl : lv_has ls 3 [(0, .ref (ck_ad G 10 0)), (1, .int x1)]) : W p l e ({ frames := 0, cells := 0, slots := 0, locals := 0 } : Room) s m args below meth c H locs 0 0 (MQ below (va_Qi post (ck_Q G) (ck_A G s.heap.size)) args s 0 0 (ck_A G s.heap.size)) (F0 m 85 ls [.int s0]) := by
  obtain ⟨hx, hb, hr, hml, hown, hts, hlocks⟩ := id X
  have inX7 : ∀ w ∈ wsX70, w ∈ wsX7_reset := fun _ h => List.mem_cons_of_mem _ (List.mem_append_right _ (h))
  unfold sp_X7_reset_85 at h
  refine lv_istore_n (lv' := [(2, .int s0), (0, .ref (ck_ad G 10 0)), (1, .int x1)]) hx hb dX7_reset_85 rfl hl (by decide) rfl (fun ls hl => ?_)
  refine lv_aload_n hx hb dX7_reset_86 rfl (lv_at hl 1 rfl) ?_
  refine lv_iload_n hx hb dX7_reset_87 rfl (lv_at hl 0 rfl) ?_
  obtain ⟨hA, hB⟩ := h
  refine lv_if_eq (tgt := 104) hx hb dX7_reset_88 (by decide) (fun c1 => ?_) (fun c1 => ?_)
  · have h := hA c1
    refine lv_aload_n hx hb dX7_reset_104 rfl (lv_at hl 1 rfl) ?_
    refine ck_get hx hb hts inX7 hown hw (hM 10 (by decide) (by decide)) rfl rfl 26 (by decide) (hts _ (List.mem_of_getElem? (i := 3) rfl)) rfl dX7_reset_105 ?_
    refine ck_puti hx hb hts inX7 tyX7 tyX7_ok nmX7 hown hw (hM 10 (by decide) (by decide)) rfl rfl 26 (by decide) (hts _ (List.mem_of_getElem? (i := 3) rfl)) rfl rfl rfl (Nat.le_of_ble_eq_true rfl) rfl dX7_reset_108 (fun H locs hw => ?_)
    obtain ⟨σ2, eσ2⟩ : ∃ z : ck_S, z = ck_ui σ 10 0 26 (ck_gi σ 10 0 26) := ⟨_, rfl⟩
    rw [← eσ2] at hw
    have h := h σ2 eσ2
    refine lv_iload_n hx hb dX7_reset_111 rfl (lv_at hl 0 rfl) ?_
    exact ck_zret X hw h dX7_reset_112
  · have h := hB c1
    refine lv_aload_n hx hb dX7_reset_91 rfl (lv_at hl 1 rfl) ?_
    refine ck_get hx hb hts inX7 hown hw (hM 10 (by decide) (by decide)) rfl rfl 26 (by decide) (hts _ (List.mem_of_getElem? (i := 3) rfl)) rfl dX7_reset_92 ?_
    refine lv_iconst (v := 1) hx hb dX7_reset_95 (by decide) ?_
    refine lv_iload_n hx hb dX7_reset_96 rfl (lv_at hl 2 rfl) ?_
    refine lv_ishl hx hb dX7_reset_97 ?_
    refine lv_iconst (v := (-1)) hx hb dX7_reset_98 (by decide) ?_
    refine lv_ixor hx hb dX7_reset_99 ?_
    refine lv_iand hx hb dX7_reset_100 ?_
    refine lv_goto (tgt := 108) hx hb dX7_reset_101 (by decide) ?_
    refine ck_puti hx hb hts inX7 tyX7 tyX7_ok nmX7 hown hw (hM 10 (by decide) (by decide)) rfl rfl 26 (by decide) (hts _ (List.mem_of_getElem? (i := 3) rfl)) rfl rfl rfl (Nat.le_of_ble_eq_true rfl) rfl dX7_reset_108 (fun H locs hw => ?_)
    obtain ⟨σ3, eσ3⟩ : ∃ z : ck_S, z = ck_ui σ 10 0 26 ((ck_gi σ 10 0 26) &&& ((1 <<< (x1 &&& 31)) ^^^ (-1))) := ⟨_, rfl⟩
    rw [← eσ3] at hw
    have h := h σ3 eσ3
    refine lv_iload_n hx hb dX7_reset_111 rfl (lv_at hl 0 rfl) ?_
    exact ck_zret X hw h dX7_reset_112
set_option maxHeartbeats 4000000 in
set_option maxRecDepth 100000 in
theorem wk_X7_reset_27 {p : Program} {l : Launch} {e : Env} {s : State} {m : MethodId} {args : Array Value} {below : List Frame} {meth : Method} {c : Code} {G : ck_G} (X : ck_X p s m meth c args cX7_reset 3 (some .boolean) RX7 wsX7_reset) (hM : ck_inM G) {post : Int32 → ck_S → Prop} {σ : ck_S} {x1 : Int32} {s0 : Int32} {H : Heap} {locs : List Loc} {ls : Array Slot} (h : sp_X7_reset_27 (ck_nc G) (ck_nb G) post σ x1 s0) (hw : ck_H G s H locs σ) (hl : lv_has ls 3 [(0, .ref (ck_ad G 10 0)), (1, .int x1)]) : W p l e ({ frames := 0, cells := 0, slots := 0, locals := 0 } : Room) s m args below meth c H locs 0 0 (MQ below (va_Qi post (ck_Q G) (ck_A G s.heap.size)) args s 0 0 (ck_A G s.heap.size)) (F0 m 27 ls [.int s0, .ref (ck_ad G 10 0)]) := by
  obtain ⟨hx, hb, hr, hml, hown, hts, hlocks⟩ := id X
  have inX7 : ∀ w ∈ wsX70, w ∈ wsX7_reset := fun _ h => List.mem_cons_of_mem _ (List.mem_append_right _ (h))
  unfold sp_X7_reset_27 at h
  refine ck_puti hx hb hts inX7 tyX7 tyX7_ok nmX7 hown hw (hM 10 (by decide) (by decide)) rfl rfl 0 (by decide) (hts _ (List.mem_of_getElem? (i := 2) rfl)) rfl rfl rfl (Nat.le_of_ble_eq_true rfl) rfl dX7_reset_27 (fun H locs hw => ?_)
  obtain ⟨σ1, eσ1⟩ : ∃ z : ck_S, z = ck_ui σ 10 0 0 s0 := ⟨_, rfl⟩
  rw [← eσ1] at hw
  have h := h σ1 eσ1
  refine lv_aload_n hx hb dX7_reset_30 rfl (lv_at hl 0 rfl) ?_
  refine ck_get hx hb hts inX7 hown hw (hM 10 (by decide) (by decide)) rfl rfl 0 (by decide) (hts _ (List.mem_of_getElem? (i := 2) rfl)) rfl dX7_reset_31 ?_
  obtain ⟨hA, hB⟩ := h
  refine lv_if_gt (tgt := 48) hx hb dX7_reset_34 (by decide) (fun c2 => ?_) (fun c2 => ?_)
  · have h := hA c2
    refine lv_iconst (v := 0) hx hb dX7_reset_48 (by decide) ?_
    exact ck_zret X hw h dX7_reset_49
  · have h := hB c2
    refine lv_aload_n hx hb dX7_reset_37 rfl (lv_at hl 0 rfl) ?_
    refine ck_get hx hb hts inX7 hown hw (hM 10 (by decide) (by decide)) rfl rfl 26 (by decide) (hts _ (List.mem_of_getElem? (i := 3) rfl)) rfl dX7_reset_38 ?_
    refine lv_iload_n hx hb dX7_reset_41 rfl (lv_at hl 1 rfl) ?_
    refine lv_ishr hx hb dX7_reset_42 ?_
    refine lv_iconst (v := 1) hx hb dX7_reset_43 (by decide) ?_
    refine lv_iand hx hb dX7_reset_44 ?_
    obtain ⟨hA, hB⟩ := h
    refine lv_if_ne (tgt := 50) hx hb dX7_reset_45 (by decide) (fun c3 => ?_) (fun c3 => ?_)
    · have h := hA c3
      refine lv_iload_n hx hb dX7_reset_50 rfl (lv_at hl 1 rfl) ?_
      refine lv_bipush (v := 6) hx hb dX7_reset_51 (by decide) ?_
      obtain ⟨hA, hB⟩ := h
      refine lv_icmp_le (tgt := 71) hx hb dX7_reset_53 (by decide) (fun c4 => ?_) (fun c4 => ?_)
      · have h := hA c4
        refine lv_aload_n hx hb dX7_reset_71 rfl (lv_at hl 0 rfl) ?_
        refine ck_get hx hb hts inX7 hown hw (hM 10 (by decide) (by decide)) rfl rfl 25 (by decide) (hts _ (List.mem_of_getElem? (i := 5) rfl)) rfl dX7_reset_72 ?_
        refine lv_iload_n hx hb dX7_reset_75 rfl (lv_at hl 1 rfl) ?_
        obtain ⟨n5, h⟩ := h
        refine ck_iald hx hb hw (hM 19 (by decide) (by decide)) rfl n5 dX7_reset_76 ?_
        obtain ⟨hA, hB⟩ := h
        refine lv_if_ne (tgt := 84) hx hb dX7_reset_77 (by decide) (fun c6 => ?_) (fun c6 => ?_)
        · have h := hA c6
          refine lv_iconst (v := 0) hx hb dX7_reset_84 (by decide) ?_
          exact wk_X7_reset_85 X hM h hw (lv_sub hl [0, 1] rfl)
        · have h := hB c6
          refine lv_iconst (v := 1) hx hb dX7_reset_80 (by decide) ?_
          refine lv_goto (tgt := 85) hx hb dX7_reset_81 (by decide) ?_
          exact wk_X7_reset_85 X hM h hw (lv_sub hl [0, 1] rfl)
      · have h := hB c4
        refine lv_aload_n hx hb dX7_reset_56 rfl (lv_at hl 0 rfl) ?_
        refine ck_get hx hb hts inX7 hown hw (hM 10 (by decide) (by decide)) rfl rfl 28 (by decide) (hts _ (List.mem_of_getElem? (i := 4) rfl)) rfl dX7_reset_57 ?_
        obtain ⟨hA, hB⟩ := h
        refine lv_if_ne (tgt := 67) hx hb dX7_reset_60 (by decide) (fun c7 => ?_) (fun c7 => ?_)
        · have h := hA c7
          refine lv_iconst (v := 0) hx hb dX7_reset_67 (by decide) ?_
          refine lv_goto (tgt := 85) hx hb dX7_reset_68 (by decide) ?_
          exact wk_X7_reset_85 X hM h hw (lv_sub hl [0, 1] rfl)
        · have h := hB c7
          refine lv_iconst (v := 1) hx hb dX7_reset_63 (by decide) ?_
          refine lv_goto (tgt := 85) hx hb dX7_reset_64 (by decide) ?_
          exact wk_X7_reset_85 X hM h hw (lv_sub hl [0, 1] rfl)
    · have h := hB c3
      refine lv_iconst (v := 0) hx hb dX7_reset_48 (by decide) ?_
      exact ck_zret X hw h dX7_reset_49
set_option maxHeartbeats 4000000 in
set_option maxRecDepth 100000 in
theorem wk_X7_reset_11 {p : Program} {l : Launch} {e : Env} {s : State} {m : MethodId} {args : Array Value} {below : List Frame} {meth : Method} {c : Code} {G : ck_G} (X : ck_X p s m meth c args cX7_reset 3 (some .boolean) RX7 wsX7_reset) (hM : ck_inM G) {post : Int32 → ck_S → Prop} {σ : ck_S} {x1 : Int32} {H : Heap} {locs : List Loc} {ls : Array Slot} (h : sp_X7_reset_11 (ck_nc G) (ck_nb G) post σ x1) (hw : ck_H G s H locs σ) (hl : lv_has ls 3 [(0, .ref (ck_ad G 10 0)), (1, .int x1)]) : W p l e ({ frames := 0, cells := 0, slots := 0, locals := 0 } : Room) s m args below meth c H locs 0 0 (MQ below (va_Qi post (ck_Q G) (ck_A G s.heap.size)) args s 0 0 (ck_A G s.heap.size)) (F0 m 11 ls [.ref (ck_ad G 10 0)]) := by
  obtain ⟨hx, hb, hr, hml, hown, hts, hlocks⟩ := id X
  have inX7 : ∀ w ∈ wsX70, w ∈ wsX7_reset := fun _ h => List.mem_cons_of_mem _ (List.mem_append_right _ (h))
  unfold sp_X7_reset_11 at h
  refine lv_iconst (v := 1) hx hb dX7_reset_11 (by decide) ?_
  refine lv_goto (tgt := 27) hx hb dX7_reset_12 (by decide) ?_
  exact wk_X7_reset_27 X hM h hw (lv_sub hl [0, 1] rfl)
set_option maxHeartbeats 4000000 in
set_option maxRecDepth 100000 in
theorem wk_X7_reset_0 {p : Program} {l : Launch} {e : Env} {s : State} {m : MethodId} {args : Array Value} {below : List Frame} {meth : Method} {c : Code} {G : ck_G} (X : ck_X p s m meth c args cX7_reset 3 (some .boolean) RX7 wsX7_reset) (hM : ck_inM G) {post : Int32 → ck_S → Prop} {σ : ck_S} {a0 : Int32} {H : Heap} {locs : List Loc} {ls : Array Slot} (h : sp_X7_reset (ck_nc G) (ck_nb G) σ a0 post) (hw : ck_H G s H locs σ) (hl : lv_has ls 3 [(0, .ref (ck_ad G 10 0)), (1, .int a0)]) : W p l e ({ frames := 0, cells := 0, slots := 0, locals := 0 } : Room) s m args below meth c H locs 0 0 (MQ below (va_Qi post (ck_Q G) (ck_A G s.heap.size)) args s 0 0 (ck_A G s.heap.size)) (F0 m 0 ls []) := by
  obtain ⟨hx, hb, hr, hml, hown, hts, hlocks⟩ := id X
  have inX7 : ∀ w ∈ wsX70, w ∈ wsX7_reset := fun _ h => List.mem_cons_of_mem _ (List.mem_append_right _ (h))
  unfold sp_X7_reset at h
  refine lv_aload_n hx hb dX7_reset_0 rfl (lv_at hl 0 rfl) ?_
  refine lv_iload_n hx hb dX7_reset_1 rfl (lv_at hl 1 rfl) ?_
  obtain ⟨hA, hB⟩ := h
  refine lv_if_lt (tgt := 11) hx hb dX7_reset_2 (by decide) (fun c1 => ?_) (fun c1 => ?_)
  · have h := hA c1
    exact wk_X7_reset_11 X hM h hw (lv_sub hl [0, 1] rfl)
  · have h := hB c1
    refine lv_iload_n hx hb dX7_reset_5 rfl (lv_at hl 1 rfl) ?_
    refine lv_bipush (v := 8) hx hb dX7_reset_6 (by decide) ?_
    obtain ⟨hA, hB⟩ := h
    refine lv_icmp_le (tgt := 15) hx hb dX7_reset_8 (by decide) (fun c2 => ?_) (fun c2 => ?_)
    · have h := hA c2
      refine lv_aload_n hx hb dX7_reset_15 rfl (lv_at hl 0 rfl) ?_
      refine ck_get hx hb hts inX7 hown hw (hM 10 (by decide) (by decide)) rfl rfl 9 (by decide) (hts _ (List.mem_of_getElem? (i := 1) rfl)) rfl dX7_reset_16 ?_
      obtain ⟨hA, hB⟩ := h
      refine lv_if_eq (tgt := 26) hx hb dX7_reset_19 (by decide) (fun c3 => ?_) (fun c3 => ?_)
      · have h := hA c3
        refine lv_iconst (v := 0) hx hb dX7_reset_26 (by decide) ?_
        exact wk_X7_reset_27 X hM h hw (lv_sub hl [0, 1] rfl)
      · have h := hB c3
        refine lv_iconst (v := 2) hx hb dX7_reset_22 (by decide) ?_
        refine lv_goto (tgt := 27) hx hb dX7_reset_23 (by decide) ?_
        exact wk_X7_reset_27 X hM h hw (lv_sub hl [0, 1] rfl)
    · have h := hB c2
      exact wk_X7_reset_11 X hM h hw (lv_sub hl [0, 1] rfl)
set_option maxHeartbeats 4000000 in
set_option maxRecDepth 100000 in
theorem ct_X7_reset (l : Launch) (G : ck_G) (hM : ck_inM G) {a0 : Int32} {σ : ck_S} {post : Int32 → ck_S → Prop} (h : sp_X7_reset (ck_nc G) (ck_nb G) σ a0 post) : ck_Mi l yX7_reset wsX7_reset ({ frames := 0, cells := 0, slots := 0, locals := 0 } : Room) G σ [.ref (ck_ad G 10 0), .int a0] post := by
  intro sz
  refine Met.ofW (cc := cX7_reset) (maxL := 3) (ret := (some .boolean)) (by decide) rfl ?_
  intro p e s m args below meth c s₁ B hml hv
  obtain ⟨rfl, rfl, hw⟩ := ck_enter hv
  have hl := lv_entry ([.ref (ck_ad G 10 0), .int a0]) (n := 3) (Nat.le_of_ble_eq_true rfl)
  rw [lg_entry_eq]
  generalize (lg_sl ([.ref (ck_ad G 10 0), .int a0]) ++ List.replicate (3 - (lg_sl ([.ref (ck_ad G 10 0), .int a0])).length) Slot.unset).toArray = ls at hl ⊢
  have hl : lv_has ls 3 [(0, .ref (ck_ad G 10 0)), (1, .int a0)] := hl
  exact wk_X7_reset_0 ⟨B.exec, B.bytes, B.returns, hml, findClass_of_methodNamed B.named, atoms_spec (ws := wsX7_reset) B.pre, B.notSynchronized⟩ hM h hw hl
def sp_X7_cut_27 (nc nb : Nat) (post : ck_S → Prop) (σ : ck_S) (x1 : Int32) (s0 : Int32) : Prop := ∀ σ1, σ1 = ck_ui σ 10 0 0 s0 → (((ck_gi σ1 10 0 0) ≤ 0 → (∀ σ3, σ3 = ck_ui σ1 10 0 31 x1 → post σ3)) ∧ (¬ (ck_gi σ1 10 0 0) ≤ 0 → (∀ σ4, σ4 = ck_ui σ1 10 0 31 (ck_gi σ1 10 0 31) → post σ4)))
def sp_X7_cut_11 (nc nb : Nat) (post : ck_S → Prop) (σ : ck_S) (x1 : Int32) : Prop := sp_X7_cut_27 nc nb post σ x1 1
def sp_X7_cut (nc nb : Nat) (σ : ck_S) (a0 : Int32) (post : ck_S → Prop) : Prop := ((a0 < 0 → (sp_X7_cut_11 nc nb post σ a0)) ∧ (¬ a0 < 0 → (((a0 ≤ 32 → ((((ck_gi σ 10 0 9) = 0 → (sp_X7_cut_27 nc nb post σ a0 0)) ∧ (¬ (ck_gi σ 10 0 9) = 0 → (sp_X7_cut_27 nc nb post σ a0 2))))) ∧ (¬ a0 ≤ 32 → (sp_X7_cut_11 nc nb post σ a0))))))
set_option maxHeartbeats 4000000 in
set_option maxRecDepth 100000 in
theorem wk_X7_cut_27 {p : Program} {l : Launch} {e : Env} {s : State} {m : MethodId} {args : Array Value} {below : List Frame} {meth : Method} {c : Code} {G : ck_G} (X : ck_X p s m meth c args cX7_cut 2 none RX7 wsX7_cut) (hM : ck_inM G) {post : ck_S → Prop} {σ : ck_S} {x1 : Int32} {s0 : Int32} {H : Heap} {locs : List Loc} {ls : Array Slot} (h : sp_X7_cut_27 (ck_nc G) (ck_nb G) post σ x1 s0) (hw : ck_H G s H locs σ) (hl : lv_has ls 2 [(0, .ref (ck_ad G 10 0)), (1, .int x1)]) : W p l e ({ frames := 0, cells := 0, slots := 0, locals := 0 } : Room) s m args below meth c H locs 0 0 (MQ below (va_Qv post (ck_Q G) (ck_A G s.heap.size)) args s 0 0 (ck_A G s.heap.size)) (F0 m 27 ls [.int s0, .ref (ck_ad G 10 0)]) := by
  obtain ⟨hx, hb, hr, hml, hown, hts, hlocks⟩ := id X
  have inX7 : ∀ w ∈ wsX70, w ∈ wsX7_cut := fun _ h => List.mem_cons_of_mem _ (List.mem_append_right _ (h))
  unfold sp_X7_cut_27 at h
  refine ck_puti hx hb hts inX7 tyX7 tyX7_ok nmX7 hown hw (hM 10 (by decide) (by decide)) rfl rfl 0 (by decide) (hts _ (List.mem_of_getElem? (i := 2) rfl)) rfl rfl rfl (Nat.le_of_ble_eq_true rfl) rfl dX7_cut_27 (fun H locs hw => ?_)
  obtain ⟨σ1, eσ1⟩ : ∃ z : ck_S, z = ck_ui σ 10 0 0 s0 := ⟨_, rfl⟩
  rw [← eσ1] at hw
  have h := h σ1 eσ1
  refine lv_aload_n hx hb dX7_cut_30 rfl (lv_at hl 0 rfl) ?_
  refine lv_aload_n hx hb dX7_cut_31 rfl (lv_at hl 0 rfl) ?_
  refine ck_get hx hb hts inX7 hown hw (hM 10 (by decide) (by decide)) rfl rfl 0 (by decide) (hts _ (List.mem_of_getElem? (i := 2) rfl)) rfl dX7_cut_32 ?_
  obtain ⟨hA, hB⟩ := h
  refine lv_if_le (tgt := 45) hx hb dX7_cut_35 (by decide) (fun c2 => ?_) (fun c2 => ?_)
  · have h := hA c2
    refine lv_iload_n hx hb dX7_cut_45 rfl (lv_at hl 1 rfl) ?_
    refine ck_puti hx hb hts inX7 tyX7 tyX7_ok nmX7 hown hw (hM 10 (by decide) (by decide)) rfl rfl 31 (by decide) (hts _ (List.mem_of_getElem? (i := 3) rfl)) rfl rfl rfl (Nat.le_of_ble_eq_true rfl) rfl dX7_cut_46 (fun H locs hw => ?_)
    obtain ⟨σ3, eσ3⟩ : ∃ z : ck_S, z = ck_ui σ1 10 0 31 x1 := ⟨_, rfl⟩
    rw [← eσ3] at hw
    have h := h σ3 eσ3
    exact ck_vret X hw h dX7_cut_49
  · have h := hB c2
    refine lv_aload_n hx hb dX7_cut_38 rfl (lv_at hl 0 rfl) ?_
    refine ck_get hx hb hts inX7 hown hw (hM 10 (by decide) (by decide)) rfl rfl 31 (by decide) (hts _ (List.mem_of_getElem? (i := 3) rfl)) rfl dX7_cut_39 ?_
    refine lv_goto (tgt := 46) hx hb dX7_cut_42 (by decide) ?_
    refine ck_puti hx hb hts inX7 tyX7 tyX7_ok nmX7 hown hw (hM 10 (by decide) (by decide)) rfl rfl 31 (by decide) (hts _ (List.mem_of_getElem? (i := 3) rfl)) rfl rfl rfl (Nat.le_of_ble_eq_true rfl) rfl dX7_cut_46 (fun H locs hw => ?_)
    obtain ⟨σ4, eσ4⟩ : ∃ z : ck_S, z = ck_ui σ1 10 0 31 (ck_gi σ1 10 0 31) := ⟨_, rfl⟩
    rw [← eσ4] at hw
    have h := h σ4 eσ4
    exact ck_vret X hw h dX7_cut_49
set_option maxHeartbeats 4000000 in
set_option maxRecDepth 100000 in
theorem wk_X7_cut_11 {p : Program} {l : Launch} {e : Env} {s : State} {m : MethodId} {args : Array Value} {below : List Frame} {meth : Method} {c : Code} {G : ck_G} (X : ck_X p s m meth c args cX7_cut 2 none RX7 wsX7_cut) (hM : ck_inM G) {post : ck_S → Prop} {σ : ck_S} {x1 : Int32} {H : Heap} {locs : List Loc} {ls : Array Slot} (h : sp_X7_cut_11 (ck_nc G) (ck_nb G) post σ x1) (hw : ck_H G s H locs σ) (hl : lv_has ls 2 [(0, .ref (ck_ad G 10 0)), (1, .int x1)]) : W p l e ({ frames := 0, cells := 0, slots := 0, locals := 0 } : Room) s m args below meth c H locs 0 0 (MQ below (va_Qv post (ck_Q G) (ck_A G s.heap.size)) args s 0 0 (ck_A G s.heap.size)) (F0 m 11 ls [.ref (ck_ad G 10 0)]) := by
  obtain ⟨hx, hb, hr, hml, hown, hts, hlocks⟩ := id X
  have inX7 : ∀ w ∈ wsX70, w ∈ wsX7_cut := fun _ h => List.mem_cons_of_mem _ (List.mem_append_right _ (h))
  unfold sp_X7_cut_11 at h
  refine lv_iconst (v := 1) hx hb dX7_cut_11 (by decide) ?_
  refine lv_goto (tgt := 27) hx hb dX7_cut_12 (by decide) ?_
  exact wk_X7_cut_27 X hM h hw (lv_sub hl [0, 1] rfl)
set_option maxHeartbeats 4000000 in
set_option maxRecDepth 100000 in
theorem wk_X7_cut_0 {p : Program} {l : Launch} {e : Env} {s : State} {m : MethodId} {args : Array Value} {below : List Frame} {meth : Method} {c : Code} {G : ck_G} (X : ck_X p s m meth c args cX7_cut 2 none RX7 wsX7_cut) (hM : ck_inM G) {post : ck_S → Prop} {σ : ck_S} {a0 : Int32} {H : Heap} {locs : List Loc} {ls : Array Slot} (h : sp_X7_cut (ck_nc G) (ck_nb G) σ a0 post) (hw : ck_H G s H locs σ) (hl : lv_has ls 2 [(0, .ref (ck_ad G 10 0)), (1, .int a0)]) : W p l e ({ frames := 0, cells := 0, slots := 0, locals := 0 } : Room) s m args below meth c H locs 0 0 (MQ below (va_Qv post (ck_Q G) (ck_A G s.heap.size)) args s 0 0 (ck_A G s.heap.size)) (F0 m 0 ls []) := by
  obtain ⟨hx, hb, hr, hml, hown, hts, hlocks⟩ := id X
  have inX7 : ∀ w ∈ wsX70, w ∈ wsX7_cut := fun _ h => List.mem_cons_of_mem _ (List.mem_append_right _ (h))
  unfold sp_X7_cut at h
  refine lv_aload_n hx hb dX7_cut_0 rfl (lv_at hl 0 rfl) ?_
  refine lv_iload_n hx hb dX7_cut_1 rfl (lv_at hl 1 rfl) ?_
  obtain ⟨hA, hB⟩ := h
  refine lv_if_lt (tgt := 11) hx hb dX7_cut_2 (by decide) (fun c1 => ?_) (fun c1 => ?_)
  · have h := hA c1
    exact wk_X7_cut_11 X hM h hw (lv_sub hl [0, 1] rfl)
  · have h := hB c1
    refine lv_iload_n hx hb dX7_cut_5 rfl (lv_at hl 1 rfl) ?_
    refine lv_bipush (v := 32) hx hb dX7_cut_6 (by decide) ?_
    obtain ⟨hA, hB⟩ := h
    refine lv_icmp_le (tgt := 15) hx hb dX7_cut_8 (by decide) (fun c2 => ?_) (fun c2 => ?_)
    · have h := hA c2
      refine lv_aload_n hx hb dX7_cut_15 rfl (lv_at hl 0 rfl) ?_
      refine ck_get hx hb hts inX7 hown hw (hM 10 (by decide) (by decide)) rfl rfl 9 (by decide) (hts _ (List.mem_of_getElem? (i := 1) rfl)) rfl dX7_cut_16 ?_
      obtain ⟨hA, hB⟩ := h
      refine lv_if_eq (tgt := 26) hx hb dX7_cut_19 (by decide) (fun c3 => ?_) (fun c3 => ?_)
      · have h := hA c3
        refine lv_iconst (v := 0) hx hb dX7_cut_26 (by decide) ?_
        exact wk_X7_cut_27 X hM h hw (lv_sub hl [0, 1] rfl)
      · have h := hB c3
        refine lv_iconst (v := 2) hx hb dX7_cut_22 (by decide) ?_
        refine lv_goto (tgt := 27) hx hb dX7_cut_23 (by decide) ?_
        exact wk_X7_cut_27 X hM h hw (lv_sub hl [0, 1] rfl)
    · have h := hB c2
      exact wk_X7_cut_11 X hM h hw (lv_sub hl [0, 1] rfl)
set_option maxHeartbeats 4000000 in
set_option maxRecDepth 100000 in
theorem ct_X7_cut (l : Launch) (G : ck_G) (hM : ck_inM G) {a0 : Int32} {σ : ck_S} {post : ck_S → Prop} (h : sp_X7_cut (ck_nc G) (ck_nb G) σ a0 post) : ck_Mv l yX7_cut wsX7_cut ({ frames := 0, cells := 0, slots := 0, locals := 0 } : Room) G σ [.ref (ck_ad G 10 0), .int a0] post := by
  intro sz
  refine Met.ofW (cc := cX7_cut) (maxL := 2) (ret := none) (by decide) rfl ?_
  intro p e s m args below meth c s₁ B hml hv
  obtain ⟨rfl, rfl, hw⟩ := ck_enter hv
  have hl := lv_entry ([.ref (ck_ad G 10 0), .int a0]) (n := 2) (Nat.le_of_ble_eq_true rfl)
  rw [lg_entry_eq]
  generalize (lg_sl ([.ref (ck_ad G 10 0), .int a0]) ++ List.replicate (2 - (lg_sl ([.ref (ck_ad G 10 0), .int a0])).length) Slot.unset).toArray = ls at hl ⊢
  have hl : lv_has ls 2 [(0, .ref (ck_ad G 10 0)), (1, .int a0)] := hl
  exact wk_X7_cut_0 ⟨B.exec, B.bytes, B.returns, hml, findClass_of_methodNamed B.named, atoms_spec (ws := wsX7_cut) B.pre, B.notSynchronized⟩ hM h hw hl
def bd_X7_number_7 (nc nb : Nat) (post : Int64 → ck_S → Prop) (K7 : ck_S → Int32 → Int64 → Int32 → Prop) (σ : ck_S) (x1 : Int32) (x3 : Int64) (x5 : Int32) : Prop := ((x5 < 0 → (post x3 σ)) ∧ (¬ x5 < 0 → (∀ x_2, x_2 = (x1 + x5) → (vp_in x_2 512) ∧ ∀ y_4, y_4 = ((x3 <<< ((8 : Int32).toInt64 &&& 63)) ||| ((ck_gi σ 11 0 (Int32.toNatClampNeg x_2)).toInt64)) → ∀ x_5, x_5 = x5 + (-1) → K7 σ x1 y_4 x_5)))
def sp_X7_number (nc nb : Nat) (σ : ck_S) (a0 : Int32) (a1 : Int32) (post : Int64 → ck_S → Prop) : Prop := ∀ x_1, x_1 = (a1 - 1) → lx_4 (bd_X7_number_7 nc nb post) σ a0 0 x_1
set_option maxHeartbeats 4000000 in
set_option maxRecDepth 100000 in
theorem wk_X7_number_7 {p : Program} {l : Launch} {e : Env} {s : State} {m : MethodId} {args : Array Value} {below : List Frame} {meth : Method} {c : Code} {G : ck_G} (X : ck_X p s m meth c args cX7_number 6 (some .long) RX7 wsX7_number) (hM : ck_inM G) {post : Int64 → ck_S → Prop} : ∀ (fu : Nat) (σ : ck_S) (x1 : Int32) (x3 : Int64) (x5 : Int32) (H : Heap) (locs : List Loc) (ls : Array Slot), lk_4 (bd_X7_number_7 (ck_nc G) (ck_nb G) post) fu σ x1 x3 x5 → ck_H G s H locs σ → lv_has ls 6 [(0, .ref (ck_ad G 10 0)), (1, .int x1), (3, .long x3), (5, .int x5)] → W p l e ({ frames := 0, cells := 0, slots := 0, locals := 0 } : Room) s m args below meth c H locs 0 0 (MQ below (va_Ql post (ck_Q G) (ck_A G s.heap.size)) args s 0 0 (ck_A G s.heap.size)) (F0 m 7 ls []) := by
  obtain ⟨hx, hb, hr, hml, hown, hts, hlocks⟩ := id X
  have inX7 : ∀ w ∈ wsX70, w ∈ wsX7_number := fun _ h => List.mem_cons_of_mem _ (List.mem_append_right _ (h))
  intro fu
  induction fu with
  | zero => intro σ x1 x3 x5 H locs ls h hw hl; exact h.elim
  | succ fu hK7 =>
    intro σ x1 x3 x5 H locs ls h hw hl
    have h : bd_X7_number_7 (ck_nc G) (ck_nb G) post (lk_4 (bd_X7_number_7 (ck_nc G) (ck_nb G) post) fu) σ x1 x3 x5 := h
    unfold bd_X7_number_7 at h
    refine lv_iload hx hb dX7_number_7 (lv_at hl 3 rfl) ?_
    obtain ⟨hA, hB⟩ := h
    refine lv_if_lt (tgt := 34) hx hb dX7_number_9 (by decide) (fun c1 => ?_) (fun c1 => ?_)
    · have h := hA c1
      refine lv_lload_n hx hb dX7_number_34 rfl (lv_at hl 2 rfl) ?_
      exact ck_lret X hw h dX7_number_35
    · have h := hB c1
      refine lv_lload_n hx hb dX7_number_12 rfl (lv_at hl 2 rfl) ?_
      refine lv_bipush (v := 8) hx hb dX7_number_13 (by decide) ?_
      refine lv_lshl hx hb dX7_number_15 rfl ?_
      refine lv_aload_n hx hb dX7_number_16 rfl (lv_at hl 0 rfl) ?_
      refine ck_get hx hb hts inX7 hown hw (hM 10 (by decide) (by decide)) rfl rfl 6 (by decide) (hts _ (List.mem_of_getElem? (i := 1) rfl)) rfl dX7_number_17 ?_
      refine lv_iload_n hx hb dX7_number_20 rfl (lv_at hl 1 rfl) ?_
      refine lv_iload hx hb dX7_number_21 (lv_at hl 3 rfl) ?_
      refine lv_iadd hx hb dX7_number_23 ?_
      refine lv_topi (fun x_2 ex_2 => ?_)
      have h := h x_2 ex_2
      obtain ⟨n3, h⟩ := h
      refine ck_iald hx hb hw (hM 11 (by decide) (by decide)) rfl n3 dX7_number_24 ?_
      refine lv_i2l hx hb dX7_number_25 rfl ?_
      refine lv_lor hx hb dX7_number_26 ?_
      refine lv_topl (fun y_4 ey_4 => ?_)
      have h := h y_4 ey_4
      refine lv_lstore_n (lv' := [(3, .long y_4), (0, .ref (ck_ad G 10 0)), (1, .int x1), (5, .int x5)]) hx hb dX7_number_27 rfl hl (by decide) rfl (fun ls hl => ?_)
      obtain ⟨x_5, ex_5⟩ : ∃ z : Int32, z = x5 + (-1) := ⟨_, rfl⟩
      have h := h x_5 ex_5
      refine lv_iinc (v := x_5) (lv' := [(5, .int x_5), (3, .long y_4), (0, .ref (ck_ad G 10 0)), (1, .int x1)]) hx hb dX7_number_28 hl (k := 3) rfl (by rw [ex_5]; rfl) (by decide) rfl (fun ls hl => ?_)
      refine lv_goto (tgt := 7) hx hb dX7_number_31 (by decide) ?_
      exact hK7 _ _ _ _ _ _ _ h hw (lv_sub hl [2, 3, 1, 0] rfl)
set_option maxHeartbeats 4000000 in
set_option maxRecDepth 100000 in
theorem wk_X7_number_0 {p : Program} {l : Launch} {e : Env} {s : State} {m : MethodId} {args : Array Value} {below : List Frame} {meth : Method} {c : Code} {G : ck_G} (X : ck_X p s m meth c args cX7_number 6 (some .long) RX7 wsX7_number) (hM : ck_inM G) {post : Int64 → ck_S → Prop} {σ : ck_S} {a0 : Int32} {a1 : Int32} {H : Heap} {locs : List Loc} {ls : Array Slot} (h : sp_X7_number (ck_nc G) (ck_nb G) σ a0 a1 post) (hw : ck_H G s H locs σ) (hl : lv_has ls 6 [(0, .ref (ck_ad G 10 0)), (1, .int a0), (2, .int a1)]) : W p l e ({ frames := 0, cells := 0, slots := 0, locals := 0 } : Room) s m args below meth c H locs 0 0 (MQ below (va_Ql post (ck_Q G) (ck_A G s.heap.size)) args s 0 0 (ck_A G s.heap.size)) (F0 m 0 ls []) := by
  obtain ⟨hx, hb, hr, hml, hown, hts, hlocks⟩ := id X
  have inX7 : ∀ w ∈ wsX70, w ∈ wsX7_number := fun _ h => List.mem_cons_of_mem _ (List.mem_append_right _ (h))
  unfold sp_X7_number at h
  refine lv_lconst (v := 0) hx hb dX7_number_0 (by decide) ?_
  refine lv_lstore_n (lv' := [(3, .long 0), (0, .ref (ck_ad G 10 0)), (1, .int a0), (2, .int a1)]) hx hb dX7_number_1 rfl hl (by decide) rfl (fun ls hl => ?_)
  refine lv_iload_n hx hb dX7_number_2 rfl (lv_at hl 3 rfl) ?_
  refine lv_iconst (v := 1) hx hb dX7_number_3 (by decide) ?_
  refine lv_isub hx hb dX7_number_4 ?_
  refine lv_topi (fun x_1 ex_1 => ?_)
  have h := h x_1 ex_1
  refine lv_istore (lv' := [(5, .int x_1), (3, .long 0), (0, .ref (ck_ad G 10 0)), (1, .int a0), (2, .int a1)]) hx hb dX7_number_5 hl (by decide) rfl (fun ls hl => ?_)
  obtain ⟨fu, h⟩ := h
  exact wk_X7_number_7 X hM fu _ _ _ _ _ _ _ h hw (lv_sub hl [2, 3, 1, 0] rfl)
set_option maxHeartbeats 4000000 in
set_option maxRecDepth 100000 in
theorem ct_X7_number (l : Launch) (G : ck_G) (hM : ck_inM G) {a0 : Int32} {a1 : Int32} {σ : ck_S} {post : Int64 → ck_S → Prop} (h : sp_X7_number (ck_nc G) (ck_nb G) σ a0 a1 post) : ck_Ml l yX7_number wsX7_number ({ frames := 0, cells := 0, slots := 0, locals := 0 } : Room) G σ [.ref (ck_ad G 10 0), .int a0, .int a1] post := by
  intro sz
  refine Met.ofW (cc := cX7_number) (maxL := 6) (ret := (some .long)) (by decide) rfl ?_
  intro p e s m args below meth c s₁ B hml hv
  obtain ⟨rfl, rfl, hw⟩ := ck_enter hv
  have hl := lv_entry ([.ref (ck_ad G 10 0), .int a0, .int a1]) (n := 6) (Nat.le_of_ble_eq_true rfl)
  rw [lg_entry_eq]
  generalize (lg_sl ([.ref (ck_ad G 10 0), .int a0, .int a1]) ++ List.replicate (6 - (lg_sl ([.ref (ck_ad G 10 0), .int a0, .int a1])).length) Slot.unset).toArray = ls at hl ⊢
  have hl : lv_has ls 6 [(0, .ref (ck_ad G 10 0)), (1, .int a0), (2, .int a1)] := hl
  exact wk_X7_number_0 ⟨B.exec, B.bytes, B.returns, hml, findClass_of_methodNamed B.named, atoms_spec (ws := wsX7_number) B.pre, B.notSynchronized⟩ hM h hw hl
def bd_X7_isRight_4 (nc nb : Nat) (post : Int32 → ck_S → Prop) (K4 : ck_S → Int32 → Int32 → Int32 → Prop) (σ : ck_S) (x1 : Int32) (x2 : Int32) (x3 : Int32) : Prop := ((30 ≤ x3 → (sp_X7_number nc nb σ (32 * x1) 4 (fun y_3 σ2 => sp_X7_number nc nb σ2 ((32 * x1) + 30) 2 (fun y_5 σ4 => ((¬ (lg_cmp y_5 (x2.toInt64)) = 0 → ((ck_b 0 ∧ post 0 σ4))) ∧ ((lg_cmp y_5 (x2.toInt64)) = 0 → ((((lg_cmp y_3 (1 : Int64)) < 0 → ((ck_b 0 ∧ post 0 σ4))) ∧ (¬ (lg_cmp y_3 (1 : Int64)) < 0 → (((0 < (lg_cmp y_3 (1000000000 : Int64)) → ((ck_b 0 ∧ post 0 σ4))) ∧ (¬ 0 < (lg_cmp y_3 (1000000000 : Int64)) → (∀ y_9, y_9 = (y_3 - 1) → ∀ y_10, y_10 = ((ck_gi σ4 10 0 2).toInt64) → (¬ y_10 = 0) ∧ ((¬ (lg_cmp (y_9 - y_9 / y_10 * y_10) (x1.toInt64)) = 0 → ((ck_b 0 ∧ post 0 σ4))) ∧ ((lg_cmp (y_9 - y_9 / y_10 * y_10) (x1.toInt64)) = 0 → ((ck_b 1 ∧ post 1 σ4))))))))))))))))) ∧ (¬ 30 ≤ x3 → (∀ x_13, x_13 = ((32 * x1) + x3) → (vp_in x_13 512) ∧ sp_X7_checked nc nb σ x2 (ck_gi σ 11 0 (Int32.toNatClampNeg x_13)) (fun x_16 σ15 => ∀ x_17, x_17 = x3 + 1 → K4 σ15 x1 x_16 x_17))))
def sp_X7_isRight (nc nb : Nat) (σ : ck_S) (a0 : Int32) (post : Int32 → ck_S → Prop) : Prop := lx_4 (bd_X7_isRight_4 nc nb post) σ a0 0 0
set_option maxHeartbeats 4000000 in
set_option maxRecDepth 100000 in
theorem wk_X7_isRight_4 {p : Program} {l : Launch} {e : Env} {s : State} {m : MethodId} {args : Array Value} {below : List Frame} {meth : Method} {c : Code} {G : ck_G} (X : ck_X p s m meth c args cX7_isRight 5 (some .boolean) RX7 wsX7_isRight) (hM : ck_inM G) {post : Int32 → ck_S → Prop} : ∀ (fu : Nat) (σ : ck_S) (x1 : Int32) (x2 : Int32) (x3 : Int32) (H : Heap) (locs : List Loc) (ls : Array Slot), lk_4 (bd_X7_isRight_4 (ck_nc G) (ck_nb G) post) fu σ x1 x2 x3 → ck_H G s H locs σ → lv_has ls 5 [(0, .ref (ck_ad G 10 0)), (1, .int x1), (2, .int x2), (3, .int x3)] → W p l e ({ frames := 1, cells := 0, slots := 0, locals := 25 } : Room) s m args below meth c H locs 0 0 (MQ below (va_Qi post (ck_Q G) (ck_A G s.heap.size)) args s 0 0 (ck_A G s.heap.size)) (F0 m 4 ls []) := by
  obtain ⟨hx, hb, hr, hml, hown, hts, hlocks⟩ := id X
  have inX7 : ∀ w ∈ wsX70, w ∈ wsX7_isRight := fun _ h => List.mem_cons_of_mem _ (List.mem_append_right _ (h))
  intro fu
  induction fu with
  | zero => intro σ x1 x2 x3 H locs ls h hw hl; exact h.elim
  | succ fu hK4 =>
    intro σ x1 x2 x3 H locs ls h hw hl
    have h : bd_X7_isRight_4 (ck_nc G) (ck_nb G) post (lk_4 (bd_X7_isRight_4 (ck_nc G) (ck_nb G) post) fu) σ x1 x2 x3 := h
    unfold bd_X7_isRight_4 at h
    refine lv_iload_n hx hb dX7_isRight_4 rfl (lv_at hl 3 rfl) ?_
    refine lv_bipush (v := 30) hx hb dX7_isRight_5 (by decide) ?_
    obtain ⟨hA, hB⟩ := h
    refine lv_icmp_ge (tgt := 32) hx hb dX7_isRight_7 (by decide) (fun c1 => ?_) (fun c1 => ?_)
    · have h := hA c1
      refine lv_aload_n hx hb dX7_isRight_32 rfl (lv_at hl 0 rfl) ?_
      refine lv_bipush (v := 32) hx hb dX7_isRight_33 (by decide) ?_
      refine lv_iload_n hx hb dX7_isRight_35 rfl (lv_at hl 1 rfl) ?_
      refine lv_imul hx hb dX7_isRight_36 ?_
      refine lv_iconst (v := 4) hx hb dX7_isRight_37 (by decide) ?_
      refine ck_callVl (rest := []) ⟨hx, hb, hml, hown, hts⟩ hw (hM 10 (by decide) (by decide)) rfl rfl (ct_X7_number l G hM h) (cwV 2 hts gX7_isRight_X7_number rfl rfl rfl (by decide +kernel) ⟨(Nat.le_of_ble_eq_true rfl), (Nat.le_of_ble_eq_true rfl)⟩) rfl hl.1 rfl (Nat.le_of_ble_eq_true rfl) dX7_isRight_38 ⟨(Nat.le_of_ble_eq_true rfl), (Nat.le_of_ble_eq_true rfl)⟩ (fun y_3 σ2 H locs h hw => ?_)
      refine lv_lstore_n (lv' := [(3, .long y_3), (0, .ref (ck_ad G 10 0)), (1, .int x1), (2, .int x2)]) hx hb dX7_isRight_41 rfl hl (by decide) rfl (fun ls hl => ?_)
      refine lv_aload_n hx hb dX7_isRight_42 rfl (lv_at hl 1 rfl) ?_
      refine lv_bipush (v := 32) hx hb dX7_isRight_43 (by decide) ?_
      refine lv_iload_n hx hb dX7_isRight_45 rfl (lv_at hl 2 rfl) ?_
      refine lv_imul hx hb dX7_isRight_46 ?_
      refine lv_bipush (v := 30) hx hb dX7_isRight_47 (by decide) ?_
      refine lv_iadd hx hb dX7_isRight_49 ?_
      refine lv_iconst (v := 2) hx hb dX7_isRight_50 (by decide) ?_
      refine ck_callVl (rest := []) ⟨hx, hb, hml, hown, hts⟩ hw (hM 10 (by decide) (by decide)) rfl rfl (ct_X7_number l G hM h) (cwV 2 hts gX7_isRight_X7_number rfl rfl rfl (by decide +kernel) ⟨(Nat.le_of_ble_eq_true rfl), (Nat.le_of_ble_eq_true rfl)⟩) rfl hl.1 rfl (Nat.le_of_ble_eq_true rfl) dX7_isRight_51 ⟨(Nat.le_of_ble_eq_true rfl), (Nat.le_of_ble_eq_true rfl)⟩ (fun y_5 σ4 H locs h hw => ?_)
      refine lv_iload_n hx hb dX7_isRight_54 rfl (lv_at hl 3 rfl) ?_
      refine lv_i2l hx hb dX7_isRight_55 rfl ?_
      refine W.lcmp hx hb dX7_isRight_56 ?_
      obtain ⟨hA, hB⟩ := h
      refine lv_if_ne (tgt := 93) hx hb dX7_isRight_57 (by decide) (fun c6 => ?_) (fun c6 => ?_)
      · have h := hA c6
        refine lv_iconst (v := 0) hx hb dX7_isRight_93 (by decide) ?_
        exact ck_zret X hw h dX7_isRight_94
      · have h := hB c6
        refine lv_lload_n hx hb dX7_isRight_60 rfl (lv_at hl 0 rfl) ?_
        refine lv_lconst (v := 1) hx hb dX7_isRight_61 (by decide) ?_
        refine W.lcmp hx hb dX7_isRight_62 ?_
        obtain ⟨hA, hB⟩ := h
        refine lv_if_lt (tgt := 93) hx hb dX7_isRight_63 (by decide) (fun c7 => ?_) (fun c7 => ?_)
        · have h := hA c7
          refine lv_iconst (v := 0) hx hb dX7_isRight_93 (by decide) ?_
          exact ck_zret X hw h dX7_isRight_94
        · have h := hB c7
          refine lv_lload_n hx hb dX7_isRight_66 rfl (lv_at hl 0 rfl) ?_
          refine lv_ldc2 hx hb hown (hts _ (List.mem_of_getElem? (i := 2) rfl)) dX7_isRight_67 ?_
          refine W.lcmp hx hb dX7_isRight_70 ?_
          obtain ⟨hA, hB⟩ := h
          refine lv_if_gt (tgt := 93) hx hb dX7_isRight_71 (by decide) (fun c8 => ?_) (fun c8 => ?_)
          · have h := hA c8
            refine lv_iconst (v := 0) hx hb dX7_isRight_93 (by decide) ?_
            exact ck_zret X hw h dX7_isRight_94
          · have h := hB c8
            refine lv_lload_n hx hb dX7_isRight_74 rfl (lv_at hl 0 rfl) ?_
            refine lv_lconst (v := 1) hx hb dX7_isRight_75 (by decide) ?_
            refine lv_lsub hx hb dX7_isRight_76 ?_
            refine lv_topl (fun y_9 ey_9 => ?_)
            have h := h y_9 ey_9
            refine lv_aload_n hx hb dX7_isRight_77 rfl (lv_at hl 1 rfl) ?_
            refine ck_get hx hb hts inX7 hown hw (hM 10 (by decide) (by decide)) rfl rfl 2 (by decide) (hts _ (List.mem_of_getElem? (i := 3) rfl)) rfl dX7_isRight_78 ?_
            refine lv_i2l hx hb dX7_isRight_81 rfl ?_
            refine lv_topl (fun y_10 ey_10 => ?_)
            have h := h y_10 ey_10
            obtain ⟨n11, h⟩ := h
            refine lv_lrem hx hb dX7_isRight_82 n11 ?_
            refine lv_iload_n hx hb dX7_isRight_83 rfl (lv_at hl 2 rfl) ?_
            refine lv_i2l hx hb dX7_isRight_84 rfl ?_
            refine W.lcmp hx hb dX7_isRight_85 ?_
            obtain ⟨hA, hB⟩ := h
            refine lv_if_ne (tgt := 93) hx hb dX7_isRight_86 (by decide) (fun c12 => ?_) (fun c12 => ?_)
            · have h := hA c12
              refine lv_iconst (v := 0) hx hb dX7_isRight_93 (by decide) ?_
              exact ck_zret X hw h dX7_isRight_94
            · have h := hB c12
              refine lv_iconst (v := 1) hx hb dX7_isRight_89 (by decide) ?_
              refine lv_goto (tgt := 94) hx hb dX7_isRight_90 (by decide) ?_
              exact ck_zret X hw h dX7_isRight_94
    · have h := hB c1
      refine lv_iload_n hx hb dX7_isRight_10 rfl (lv_at hl 2 rfl) ?_
      refine lv_aload_n hx hb dX7_isRight_11 rfl (lv_at hl 0 rfl) ?_
      refine ck_get hx hb hts inX7 hown hw (hM 10 (by decide) (by decide)) rfl rfl 6 (by decide) (hts _ (List.mem_of_getElem? (i := 1) rfl)) rfl dX7_isRight_12 ?_
      refine lv_bipush (v := 32) hx hb dX7_isRight_15 (by decide) ?_
      refine lv_iload_n hx hb dX7_isRight_17 rfl (lv_at hl 1 rfl) ?_
      refine lv_imul hx hb dX7_isRight_18 ?_
      refine lv_iload_n hx hb dX7_isRight_19 rfl (lv_at hl 3 rfl) ?_
      refine lv_iadd hx hb dX7_isRight_20 ?_
      refine lv_topi (fun x_13 ex_13 => ?_)
      have h := h x_13 ex_13
      obtain ⟨n14, h⟩ := h
      refine ck_iald hx hb hw (hM 11 (by decide) (by decide)) rfl n14 dX7_isRight_21 ?_
      refine ck_callSi (rest := []) ⟨hx, hb, hml, hown, hts⟩ hw (ct_X7_checked l G h) (va_cwS 2 hts gX7_isRight_X7_checked rfl rfl rfl (by decide +kernel) ⟨(Nat.le_of_ble_eq_true rfl), (Nat.le_of_ble_eq_true rfl)⟩) rfl hl.1 rfl (Nat.le_of_ble_eq_true rfl) dX7_isRight_22 ⟨(Nat.le_of_ble_eq_true rfl), (Nat.le_of_ble_eq_true rfl)⟩ (fun x_16 σ15 H locs h hw => ?_)
      refine lv_istore_n (lv' := [(2, .int x_16), (0, .ref (ck_ad G 10 0)), (1, .int x1), (3, .int x3)]) hx hb dX7_isRight_25 rfl hl (by decide) rfl (fun ls hl => ?_)
      obtain ⟨x_17, ex_17⟩ : ∃ z : Int32, z = x3 + 1 := ⟨_, rfl⟩
      have h := h x_17 ex_17
      refine lv_iinc (v := x_17) (lv' := [(3, .int x_17), (2, .int x_16), (0, .ref (ck_ad G 10 0)), (1, .int x1)]) hx hb dX7_isRight_26 hl (k := 3) rfl (by rw [ex_17]; rfl) (by decide) rfl (fun ls hl => ?_)
      refine lv_goto (tgt := 4) hx hb dX7_isRight_29 (by decide) ?_
      exact hK4 _ _ _ _ _ _ _ h hw (lv_sub hl [2, 3, 1, 0] rfl)
set_option maxHeartbeats 4000000 in
set_option maxRecDepth 100000 in
theorem wk_X7_isRight_0 {p : Program} {l : Launch} {e : Env} {s : State} {m : MethodId} {args : Array Value} {below : List Frame} {meth : Method} {c : Code} {G : ck_G} (X : ck_X p s m meth c args cX7_isRight 5 (some .boolean) RX7 wsX7_isRight) (hM : ck_inM G) {post : Int32 → ck_S → Prop} {σ : ck_S} {a0 : Int32} {H : Heap} {locs : List Loc} {ls : Array Slot} (h : sp_X7_isRight (ck_nc G) (ck_nb G) σ a0 post) (hw : ck_H G s H locs σ) (hl : lv_has ls 5 [(0, .ref (ck_ad G 10 0)), (1, .int a0)]) : W p l e ({ frames := 1, cells := 0, slots := 0, locals := 25 } : Room) s m args below meth c H locs 0 0 (MQ below (va_Qi post (ck_Q G) (ck_A G s.heap.size)) args s 0 0 (ck_A G s.heap.size)) (F0 m 0 ls []) := by
  obtain ⟨hx, hb, hr, hml, hown, hts, hlocks⟩ := id X
  have inX7 : ∀ w ∈ wsX70, w ∈ wsX7_isRight := fun _ h => List.mem_cons_of_mem _ (List.mem_append_right _ (h))
  unfold sp_X7_isRight at h
  refine lv_iconst (v := 0) hx hb dX7_isRight_0 (by decide) ?_
  refine lv_istore_n (lv' := [(2, .int 0), (0, .ref (ck_ad G 10 0)), (1, .int a0)]) hx hb dX7_isRight_1 rfl hl (by decide) rfl (fun ls hl => ?_)
  refine lv_iconst (v := 0) hx hb dX7_isRight_2 (by decide) ?_
  refine lv_istore_n (lv' := [(3, .int 0), (2, .int 0), (0, .ref (ck_ad G 10 0)), (1, .int a0)]) hx hb dX7_isRight_3 rfl hl (by decide) rfl (fun ls hl => ?_)
  obtain ⟨fu, h⟩ := h
  exact wk_X7_isRight_4 X hM fu _ _ _ _ _ _ _ h hw (lv_sub hl [2, 3, 1, 0] rfl)
set_option maxHeartbeats 4000000 in
set_option maxRecDepth 100000 in
theorem ct_X7_isRight (l : Launch) (G : ck_G) (hM : ck_inM G) {a0 : Int32} {σ : ck_S} {post : Int32 → ck_S → Prop} (h : sp_X7_isRight (ck_nc G) (ck_nb G) σ a0 post) : ck_Mi l yX7_isRight wsX7_isRight ({ frames := 1, cells := 0, slots := 0, locals := 25 } : Room) G σ [.ref (ck_ad G 10 0), .int a0] post := by
  intro sz
  refine Met.ofW (cc := cX7_isRight) (maxL := 5) (ret := (some .boolean)) (by decide) rfl ?_
  intro p e s m args below meth c s₁ B hml hv
  obtain ⟨rfl, rfl, hw⟩ := ck_enter hv
  have hl := lv_entry ([.ref (ck_ad G 10 0), .int a0]) (n := 5) (Nat.le_of_ble_eq_true rfl)
  rw [lg_entry_eq]
  generalize (lg_sl ([.ref (ck_ad G 10 0), .int a0]) ++ List.replicate (5 - (lg_sl ([.ref (ck_ad G 10 0), .int a0])).length) Slot.unset).toArray = ls at hl ⊢
  have hl : lv_has ls 5 [(0, .ref (ck_ad G 10 0)), (1, .int a0)] := hl
  exact wk_X7_isRight_0 ⟨B.exec, B.bytes, B.returns, hml, findClass_of_methodNamed B.named, atoms_spec (ws := wsX7_isRight) B.pre, B.notSynchronized⟩ hM h hw hl
def sp_X7_begin_294 (nc nb : Nat) (post : ck_S → Prop) (σ : ck_S) (x1 : Int32) (s0 : Int64) : Prop := ∀ σ1, σ1 = ck_uj σ 10 0 11 s0 → sp_X7_number nc nb σ1 ((32 * x1) + 16) 2 (fun y_3 σ2 => ∀ σ4, σ4 = ck_ui σ2 10 0 26 ((y_3.toInt32) &&& 511) → post σ4)
def sp_X7_begin_190 (nc nb : Nat) (post : ck_S → Prop) (K146 : ck_S → Int32 → Int32 → Prop) (σ : ck_S) (x1 : Int32) (x2 : Int32) : Prop := ∀ x_1, x_1 = x2 + 1 → K146 σ x1 x_1
def sp_X7_begin_188 (nc nb : Nat) (post : ck_S → Prop) (K146 : ck_S → Int32 → Int32 → Prop) (σ : ck_S) (x2 : Int32) : Prop := sp_X7_begin_190 nc nb post K146 σ x2 x2
def bd_X7_begin_146 (nc nb : Nat) (post : ck_S → Prop) (K146 : ck_S → Int32 → Int32 → Prop) (σ : ck_S) (x1 : Int32) (x2 : Int32) : Prop := (((ck_gi σ 10 0 2) ≤ x2 → (((x1 < 0 → (post σ)) ∧ (¬ x1 < 0 → (sp_X7_number nc nb σ (32 * x1) 4 (fun y_4 σ3 => ∀ σ5, σ5 = ck_ui σ3 10 0 8 ((y_4.toInt32) + 1) → sp_X7_number nc nb σ5 ((32 * x1) + 4) 4 (fun y_7 σ6 => ∀ σ8, σ8 = ck_ui σ6 10 0 10 (y_7.toInt32) → sp_X7_number nc nb σ8 ((32 * x1) + 8) 8 (fun y_10 σ9 => ∀ σ11, σ11 = ck_uj σ9 10 0 11 y_10 → ((0 ≤ (lg_cmp (ck_gj σ11 10 0 11) (0 : Int64)) → ((((lg_cmp (ck_gj σ11 10 0 11) (8192 * (ck_gj σ11 10 0 3))) ≤ 0 → (sp_X7_begin_294 nc nb post σ11 x1 (ck_gj σ11 10 0 11))) ∧ (¬ (lg_cmp (ck_gj σ11 10 0 11) (8192 * (ck_gj σ11 10 0 3))) ≤ 0 → (sp_X7_begin_294 nc nb post σ11 x1 (8192 * (ck_gj σ11 10 0 3))))))) ∧ (¬ 0 ≤ (lg_cmp (ck_gj σ11 10 0 11) (0 : Int64)) → (sp_X7_begin_294 nc nb post σ11 x1 0))))))))))) ∧ (¬ (ck_gi σ 10 0 2) ≤ x2 → (sp_X7_isRight nc nb σ x2 (fun x_15 σ14 => ((x_15 = 0 → (sp_X7_begin_190 nc nb post K146 σ14 x1 x2)) ∧ (¬ x_15 = 0 → (((x1 < 0 → (sp_X7_begin_188 nc nb post K146 σ14 x2)) ∧ (¬ x1 < 0 → (sp_X7_number nc nb σ14 (32 * x2) 4 (fun y_19 σ18 => sp_X7_number nc nb σ18 (32 * x1) 4 (fun y_21 σ20 => (((lg_cmp y_19 y_21) ≤ 0 → (sp_X7_begin_190 nc nb post K146 σ20 x1 x2)) ∧ (¬ (lg_cmp y_19 y_21) ≤ 0 → (sp_X7_begin_188 nc nb post K146 σ20 x2)))))))))))))))
def bd_X7_begin_99 (nc nb : Nat) (post : ck_S → Prop) (K99 : ck_S → Int32 → Prop) (σ : ck_S) (x1 : Int32) : Prop := ((4 ≤ x1 → (lx_3 (bd_X7_begin_146 nc nb post) σ (-1) 0)) ∧ (¬ 4 ≤ x1 → ((vp_in x1 4) ∧ ∀ σ3, σ3 = ck_uj σ 13 0 (Int32.toNatClampNeg x1) 160 → (vp_in x1 4) ∧ ∀ σ5, σ5 = ck_ui σ3 17 0 (Int32.toNatClampNeg x1) 0 → (vp_in x1 4) ∧ ∀ σ7, σ7 = ck_ui σ5 18 0 (Int32.toNatClampNeg x1) 1000 → (vp_in x1 4) ∧ ∀ σ9, σ9 = ck_ui σ7 20 0 (Int32.toNatClampNeg x1) 0 → ∀ x_10, x_10 = x1 + 1 → K99 σ9 x_10)))
def bd_X7_begin_78 (nc nb : Nat) (post : ck_S → Prop) (K78 : ck_S → Int32 → Prop) (σ : ck_S) (x1 : Int32) : Prop := ((7 ≤ x1 → (lx_2 (bd_X7_begin_99 nc nb post) σ 0)) ∧ (¬ 7 ≤ x1 → ((vp_in x1 7) ∧ ∀ σ3, σ3 = ck_ui σ 19 0 (Int32.toNatClampNeg x1) 0 → ∀ x_4, x_4 = x1 + 1 → K78 σ3 x_4)))
def sp_X7_begin (nc nb : Nat) (σ : ck_S) (post : ck_S → Prop) : Prop := ∀ σ1, σ1 = ck_ui σ 10 0 9 0 → ∀ σ2, σ2 = ck_ui σ1 10 0 10 0 → ∀ σ3, σ3 = ck_uj σ2 10 0 11 0 → ∀ σ4, σ4 = ck_uj σ3 10 0 12 0 → ∀ σ5, σ5 = ck_uj σ4 10 0 13 0 → ∀ σ6, σ6 = ck_ui σ5 10 0 15 0 → ∀ σ7, σ7 = ck_ui σ6 10 0 16 0 → ∀ σ8, σ8 = ck_ui σ7 10 0 17 0 → ∀ σ9, σ9 = ck_uj σ8 10 0 23 0 → ∀ σ10, σ10 = ck_uj σ9 10 0 24 0 → ∀ σ11, σ11 = ck_ui σ10 10 0 26 0 → ∀ σ12, σ12 = ck_ui σ11 10 0 28 0 → ∀ σ13, σ13 = ck_ui σ12 10 0 29 0 → ∀ σ14, σ14 = ck_ui σ13 10 0 31 32 → ∀ σ15, σ15 = ck_ui σ14 10 0 8 1 → lx_2 (bd_X7_begin_78 nc nb post) σ15 0
set_option maxHeartbeats 4000000 in
set_option maxRecDepth 100000 in
theorem wk_X7_begin_294 {p : Program} {l : Launch} {e : Env} {s : State} {m : MethodId} {args : Array Value} {below : List Frame} {meth : Method} {c : Code} {G : ck_G} (X : ck_X p s m meth c args cX7_begin 3 none RX7 wsX7_begin) (hM : ck_inM G) {post : ck_S → Prop} {σ : ck_S} {x1 : Int32} {s0 : Int64} {H : Heap} {locs : List Loc} {ls : Array Slot} (h : sp_X7_begin_294 (ck_nc G) (ck_nb G) post σ x1 s0) (hw : ck_H G s H locs σ) (hl : lv_has ls 3 [(0, .ref (ck_ad G 10 0)), (1, .int x1)]) : W p l e ({ frames := 2, cells := 0, slots := 0, locals := 49 } : Room) s m args below meth c H locs 0 0 (MQ below (va_Qv post (ck_Q G) (ck_A G s.heap.size)) args s 0 0 (ck_A G s.heap.size)) (F0 m 294 ls [.long s0, .ref (ck_ad G 10 0)]) := by
  obtain ⟨hx, hb, hr, hml, hown, hts, hlocks⟩ := id X
  have inX7 : ∀ w ∈ wsX70, w ∈ wsX7_begin := fun _ h => List.mem_cons_of_mem _ (List.mem_append_right _ (h))
  unfold sp_X7_begin_294 at h
  refine ck_putj hx hb hts inX7 tyX7 tyX7_ok nmX7 hown hw (hM 10 (by decide) (by decide)) rfl rfl 11 (by decide) (hts _ (List.mem_of_getElem? (i := 3) rfl)) rfl rfl rfl (Nat.le_of_ble_eq_true rfl) rfl dX7_begin_294 (fun H locs hw => ?_)
  obtain ⟨σ1, eσ1⟩ : ∃ z : ck_S, z = ck_uj σ 10 0 11 s0 := ⟨_, rfl⟩
  rw [← eσ1] at hw
  have h := h σ1 eσ1
  refine lv_aload_n hx hb dX7_begin_297 rfl (lv_at hl 0 rfl) ?_
  refine lv_aload_n hx hb dX7_begin_298 rfl (lv_at hl 0 rfl) ?_
  refine lv_bipush (v := 32) hx hb dX7_begin_299 (by decide) ?_
  refine lv_iload_n hx hb dX7_begin_301 rfl (lv_at hl 1 rfl) ?_
  refine lv_imul hx hb dX7_begin_302 ?_
  refine lv_bipush (v := 16) hx hb dX7_begin_303 (by decide) ?_
  refine lv_iadd hx hb dX7_begin_305 ?_
  refine lv_iconst (v := 2) hx hb dX7_begin_306 (by decide) ?_
  refine ck_callVl (rest := [.ref (ck_ad G 10 0)]) ⟨hx, hb, hml, hown, hts⟩ hw (hM 10 (by decide) (by decide)) rfl rfl (ct_X7_number l G hM h) (cwV 2 hts gX7_begin_X7_number rfl rfl rfl (by decide +kernel) ⟨(Nat.le_of_ble_eq_true rfl), (Nat.le_of_ble_eq_true rfl)⟩) rfl hl.1 rfl (Nat.le_of_ble_eq_true rfl) dX7_begin_307 ⟨(Nat.le_of_ble_eq_true rfl), (Nat.le_of_ble_eq_true rfl)⟩ (fun y_3 σ2 H locs h hw => ?_)
  refine lv_l2i hx hb dX7_begin_310 rfl ?_
  refine lv_sipush (v := 511) hx hb dX7_begin_311 (by decide) ?_
  refine lv_iand hx hb dX7_begin_314 ?_
  refine ck_puti hx hb hts inX7 tyX7 tyX7_ok nmX7 hown hw (hM 10 (by decide) (by decide)) rfl rfl 26 (by decide) (hts _ (List.mem_of_getElem? (i := 11) rfl)) rfl rfl rfl (Nat.le_of_ble_eq_true rfl) rfl dX7_begin_315 (fun H locs hw => ?_)
  obtain ⟨σ4, eσ4⟩ : ∃ z : ck_S, z = ck_ui σ2 10 0 26 ((y_3.toInt32) &&& 511) := ⟨_, rfl⟩
  rw [← eσ4] at hw
  have h := h σ4 eσ4
  exact ck_vret X hw h dX7_begin_318
set_option maxHeartbeats 4000000 in
set_option maxRecDepth 100000 in
theorem wk_X7_begin_190 {p : Program} {l : Launch} {e : Env} {s : State} {m : MethodId} {args : Array Value} {below : List Frame} {meth : Method} {c : Code} {G : ck_G} (X : ck_X p s m meth c args cX7_begin 3 none RX7 wsX7_begin) (hM : ck_inM G) {post : ck_S → Prop} {K146 : ck_S → Int32 → Int32 → Prop} (hK146 : ∀ (σ : ck_S) (x1 : Int32) (x2 : Int32) (H : Heap) (locs : List Loc) (ls : Array Slot), K146 σ x1 x2 → ck_H G s H locs σ → lv_has ls 3 [(0, .ref (ck_ad G 10 0)), (1, .int x1), (2, .int x2)] → W p l e ({ frames := 2, cells := 0, slots := 0, locals := 49 } : Room) s m args below meth c H locs 0 0 (MQ below (va_Qv post (ck_Q G) (ck_A G s.heap.size)) args s 0 0 (ck_A G s.heap.size)) (F0 m 146 ls [])) {σ : ck_S} {x1 : Int32} {x2 : Int32} {H : Heap} {locs : List Loc} {ls : Array Slot} (h : sp_X7_begin_190 (ck_nc G) (ck_nb G) post K146 σ x1 x2) (hw : ck_H G s H locs σ) (hl : lv_has ls 3 [(0, .ref (ck_ad G 10 0)), (1, .int x1), (2, .int x2)]) : W p l e ({ frames := 2, cells := 0, slots := 0, locals := 49 } : Room) s m args below meth c H locs 0 0 (MQ below (va_Qv post (ck_Q G) (ck_A G s.heap.size)) args s 0 0 (ck_A G s.heap.size)) (F0 m 190 ls []) := by
  obtain ⟨hx, hb, hr, hml, hown, hts, hlocks⟩ := id X
  have inX7 : ∀ w ∈ wsX70, w ∈ wsX7_begin := fun _ h => List.mem_cons_of_mem _ (List.mem_append_right _ (h))
  unfold sp_X7_begin_190 at h
  obtain ⟨x_1, ex_1⟩ : ∃ z : Int32, z = x2 + 1 := ⟨_, rfl⟩
  have h := h x_1 ex_1
  refine lv_iinc (v := x_1) (lv' := [(2, .int x_1), (0, .ref (ck_ad G 10 0)), (1, .int x1)]) hx hb dX7_begin_190 hl (k := 2) rfl (by rw [ex_1]; rfl) (by decide) rfl (fun ls hl => ?_)
  refine lv_goto (tgt := 146) hx hb dX7_begin_193 (by decide) ?_
  exact hK146 _ _ _ _ _ _ h hw (lv_sub hl [1, 2, 0] rfl)
set_option maxHeartbeats 4000000 in
set_option maxRecDepth 100000 in
theorem wk_X7_begin_188 {p : Program} {l : Launch} {e : Env} {s : State} {m : MethodId} {args : Array Value} {below : List Frame} {meth : Method} {c : Code} {G : ck_G} (X : ck_X p s m meth c args cX7_begin 3 none RX7 wsX7_begin) (hM : ck_inM G) {post : ck_S → Prop} {K146 : ck_S → Int32 → Int32 → Prop} (hK146 : ∀ (σ : ck_S) (x1 : Int32) (x2 : Int32) (H : Heap) (locs : List Loc) (ls : Array Slot), K146 σ x1 x2 → ck_H G s H locs σ → lv_has ls 3 [(0, .ref (ck_ad G 10 0)), (1, .int x1), (2, .int x2)] → W p l e ({ frames := 2, cells := 0, slots := 0, locals := 49 } : Room) s m args below meth c H locs 0 0 (MQ below (va_Qv post (ck_Q G) (ck_A G s.heap.size)) args s 0 0 (ck_A G s.heap.size)) (F0 m 146 ls [])) {σ : ck_S} {x2 : Int32} {H : Heap} {locs : List Loc} {ls : Array Slot} (h : sp_X7_begin_188 (ck_nc G) (ck_nb G) post K146 σ x2) (hw : ck_H G s H locs σ) (hl : lv_has ls 3 [(0, .ref (ck_ad G 10 0)), (2, .int x2)]) : W p l e ({ frames := 2, cells := 0, slots := 0, locals := 49 } : Room) s m args below meth c H locs 0 0 (MQ below (va_Qv post (ck_Q G) (ck_A G s.heap.size)) args s 0 0 (ck_A G s.heap.size)) (F0 m 188 ls []) := by
  obtain ⟨hx, hb, hr, hml, hown, hts, hlocks⟩ := id X
  have inX7 : ∀ w ∈ wsX70, w ∈ wsX7_begin := fun _ h => List.mem_cons_of_mem _ (List.mem_append_right _ (h))
  unfold sp_X7_begin_188 at h
  refine lv_iload_n hx hb dX7_begin_188 rfl (lv_at hl 1 rfl) ?_
  refine lv_istore_n (lv' := [(1, .int x2), (0, .ref (ck_ad G 10 0)), (2, .int x2)]) hx hb dX7_begin_189 rfl hl (by decide) rfl (fun ls hl => ?_)
  exact wk_X7_begin_190 X hM hK146 h hw (lv_sub hl [1, 0, 2] rfl)
set_option maxHeartbeats 4000000 in
set_option maxRecDepth 100000 in
theorem wk_X7_begin_146 {p : Program} {l : Launch} {e : Env} {s : State} {m : MethodId} {args : Array Value} {below : List Frame} {meth : Method} {c : Code} {G : ck_G} (X : ck_X p s m meth c args cX7_begin 3 none RX7 wsX7_begin) (hM : ck_inM G) {post : ck_S → Prop} : ∀ (fu : Nat) (σ : ck_S) (x1 : Int32) (x2 : Int32) (H : Heap) (locs : List Loc) (ls : Array Slot), lk_3 (bd_X7_begin_146 (ck_nc G) (ck_nb G) post) fu σ x1 x2 → ck_H G s H locs σ → lv_has ls 3 [(0, .ref (ck_ad G 10 0)), (1, .int x1), (2, .int x2)] → W p l e ({ frames := 2, cells := 0, slots := 0, locals := 49 } : Room) s m args below meth c H locs 0 0 (MQ below (va_Qv post (ck_Q G) (ck_A G s.heap.size)) args s 0 0 (ck_A G s.heap.size)) (F0 m 146 ls []) := by
  obtain ⟨hx, hb, hr, hml, hown, hts, hlocks⟩ := id X
  have inX7 : ∀ w ∈ wsX70, w ∈ wsX7_begin := fun _ h => List.mem_cons_of_mem _ (List.mem_append_right _ (h))
  intro fu
  induction fu with
  | zero => intro σ x1 x2 H locs ls h hw hl; exact h.elim
  | succ fu hK146 =>
    intro σ x1 x2 H locs ls h hw hl
    have h : bd_X7_begin_146 (ck_nc G) (ck_nb G) post (lk_3 (bd_X7_begin_146 (ck_nc G) (ck_nb G) post) fu) σ x1 x2 := h
    unfold bd_X7_begin_146 at h
    refine lv_iload_n hx hb dX7_begin_146 rfl (lv_at hl 2 rfl) ?_
    refine lv_aload_n hx hb dX7_begin_147 rfl (lv_at hl 0 rfl) ?_
    refine ck_get hx hb hts inX7 hown hw (hM 10 (by decide) (by decide)) rfl rfl 2 (by decide) (hts _ (List.mem_of_getElem? (i := 22) rfl)) rfl dX7_begin_148 ?_
    obtain ⟨hA, hB⟩ := h
    refine lv_icmp_ge (tgt := 196) hx hb dX7_begin_151 (by decide) (fun c1 => ?_) (fun c1 => ?_)
    · have h := hA c1
      refine lv_iload_n hx hb dX7_begin_196 rfl (lv_at hl 1 rfl) ?_
      obtain ⟨hA, hB⟩ := h
      refine lv_if_lt (tgt := 318) hx hb dX7_begin_197 (by decide) (fun c2 => ?_) (fun c2 => ?_)
      · have h := hA c2
        exact ck_vret X hw h dX7_begin_318
      · have h := hB c2
        refine lv_aload_n hx hb dX7_begin_200 rfl (lv_at hl 0 rfl) ?_
        refine lv_aload_n hx hb dX7_begin_201 rfl (lv_at hl 0 rfl) ?_
        refine lv_bipush (v := 32) hx hb dX7_begin_202 (by decide) ?_
        refine lv_iload_n hx hb dX7_begin_204 rfl (lv_at hl 1 rfl) ?_
        refine lv_imul hx hb dX7_begin_205 ?_
        refine lv_iconst (v := 4) hx hb dX7_begin_206 (by decide) ?_
        refine ck_callVl (rest := [.ref (ck_ad G 10 0)]) ⟨hx, hb, hml, hown, hts⟩ hw (hM 10 (by decide) (by decide)) rfl rfl (ct_X7_number l G hM h) (cwV 2 hts gX7_begin_X7_number rfl rfl rfl (by decide +kernel) ⟨(Nat.le_of_ble_eq_true rfl), (Nat.le_of_ble_eq_true rfl)⟩) rfl hl.1 rfl (Nat.le_of_ble_eq_true rfl) dX7_begin_207 ⟨(Nat.le_of_ble_eq_true rfl), (Nat.le_of_ble_eq_true rfl)⟩ (fun y_4 σ3 H locs h hw => ?_)
        refine lv_l2i hx hb dX7_begin_210 rfl ?_
        refine lv_iconst (v := 1) hx hb dX7_begin_211 (by decide) ?_
        refine lv_iadd hx hb dX7_begin_212 ?_
        refine ck_puti hx hb hts inX7 tyX7 tyX7_ok nmX7 hown hw (hM 10 (by decide) (by decide)) rfl rfl 8 (by decide) (hts _ (List.mem_of_getElem? (i := 15) rfl)) rfl rfl rfl (Nat.le_of_ble_eq_true rfl) rfl dX7_begin_213 (fun H locs hw => ?_)
        obtain ⟨σ5, eσ5⟩ : ∃ z : ck_S, z = ck_ui σ3 10 0 8 ((y_4.toInt32) + 1) := ⟨_, rfl⟩
        rw [← eσ5] at hw
        have h := h σ5 eσ5
        refine lv_aload_n hx hb dX7_begin_216 rfl (lv_at hl 0 rfl) ?_
        refine lv_aload_n hx hb dX7_begin_217 rfl (lv_at hl 0 rfl) ?_
        refine lv_bipush (v := 32) hx hb dX7_begin_218 (by decide) ?_
        refine lv_iload_n hx hb dX7_begin_220 rfl (lv_at hl 1 rfl) ?_
        refine lv_imul hx hb dX7_begin_221 ?_
        refine lv_iconst (v := 4) hx hb dX7_begin_222 (by decide) ?_
        refine lv_iadd hx hb dX7_begin_223 ?_
        refine lv_iconst (v := 4) hx hb dX7_begin_224 (by decide) ?_
        refine ck_callVl (rest := [.ref (ck_ad G 10 0)]) ⟨hx, hb, hml, hown, hts⟩ hw (hM 10 (by decide) (by decide)) rfl rfl (ct_X7_number l G hM h) (cwV 2 hts gX7_begin_X7_number rfl rfl rfl (by decide +kernel) ⟨(Nat.le_of_ble_eq_true rfl), (Nat.le_of_ble_eq_true rfl)⟩) rfl hl.1 rfl (Nat.le_of_ble_eq_true rfl) dX7_begin_225 ⟨(Nat.le_of_ble_eq_true rfl), (Nat.le_of_ble_eq_true rfl)⟩ (fun y_7 σ6 H locs h hw => ?_)
        refine lv_l2i hx hb dX7_begin_228 rfl ?_
        refine ck_puti hx hb hts inX7 tyX7 tyX7_ok nmX7 hown hw (hM 10 (by decide) (by decide)) rfl rfl 10 (by decide) (hts _ (List.mem_of_getElem? (i := 2) rfl)) rfl rfl rfl (Nat.le_of_ble_eq_true rfl) rfl dX7_begin_229 (fun H locs hw => ?_)
        obtain ⟨σ8, eσ8⟩ : ∃ z : ck_S, z = ck_ui σ6 10 0 10 (y_7.toInt32) := ⟨_, rfl⟩
        rw [← eσ8] at hw
        have h := h σ8 eσ8
        refine lv_aload_n hx hb dX7_begin_232 rfl (lv_at hl 0 rfl) ?_
        refine lv_aload_n hx hb dX7_begin_233 rfl (lv_at hl 0 rfl) ?_
        refine lv_bipush (v := 32) hx hb dX7_begin_234 (by decide) ?_
        refine lv_iload_n hx hb dX7_begin_236 rfl (lv_at hl 1 rfl) ?_
        refine lv_imul hx hb dX7_begin_237 ?_
        refine lv_bipush (v := 8) hx hb dX7_begin_238 (by decide) ?_
        refine lv_iadd hx hb dX7_begin_240 ?_
        refine lv_bipush (v := 8) hx hb dX7_begin_241 (by decide) ?_
        refine ck_callVl (rest := [.ref (ck_ad G 10 0)]) ⟨hx, hb, hml, hown, hts⟩ hw (hM 10 (by decide) (by decide)) rfl rfl (ct_X7_number l G hM h) (cwV 2 hts gX7_begin_X7_number rfl rfl rfl (by decide +kernel) ⟨(Nat.le_of_ble_eq_true rfl), (Nat.le_of_ble_eq_true rfl)⟩) rfl hl.1 rfl (Nat.le_of_ble_eq_true rfl) dX7_begin_243 ⟨(Nat.le_of_ble_eq_true rfl), (Nat.le_of_ble_eq_true rfl)⟩ (fun y_10 σ9 H locs h hw => ?_)
        refine ck_putj hx hb hts inX7 tyX7 tyX7_ok nmX7 hown hw (hM 10 (by decide) (by decide)) rfl rfl 11 (by decide) (hts _ (List.mem_of_getElem? (i := 3) rfl)) rfl rfl rfl (Nat.le_of_ble_eq_true rfl) rfl dX7_begin_246 (fun H locs hw => ?_)
        obtain ⟨σ11, eσ11⟩ : ∃ z : ck_S, z = ck_uj σ9 10 0 11 y_10 := ⟨_, rfl⟩
        rw [← eσ11] at hw
        have h := h σ11 eσ11
        refine lv_aload_n hx hb dX7_begin_249 rfl (lv_at hl 0 rfl) ?_
        refine lv_aload_n hx hb dX7_begin_250 rfl (lv_at hl 0 rfl) ?_
        refine ck_get hx hb hts inX7 hown hw (hM 10 (by decide) (by decide)) rfl rfl 11 (by decide) (hts _ (List.mem_of_getElem? (i := 3) rfl)) rfl dX7_begin_251 ?_
        refine lv_lconst (v := 0) hx hb dX7_begin_254 (by decide) ?_
        refine W.lcmp hx hb dX7_begin_255 ?_
        obtain ⟨hA, hB⟩ := h
        refine lv_if_ge (tgt := 263) hx hb dX7_begin_256 (by decide) (fun c12 => ?_) (fun c12 => ?_)
        · have h := hA c12
          refine lv_aload_n hx hb dX7_begin_263 rfl (lv_at hl 0 rfl) ?_
          refine ck_get hx hb hts inX7 hown hw (hM 10 (by decide) (by decide)) rfl rfl 11 (by decide) (hts _ (List.mem_of_getElem? (i := 3) rfl)) rfl dX7_begin_264 ?_
          refine lv_ldc2 hx hb hown (hts _ (List.mem_of_getElem? (i := 23) rfl)) dX7_begin_267 ?_
          refine lv_aload_n hx hb dX7_begin_270 rfl (lv_at hl 0 rfl) ?_
          refine ck_get hx hb hts inX7 hown hw (hM 10 (by decide) (by decide)) rfl rfl 3 (by decide) (hts _ (List.mem_of_getElem? (i := 24) rfl)) rfl dX7_begin_271 ?_
          refine lv_lmul hx hb dX7_begin_274 ?_
          refine W.lcmp hx hb dX7_begin_275 ?_
          obtain ⟨hA, hB⟩ := h
          refine lv_if_le (tgt := 290) hx hb dX7_begin_276 (by decide) (fun c13 => ?_) (fun c13 => ?_)
          · have h := hA c13
            refine lv_aload_n hx hb dX7_begin_290 rfl (lv_at hl 0 rfl) ?_
            refine ck_get hx hb hts inX7 hown hw (hM 10 (by decide) (by decide)) rfl rfl 11 (by decide) (hts _ (List.mem_of_getElem? (i := 3) rfl)) rfl dX7_begin_291 ?_
            exact wk_X7_begin_294 X hM h hw (lv_sub hl [0, 1] rfl)
          · have h := hB c13
            refine lv_ldc2 hx hb hown (hts _ (List.mem_of_getElem? (i := 23) rfl)) dX7_begin_279 ?_
            refine lv_aload_n hx hb dX7_begin_282 rfl (lv_at hl 0 rfl) ?_
            refine ck_get hx hb hts inX7 hown hw (hM 10 (by decide) (by decide)) rfl rfl 3 (by decide) (hts _ (List.mem_of_getElem? (i := 24) rfl)) rfl dX7_begin_283 ?_
            refine lv_lmul hx hb dX7_begin_286 ?_
            refine lv_goto (tgt := 294) hx hb dX7_begin_287 (by decide) ?_
            exact wk_X7_begin_294 X hM h hw (lv_sub hl [0, 1] rfl)
        · have h := hB c12
          refine lv_lconst (v := 0) hx hb dX7_begin_259 (by decide) ?_
          refine lv_goto (tgt := 294) hx hb dX7_begin_260 (by decide) ?_
          exact wk_X7_begin_294 X hM h hw (lv_sub hl [0, 1] rfl)
    · have h := hB c1
      refine lv_aload_n hx hb dX7_begin_154 rfl (lv_at hl 0 rfl) ?_
      refine lv_iload_n hx hb dX7_begin_155 rfl (lv_at hl 2 rfl) ?_
      refine ck_callVi (rest := []) ⟨hx, hb, hml, hown, hts⟩ hw (hM 10 (by decide) (by decide)) rfl rfl (ct_X7_isRight l G hM h) (cwV 1 hts gX7_begin_X7_isRight rfl rfl rfl (by decide +kernel) ⟨(Nat.le_of_ble_eq_true rfl), (Nat.le_of_ble_eq_true rfl)⟩) rfl hl.1 rfl (Nat.le_of_ble_eq_true rfl) dX7_begin_156 ⟨(Nat.le_of_ble_eq_true rfl), (Nat.le_of_ble_eq_true rfl)⟩ (fun x_15 σ14 H locs h hw => ?_)
      obtain ⟨hA, hB⟩ := h
      refine lv_if_eq (tgt := 190) hx hb dX7_begin_159 (by decide) (fun c16 => ?_) (fun c16 => ?_)
      · have h := hA c16
        exact wk_X7_begin_190 X hM hK146 h hw (lv_sub hl [0, 1, 2] rfl)
      · have h := hB c16
        refine lv_iload_n hx hb dX7_begin_162 rfl (lv_at hl 1 rfl) ?_
        obtain ⟨hA, hB⟩ := h
        refine lv_if_lt (tgt := 188) hx hb dX7_begin_163 (by decide) (fun c17 => ?_) (fun c17 => ?_)
        · have h := hA c17
          exact wk_X7_begin_188 X hM hK146 h hw (lv_sub hl [0, 2] rfl)
        · have h := hB c17
          refine lv_aload_n hx hb dX7_begin_166 rfl (lv_at hl 0 rfl) ?_
          refine lv_bipush (v := 32) hx hb dX7_begin_167 (by decide) ?_
          refine lv_iload_n hx hb dX7_begin_169 rfl (lv_at hl 2 rfl) ?_
          refine lv_imul hx hb dX7_begin_170 ?_
          refine lv_iconst (v := 4) hx hb dX7_begin_171 (by decide) ?_
          refine ck_callVl (rest := []) ⟨hx, hb, hml, hown, hts⟩ hw (hM 10 (by decide) (by decide)) rfl rfl (ct_X7_number l G hM h) (cwV 2 hts gX7_begin_X7_number rfl rfl rfl (by decide +kernel) ⟨(Nat.le_of_ble_eq_true rfl), (Nat.le_of_ble_eq_true rfl)⟩) rfl hl.1 rfl (Nat.le_of_ble_eq_true rfl) dX7_begin_172 ⟨(Nat.le_of_ble_eq_true rfl), (Nat.le_of_ble_eq_true rfl)⟩ (fun y_19 σ18 H locs h hw => ?_)
          refine lv_aload_n hx hb dX7_begin_175 rfl (lv_at hl 0 rfl) ?_
          refine lv_bipush (v := 32) hx hb dX7_begin_176 (by decide) ?_
          refine lv_iload_n hx hb dX7_begin_178 rfl (lv_at hl 1 rfl) ?_
          refine lv_imul hx hb dX7_begin_179 ?_
          refine lv_iconst (v := 4) hx hb dX7_begin_180 (by decide) ?_
          refine ck_callVl (rest := [.long y_19]) ⟨hx, hb, hml, hown, hts⟩ hw (hM 10 (by decide) (by decide)) rfl rfl (ct_X7_number l G hM h) (cwV 2 hts gX7_begin_X7_number rfl rfl rfl (by decide +kernel) ⟨(Nat.le_of_ble_eq_true rfl), (Nat.le_of_ble_eq_true rfl)⟩) rfl hl.1 rfl (Nat.le_of_ble_eq_true rfl) dX7_begin_181 ⟨(Nat.le_of_ble_eq_true rfl), (Nat.le_of_ble_eq_true rfl)⟩ (fun y_21 σ20 H locs h hw => ?_)
          refine W.lcmp hx hb dX7_begin_184 ?_
          obtain ⟨hA, hB⟩ := h
          refine lv_if_le (tgt := 190) hx hb dX7_begin_185 (by decide) (fun c22 => ?_) (fun c22 => ?_)
          · have h := hA c22
            exact wk_X7_begin_190 X hM hK146 h hw (lv_sub hl [0, 1, 2] rfl)
          · have h := hB c22
            exact wk_X7_begin_188 X hM hK146 h hw (lv_sub hl [0, 2] rfl)
set_option maxHeartbeats 4000000 in
set_option maxRecDepth 100000 in
theorem wk_X7_begin_99 {p : Program} {l : Launch} {e : Env} {s : State} {m : MethodId} {args : Array Value} {below : List Frame} {meth : Method} {c : Code} {G : ck_G} (X : ck_X p s m meth c args cX7_begin 3 none RX7 wsX7_begin) (hM : ck_inM G) {post : ck_S → Prop} : ∀ (fu : Nat) (σ : ck_S) (x1 : Int32) (H : Heap) (locs : List Loc) (ls : Array Slot), lk_2 (bd_X7_begin_99 (ck_nc G) (ck_nb G) post) fu σ x1 → ck_H G s H locs σ → lv_has ls 3 [(0, .ref (ck_ad G 10 0)), (1, .int x1)] → W p l e ({ frames := 2, cells := 0, slots := 0, locals := 49 } : Room) s m args below meth c H locs 0 0 (MQ below (va_Qv post (ck_Q G) (ck_A G s.heap.size)) args s 0 0 (ck_A G s.heap.size)) (F0 m 99 ls []) := by
  obtain ⟨hx, hb, hr, hml, hown, hts, hlocks⟩ := id X
  have inX7 : ∀ w ∈ wsX70, w ∈ wsX7_begin := fun _ h => List.mem_cons_of_mem _ (List.mem_append_right _ (h))
  intro fu
  induction fu with
  | zero => intro σ x1 H locs ls h hw hl; exact h.elim
  | succ fu hK99 =>
    intro σ x1 H locs ls h hw hl
    have h : bd_X7_begin_99 (ck_nc G) (ck_nb G) post (lk_2 (bd_X7_begin_99 (ck_nc G) (ck_nb G) post) fu) σ x1 := h
    unfold bd_X7_begin_99 at h
    refine lv_iload_n hx hb dX7_begin_99 rfl (lv_at hl 1 rfl) ?_
    refine lv_iconst (v := 4) hx hb dX7_begin_100 (by decide) ?_
    obtain ⟨hA, hB⟩ := h
    refine lv_icmp_ge (tgt := 142) hx hb dX7_begin_101 (by decide) (fun c1 => ?_) (fun c1 => ?_)
    · have h := hA c1
      refine lv_iconst (v := (-1)) hx hb dX7_begin_142 (by decide) ?_
      refine lv_istore_n (lv' := [(1, .int (-1)), (0, .ref (ck_ad G 10 0))]) hx hb dX7_begin_143 rfl hl (by decide) rfl (fun ls hl => ?_)
      refine lv_iconst (v := 0) hx hb dX7_begin_144 (by decide) ?_
      refine lv_istore_n (lv' := [(2, .int 0), (1, .int (-1)), (0, .ref (ck_ad G 10 0))]) hx hb dX7_begin_145 rfl hl (by decide) rfl (fun ls hl => ?_)
      obtain ⟨fu, h⟩ := h
      exact wk_X7_begin_146 X hM fu _ _ _ _ _ _ h hw (lv_sub hl [2, 1, 0] rfl)
    · have h := hB c1
      refine lv_aload_n hx hb dX7_begin_104 rfl (lv_at hl 0 rfl) ?_
      refine ck_get hx hb hts inX7 hown hw (hM 10 (by decide) (by decide)) rfl rfl 14 (by decide) (hts _ (List.mem_of_getElem? (i := 17) rfl)) rfl dX7_begin_105 ?_
      refine lv_iload_n hx hb dX7_begin_108 rfl (lv_at hl 1 rfl) ?_
      refine lv_ldc2 hx hb hown (hts _ (List.mem_of_getElem? (i := 18) rfl)) dX7_begin_109 ?_
      obtain ⟨n2, h⟩ := h
      refine ck_last hx hb hw (hM 13 (by decide) (by decide)) (fun _ => rfl) n2 dX7_begin_112 (fun H locs hw => ?_)
      obtain ⟨σ3, eσ3⟩ : ∃ z : ck_S, z = ck_uj σ 13 0 (Int32.toNatClampNeg x1) 160 := ⟨_, rfl⟩
      rw [← eσ3] at hw
      have h := h σ3 eσ3
      refine lv_aload_n hx hb dX7_begin_113 rfl (lv_at hl 0 rfl) ?_
      refine ck_get hx hb hts inX7 hown hw (hM 10 (by decide) (by decide)) rfl rfl 21 (by decide) (hts _ (List.mem_of_getElem? (i := 19) rfl)) rfl dX7_begin_114 ?_
      refine lv_iload_n hx hb dX7_begin_117 rfl (lv_at hl 1 rfl) ?_
      refine lv_iconst (v := 0) hx hb dX7_begin_118 (by decide) ?_
      obtain ⟨n4, h⟩ := h
      refine ck_iast hx hb hw (hM 17 (by decide) (by decide)) (fun _ => rfl) n4 dX7_begin_119 (fun H locs hw => ?_)
      obtain ⟨σ5, eσ5⟩ : ∃ z : ck_S, z = ck_ui σ3 17 0 (Int32.toNatClampNeg x1) 0 := ⟨_, rfl⟩
      rw [← eσ5] at hw
      have h := h σ5 eσ5
      refine lv_aload_n hx hb dX7_begin_120 rfl (lv_at hl 0 rfl) ?_
      refine ck_get hx hb hts inX7 hown hw (hM 10 (by decide) (by decide)) rfl rfl 22 (by decide) (hts _ (List.mem_of_getElem? (i := 20) rfl)) rfl dX7_begin_121 ?_
      refine lv_iload_n hx hb dX7_begin_124 rfl (lv_at hl 1 rfl) ?_
      refine lv_sipush (v := 1000) hx hb dX7_begin_125 (by decide) ?_
      obtain ⟨n6, h⟩ := h
      refine ck_iast hx hb hw (hM 18 (by decide) (by decide)) (fun _ => rfl) n6 dX7_begin_128 (fun H locs hw => ?_)
      obtain ⟨σ7, eσ7⟩ : ∃ z : ck_S, z = ck_ui σ5 18 0 (Int32.toNatClampNeg x1) 1000 := ⟨_, rfl⟩
      rw [← eσ7] at hw
      have h := h σ7 eσ7
      refine lv_aload_n hx hb dX7_begin_129 rfl (lv_at hl 0 rfl) ?_
      refine ck_get hx hb hts inX7 hown hw (hM 10 (by decide) (by decide)) rfl rfl 30 (by decide) (hts _ (List.mem_of_getElem? (i := 21) rfl)) rfl dX7_begin_130 ?_
      refine lv_iload_n hx hb dX7_begin_133 rfl (lv_at hl 1 rfl) ?_
      refine lv_iconst (v := 0) hx hb dX7_begin_134 (by decide) ?_
      obtain ⟨n8, h⟩ := h
      refine ck_iast hx hb hw (hM 20 (by decide) (by decide)) (fun _ => rfl) n8 dX7_begin_135 (fun H locs hw => ?_)
      obtain ⟨σ9, eσ9⟩ : ∃ z : ck_S, z = ck_ui σ7 20 0 (Int32.toNatClampNeg x1) 0 := ⟨_, rfl⟩
      rw [← eσ9] at hw
      have h := h σ9 eσ9
      obtain ⟨x_10, ex_10⟩ : ∃ z : Int32, z = x1 + 1 := ⟨_, rfl⟩
      have h := h x_10 ex_10
      refine lv_iinc (v := x_10) (lv' := [(1, .int x_10), (0, .ref (ck_ad G 10 0))]) hx hb dX7_begin_136 hl (k := 1) rfl (by rw [ex_10]; rfl) (by decide) rfl (fun ls hl => ?_)
      refine lv_goto (tgt := 99) hx hb dX7_begin_139 (by decide) ?_
      exact hK99 _ _ _ _ _ h hw (lv_sub hl [1, 0] rfl)
set_option maxHeartbeats 4000000 in
set_option maxRecDepth 100000 in
theorem wk_X7_begin_78 {p : Program} {l : Launch} {e : Env} {s : State} {m : MethodId} {args : Array Value} {below : List Frame} {meth : Method} {c : Code} {G : ck_G} (X : ck_X p s m meth c args cX7_begin 3 none RX7 wsX7_begin) (hM : ck_inM G) {post : ck_S → Prop} : ∀ (fu : Nat) (σ : ck_S) (x1 : Int32) (H : Heap) (locs : List Loc) (ls : Array Slot), lk_2 (bd_X7_begin_78 (ck_nc G) (ck_nb G) post) fu σ x1 → ck_H G s H locs σ → lv_has ls 3 [(0, .ref (ck_ad G 10 0)), (1, .int x1)] → W p l e ({ frames := 2, cells := 0, slots := 0, locals := 49 } : Room) s m args below meth c H locs 0 0 (MQ below (va_Qv post (ck_Q G) (ck_A G s.heap.size)) args s 0 0 (ck_A G s.heap.size)) (F0 m 78 ls []) := by
  obtain ⟨hx, hb, hr, hml, hown, hts, hlocks⟩ := id X
  have inX7 : ∀ w ∈ wsX70, w ∈ wsX7_begin := fun _ h => List.mem_cons_of_mem _ (List.mem_append_right _ (h))
  intro fu
  induction fu with
  | zero => intro σ x1 H locs ls h hw hl; exact h.elim
  | succ fu hK78 =>
    intro σ x1 H locs ls h hw hl
    have h : bd_X7_begin_78 (ck_nc G) (ck_nb G) post (lk_2 (bd_X7_begin_78 (ck_nc G) (ck_nb G) post) fu) σ x1 := h
    unfold bd_X7_begin_78 at h
    refine lv_iload_n hx hb dX7_begin_78 rfl (lv_at hl 1 rfl) ?_
    refine lv_bipush (v := 7) hx hb dX7_begin_79 (by decide) ?_
    obtain ⟨hA, hB⟩ := h
    refine lv_icmp_ge (tgt := 97) hx hb dX7_begin_81 (by decide) (fun c1 => ?_) (fun c1 => ?_)
    · have h := hA c1
      refine lv_iconst (v := 0) hx hb dX7_begin_97 (by decide) ?_
      refine lv_istore_n (lv' := [(1, .int 0), (0, .ref (ck_ad G 10 0))]) hx hb dX7_begin_98 rfl hl (by decide) rfl (fun ls hl => ?_)
      obtain ⟨fu, h⟩ := h
      exact wk_X7_begin_99 X hM fu _ _ _ _ _ h hw (lv_sub hl [1, 0] rfl)
    · have h := hB c1
      refine lv_aload_n hx hb dX7_begin_84 rfl (lv_at hl 0 rfl) ?_
      refine ck_get hx hb hts inX7 hown hw (hM 10 (by decide) (by decide)) rfl rfl 25 (by decide) (hts _ (List.mem_of_getElem? (i := 16) rfl)) rfl dX7_begin_85 ?_
      refine lv_iload_n hx hb dX7_begin_88 rfl (lv_at hl 1 rfl) ?_
      refine lv_iconst (v := 0) hx hb dX7_begin_89 (by decide) ?_
      obtain ⟨n2, h⟩ := h
      refine ck_iast hx hb hw (hM 19 (by decide) (by decide)) (fun _ => rfl) n2 dX7_begin_90 (fun H locs hw => ?_)
      obtain ⟨σ3, eσ3⟩ : ∃ z : ck_S, z = ck_ui σ 19 0 (Int32.toNatClampNeg x1) 0 := ⟨_, rfl⟩
      rw [← eσ3] at hw
      have h := h σ3 eσ3
      obtain ⟨x_4, ex_4⟩ : ∃ z : Int32, z = x1 + 1 := ⟨_, rfl⟩
      have h := h x_4 ex_4
      refine lv_iinc (v := x_4) (lv' := [(1, .int x_4), (0, .ref (ck_ad G 10 0))]) hx hb dX7_begin_91 hl (k := 1) rfl (by rw [ex_4]; rfl) (by decide) rfl (fun ls hl => ?_)
      refine lv_goto (tgt := 78) hx hb dX7_begin_94 (by decide) ?_
      exact hK78 _ _ _ _ _ h hw (lv_sub hl [1, 0] rfl)
set_option maxHeartbeats 4000000 in
set_option maxRecDepth 100000 in
theorem wk_X7_begin_0 {p : Program} {l : Launch} {e : Env} {s : State} {m : MethodId} {args : Array Value} {below : List Frame} {meth : Method} {c : Code} {G : ck_G} (X : ck_X p s m meth c args cX7_begin 3 none RX7 wsX7_begin) (hM : ck_inM G) {post : ck_S → Prop} {σ : ck_S} {H : Heap} {locs : List Loc} {ls : Array Slot} (h : sp_X7_begin (ck_nc G) (ck_nb G) σ post) (hw : ck_H G s H locs σ) (hl : lv_has ls 3 [(0, .ref (ck_ad G 10 0))]) : W p l e ({ frames := 2, cells := 0, slots := 0, locals := 49 } : Room) s m args below meth c H locs 0 0 (MQ below (va_Qv post (ck_Q G) (ck_A G s.heap.size)) args s 0 0 (ck_A G s.heap.size)) (F0 m 0 ls []) := by
  obtain ⟨hx, hb, hr, hml, hown, hts, hlocks⟩ := id X
  have inX7 : ∀ w ∈ wsX70, w ∈ wsX7_begin := fun _ h => List.mem_cons_of_mem _ (List.mem_append_right _ (h))
  unfold sp_X7_begin at h
  refine lv_aload_n hx hb dX7_begin_0 rfl (lv_at hl 0 rfl) ?_
  refine lv_iconst (v := 0) hx hb dX7_begin_1 (by decide) ?_
  refine ck_puti hx hb hts inX7 tyX7 tyX7_ok nmX7 hown hw (hM 10 (by decide) (by decide)) rfl rfl 9 (by decide) (hts _ (List.mem_of_getElem? (i := 1) rfl)) rfl rfl rfl (Nat.le_of_ble_eq_true rfl) rfl dX7_begin_2 (fun H locs hw => ?_)
  obtain ⟨σ1, eσ1⟩ : ∃ z : ck_S, z = ck_ui σ 10 0 9 0 := ⟨_, rfl⟩
  rw [← eσ1] at hw
  have h := h σ1 eσ1
  refine lv_aload_n hx hb dX7_begin_5 rfl (lv_at hl 0 rfl) ?_
  refine lv_iconst (v := 0) hx hb dX7_begin_6 (by decide) ?_
  refine ck_puti hx hb hts inX7 tyX7 tyX7_ok nmX7 hown hw (hM 10 (by decide) (by decide)) rfl rfl 10 (by decide) (hts _ (List.mem_of_getElem? (i := 2) rfl)) rfl rfl rfl (Nat.le_of_ble_eq_true rfl) rfl dX7_begin_7 (fun H locs hw => ?_)
  obtain ⟨σ2, eσ2⟩ : ∃ z : ck_S, z = ck_ui σ1 10 0 10 0 := ⟨_, rfl⟩
  rw [← eσ2] at hw
  have h := h σ2 eσ2
  refine lv_aload_n hx hb dX7_begin_10 rfl (lv_at hl 0 rfl) ?_
  refine lv_lconst (v := 0) hx hb dX7_begin_11 (by decide) ?_
  refine ck_putj hx hb hts inX7 tyX7 tyX7_ok nmX7 hown hw (hM 10 (by decide) (by decide)) rfl rfl 11 (by decide) (hts _ (List.mem_of_getElem? (i := 3) rfl)) rfl rfl rfl (Nat.le_of_ble_eq_true rfl) rfl dX7_begin_12 (fun H locs hw => ?_)
  obtain ⟨σ3, eσ3⟩ : ∃ z : ck_S, z = ck_uj σ2 10 0 11 0 := ⟨_, rfl⟩
  rw [← eσ3] at hw
  have h := h σ3 eσ3
  refine lv_aload_n hx hb dX7_begin_15 rfl (lv_at hl 0 rfl) ?_
  refine lv_lconst (v := 0) hx hb dX7_begin_16 (by decide) ?_
  refine ck_putj hx hb hts inX7 tyX7 tyX7_ok nmX7 hown hw (hM 10 (by decide) (by decide)) rfl rfl 12 (by decide) (hts _ (List.mem_of_getElem? (i := 4) rfl)) rfl rfl rfl (Nat.le_of_ble_eq_true rfl) rfl dX7_begin_17 (fun H locs hw => ?_)
  obtain ⟨σ4, eσ4⟩ : ∃ z : ck_S, z = ck_uj σ3 10 0 12 0 := ⟨_, rfl⟩
  rw [← eσ4] at hw
  have h := h σ4 eσ4
  refine lv_aload_n hx hb dX7_begin_20 rfl (lv_at hl 0 rfl) ?_
  refine lv_lconst (v := 0) hx hb dX7_begin_21 (by decide) ?_
  refine ck_putj hx hb hts inX7 tyX7 tyX7_ok nmX7 hown hw (hM 10 (by decide) (by decide)) rfl rfl 13 (by decide) (hts _ (List.mem_of_getElem? (i := 5) rfl)) rfl rfl rfl (Nat.le_of_ble_eq_true rfl) rfl dX7_begin_22 (fun H locs hw => ?_)
  obtain ⟨σ5, eσ5⟩ : ∃ z : ck_S, z = ck_uj σ4 10 0 13 0 := ⟨_, rfl⟩
  rw [← eσ5] at hw
  have h := h σ5 eσ5
  refine lv_aload_n hx hb dX7_begin_25 rfl (lv_at hl 0 rfl) ?_
  refine lv_iconst (v := 0) hx hb dX7_begin_26 (by decide) ?_
  refine ck_puti hx hb hts inX7 tyX7 tyX7_ok nmX7 hown hw (hM 10 (by decide) (by decide)) rfl rfl 15 (by decide) (hts _ (List.mem_of_getElem? (i := 6) rfl)) rfl rfl rfl (Nat.le_of_ble_eq_true rfl) rfl dX7_begin_27 (fun H locs hw => ?_)
  obtain ⟨σ6, eσ6⟩ : ∃ z : ck_S, z = ck_ui σ5 10 0 15 0 := ⟨_, rfl⟩
  rw [← eσ6] at hw
  have h := h σ6 eσ6
  refine lv_aload_n hx hb dX7_begin_30 rfl (lv_at hl 0 rfl) ?_
  refine lv_iconst (v := 0) hx hb dX7_begin_31 (by decide) ?_
  refine ck_puti hx hb hts inX7 tyX7 tyX7_ok nmX7 hown hw (hM 10 (by decide) (by decide)) rfl rfl 16 (by decide) (hts _ (List.mem_of_getElem? (i := 7) rfl)) rfl rfl rfl (Nat.le_of_ble_eq_true rfl) rfl dX7_begin_32 (fun H locs hw => ?_)
  obtain ⟨σ7, eσ7⟩ : ∃ z : ck_S, z = ck_ui σ6 10 0 16 0 := ⟨_, rfl⟩
  rw [← eσ7] at hw
  have h := h σ7 eσ7
  refine lv_aload_n hx hb dX7_begin_35 rfl (lv_at hl 0 rfl) ?_
  refine lv_iconst (v := 0) hx hb dX7_begin_36 (by decide) ?_
  refine ck_puti hx hb hts inX7 tyX7 tyX7_ok nmX7 hown hw (hM 10 (by decide) (by decide)) rfl rfl 17 (by decide) (hts _ (List.mem_of_getElem? (i := 8) rfl)) rfl rfl rfl (Nat.le_of_ble_eq_true rfl) rfl dX7_begin_37 (fun H locs hw => ?_)
  obtain ⟨σ8, eσ8⟩ : ∃ z : ck_S, z = ck_ui σ7 10 0 17 0 := ⟨_, rfl⟩
  rw [← eσ8] at hw
  have h := h σ8 eσ8
  refine lv_aload_n hx hb dX7_begin_40 rfl (lv_at hl 0 rfl) ?_
  refine lv_lconst (v := 0) hx hb dX7_begin_41 (by decide) ?_
  refine ck_putj hx hb hts inX7 tyX7 tyX7_ok nmX7 hown hw (hM 10 (by decide) (by decide)) rfl rfl 23 (by decide) (hts _ (List.mem_of_getElem? (i := 9) rfl)) rfl rfl rfl (Nat.le_of_ble_eq_true rfl) rfl dX7_begin_42 (fun H locs hw => ?_)
  obtain ⟨σ9, eσ9⟩ : ∃ z : ck_S, z = ck_uj σ8 10 0 23 0 := ⟨_, rfl⟩
  rw [← eσ9] at hw
  have h := h σ9 eσ9
  refine lv_aload_n hx hb dX7_begin_45 rfl (lv_at hl 0 rfl) ?_
  refine lv_lconst (v := 0) hx hb dX7_begin_46 (by decide) ?_
  refine ck_putj hx hb hts inX7 tyX7 tyX7_ok nmX7 hown hw (hM 10 (by decide) (by decide)) rfl rfl 24 (by decide) (hts _ (List.mem_of_getElem? (i := 10) rfl)) rfl rfl rfl (Nat.le_of_ble_eq_true rfl) rfl dX7_begin_47 (fun H locs hw => ?_)
  obtain ⟨σ10, eσ10⟩ : ∃ z : ck_S, z = ck_uj σ9 10 0 24 0 := ⟨_, rfl⟩
  rw [← eσ10] at hw
  have h := h σ10 eσ10
  refine lv_aload_n hx hb dX7_begin_50 rfl (lv_at hl 0 rfl) ?_
  refine lv_iconst (v := 0) hx hb dX7_begin_51 (by decide) ?_
  refine ck_puti hx hb hts inX7 tyX7 tyX7_ok nmX7 hown hw (hM 10 (by decide) (by decide)) rfl rfl 26 (by decide) (hts _ (List.mem_of_getElem? (i := 11) rfl)) rfl rfl rfl (Nat.le_of_ble_eq_true rfl) rfl dX7_begin_52 (fun H locs hw => ?_)
  obtain ⟨σ11, eσ11⟩ : ∃ z : ck_S, z = ck_ui σ10 10 0 26 0 := ⟨_, rfl⟩
  rw [← eσ11] at hw
  have h := h σ11 eσ11
  refine lv_aload_n hx hb dX7_begin_55 rfl (lv_at hl 0 rfl) ?_
  refine lv_iconst (v := 0) hx hb dX7_begin_56 (by decide) ?_
  refine ck_puti hx hb hts inX7 tyX7 tyX7_ok nmX7 hown hw (hM 10 (by decide) (by decide)) rfl rfl 28 (by decide) (hts _ (List.mem_of_getElem? (i := 12) rfl)) rfl rfl rfl (Nat.le_of_ble_eq_true rfl) rfl dX7_begin_57 (fun H locs hw => ?_)
  obtain ⟨σ12, eσ12⟩ : ∃ z : ck_S, z = ck_ui σ11 10 0 28 0 := ⟨_, rfl⟩
  rw [← eσ12] at hw
  have h := h σ12 eσ12
  refine lv_aload_n hx hb dX7_begin_60 rfl (lv_at hl 0 rfl) ?_
  refine lv_iconst (v := 0) hx hb dX7_begin_61 (by decide) ?_
  refine ck_puti hx hb hts inX7 tyX7 tyX7_ok nmX7 hown hw (hM 10 (by decide) (by decide)) rfl rfl 29 (by decide) (hts _ (List.mem_of_getElem? (i := 13) rfl)) rfl rfl rfl (Nat.le_of_ble_eq_true rfl) rfl dX7_begin_62 (fun H locs hw => ?_)
  obtain ⟨σ13, eσ13⟩ : ∃ z : ck_S, z = ck_ui σ12 10 0 29 0 := ⟨_, rfl⟩
  rw [← eσ13] at hw
  have h := h σ13 eσ13
  refine lv_aload_n hx hb dX7_begin_65 rfl (lv_at hl 0 rfl) ?_
  refine lv_bipush (v := 32) hx hb dX7_begin_66 (by decide) ?_
  refine ck_puti hx hb hts inX7 tyX7 tyX7_ok nmX7 hown hw (hM 10 (by decide) (by decide)) rfl rfl 31 (by decide) (hts _ (List.mem_of_getElem? (i := 14) rfl)) rfl rfl rfl (Nat.le_of_ble_eq_true rfl) rfl dX7_begin_68 (fun H locs hw => ?_)
  obtain ⟨σ14, eσ14⟩ : ∃ z : ck_S, z = ck_ui σ13 10 0 31 32 := ⟨_, rfl⟩
  rw [← eσ14] at hw
  have h := h σ14 eσ14
  refine lv_aload_n hx hb dX7_begin_71 rfl (lv_at hl 0 rfl) ?_
  refine lv_iconst (v := 1) hx hb dX7_begin_72 (by decide) ?_
  refine ck_puti hx hb hts inX7 tyX7 tyX7_ok nmX7 hown hw (hM 10 (by decide) (by decide)) rfl rfl 8 (by decide) (hts _ (List.mem_of_getElem? (i := 15) rfl)) rfl rfl rfl (Nat.le_of_ble_eq_true rfl) rfl dX7_begin_73 (fun H locs hw => ?_)
  obtain ⟨σ15, eσ15⟩ : ∃ z : ck_S, z = ck_ui σ14 10 0 8 1 := ⟨_, rfl⟩
  rw [← eσ15] at hw
  have h := h σ15 eσ15
  refine lv_iconst (v := 0) hx hb dX7_begin_76 (by decide) ?_
  refine lv_istore_n (lv' := [(1, .int 0), (0, .ref (ck_ad G 10 0))]) hx hb dX7_begin_77 rfl hl (by decide) rfl (fun ls hl => ?_)
  obtain ⟨fu, h⟩ := h
  exact wk_X7_begin_78 X hM fu _ _ _ _ _ h hw (lv_sub hl [1, 0] rfl)
set_option maxHeartbeats 4000000 in
set_option maxRecDepth 100000 in
theorem ct_X7_begin (l : Launch) (G : ck_G) (hM : ck_inM G) {σ : ck_S} {post : ck_S → Prop} (h : sp_X7_begin (ck_nc G) (ck_nb G) σ post) : ck_Mv l yX7_begin wsX7_begin ({ frames := 2, cells := 0, slots := 0, locals := 49 } : Room) G σ [.ref (ck_ad G 10 0)] post := by
  intro sz
  refine Met.ofW (cc := cX7_begin) (maxL := 3) (ret := none) (by decide) rfl ?_
  intro p e s m args below meth c s₁ B hml hv
  obtain ⟨rfl, rfl, hw⟩ := ck_enter hv
  have hl := lv_entry ([.ref (ck_ad G 10 0)]) (n := 3) (Nat.le_of_ble_eq_true rfl)
  rw [lg_entry_eq]
  generalize (lg_sl ([.ref (ck_ad G 10 0)]) ++ List.replicate (3 - (lg_sl ([.ref (ck_ad G 10 0)])).length) Slot.unset).toArray = ls at hl ⊢
  have hl : lv_has ls 3 [(0, .ref (ck_ad G 10 0))] := hl
  exact wk_X7_begin_0 ⟨B.exec, B.bytes, B.returns, hml, findClass_of_methodNamed B.named, atoms_spec (ws := wsX7_begin) B.pre, B.notSynchronized⟩ hM h hw hl
def sp_X7_power (nc nb : Nat) (σ : ck_S) (post : Int32 → ck_S → Prop) : Prop := ∀ σ1, σ1 = ck_ui σ 10 0 0 0 → sp_X7_begin nc nb σ1 (fun σ2 => post (ck_gi σ2 10 0 10) σ2)
set_option maxHeartbeats 4000000 in
set_option maxRecDepth 100000 in
theorem wk_X7_power_0 {p : Program} {l : Launch} {e : Env} {s : State} {m : MethodId} {args : Array Value} {below : List Frame} {meth : Method} {c : Code} {G : ck_G} (X : ck_X p s m meth c args cX7_power 1 (some .int) RX7 wsX7_power) (hM : ck_inM G) {post : Int32 → ck_S → Prop} {σ : ck_S} {H : Heap} {locs : List Loc} {ls : Array Slot} (h : sp_X7_power (ck_nc G) (ck_nb G) σ post) (hw : ck_H G s H locs σ) (hl : lv_has ls 1 [(0, .ref (ck_ad G 10 0))]) : W p l e ({ frames := 3, cells := 0, slots := 0, locals := 71 } : Room) s m args below meth c H locs 0 0 (MQ below (va_Qi post (ck_Q G) (ck_A G s.heap.size)) args s 0 0 (ck_A G s.heap.size)) (F0 m 0 ls []) := by
  obtain ⟨hx, hb, hr, hml, hown, hts, hlocks⟩ := id X
  have inX7 : ∀ w ∈ wsX70, w ∈ wsX7_power := fun _ h => List.mem_cons_of_mem _ (List.mem_append_right _ (h))
  unfold sp_X7_power at h
  refine lv_aload_n hx hb dX7_power_0 rfl (lv_at hl 0 rfl) ?_
  refine lv_iconst (v := 0) hx hb dX7_power_1 (by decide) ?_
  refine ck_puti hx hb hts inX7 tyX7 tyX7_ok nmX7 hown hw (hM 10 (by decide) (by decide)) rfl rfl 0 (by decide) (hts _ (List.mem_of_getElem? (i := 1) rfl)) rfl rfl rfl (Nat.le_of_ble_eq_true rfl) rfl dX7_power_2 (fun H locs hw => ?_)
  obtain ⟨σ1, eσ1⟩ : ∃ z : ck_S, z = ck_ui σ 10 0 0 0 := ⟨_, rfl⟩
  rw [← eσ1] at hw
  have h := h σ1 eσ1
  refine lv_aload_n hx hb dX7_power_5 rfl (lv_at hl 0 rfl) ?_
  refine ck_callVv (rest := []) ⟨hx, hb, hml, hown, hts⟩ hw (hM 10 (by decide) (by decide)) rfl rfl (ct_X7_begin l G hM h) (cwV 0 hts gX7_power_X7_begin rfl rfl rfl (by decide +kernel) ⟨(Nat.le_of_ble_eq_true rfl), (Nat.le_of_ble_eq_true rfl)⟩) rfl hl.1 rfl (Nat.le_of_ble_eq_true rfl) dX7_power_6 ⟨(Nat.le_of_ble_eq_true rfl), (Nat.le_of_ble_eq_true rfl)⟩ (fun σ2 H locs h hw => ?_)
  refine lv_aload_n hx hb dX7_power_9 rfl (lv_at hl 0 rfl) ?_
  refine ck_get hx hb hts inX7 hown hw (hM 10 (by decide) (by decide)) rfl rfl 10 (by decide) (hts _ (List.mem_of_getElem? (i := 2) rfl)) rfl dX7_power_10 ?_
  exact ck_iret X hw h dX7_power_13
set_option maxHeartbeats 4000000 in
set_option maxRecDepth 100000 in
theorem ct_X7_power (l : Launch) (G : ck_G) (hM : ck_inM G) {σ : ck_S} {post : Int32 → ck_S → Prop} (h : sp_X7_power (ck_nc G) (ck_nb G) σ post) : ck_Mi l yX7_power wsX7_power ({ frames := 3, cells := 0, slots := 0, locals := 71 } : Room) G σ [.ref (ck_ad G 10 0)] post := by
  intro sz
  refine Met.ofW (cc := cX7_power) (maxL := 1) (ret := (some .int)) (by decide) rfl ?_
  intro p e s m args below meth c s₁ B hml hv
  obtain ⟨rfl, rfl, hw⟩ := ck_enter hv
  have hl := lv_entry ([.ref (ck_ad G 10 0)]) (n := 1) (Nat.le_of_ble_eq_true rfl)
  rw [lg_entry_eq]
  generalize (lg_sl ([.ref (ck_ad G 10 0)]) ++ List.replicate (1 - (lg_sl ([.ref (ck_ad G 10 0)])).length) Slot.unset).toArray = ls at hl ⊢
  have hl : lv_has ls 1 [(0, .ref (ck_ad G 10 0))] := hl
  exact wk_X7_power_0 ⟨B.exec, B.bytes, B.returns, hml, findClass_of_methodNamed B.named, atoms_spec (ws := wsX7_power) B.pre, B.notSynchronized⟩ hM h hw hl
def sp_X7_off (nc nb : Nat) (σ : ck_S) (post : Int32 → ck_S → Prop) : Prop := ∀ σ1, σ1 = ck_ui σ 10 0 0 0 → (ck_b (ck_gi σ1 10 0 9) ∧ post (ck_gi σ1 10 0 9) σ1)
set_option maxHeartbeats 4000000 in
set_option maxRecDepth 100000 in
theorem wk_X7_off_0 {p : Program} {l : Launch} {e : Env} {s : State} {m : MethodId} {args : Array Value} {below : List Frame} {meth : Method} {c : Code} {G : ck_G} (X : ck_X p s m meth c args cX7_off 1 (some .boolean) RX7 wsX7_off) (hM : ck_inM G) {post : Int32 → ck_S → Prop} {σ : ck_S} {H : Heap} {locs : List Loc} {ls : Array Slot} (h : sp_X7_off (ck_nc G) (ck_nb G) σ post) (hw : ck_H G s H locs σ) (hl : lv_has ls 1 [(0, .ref (ck_ad G 10 0))]) : W p l e ({ frames := 0, cells := 0, slots := 0, locals := 0 } : Room) s m args below meth c H locs 0 0 (MQ below (va_Qi post (ck_Q G) (ck_A G s.heap.size)) args s 0 0 (ck_A G s.heap.size)) (F0 m 0 ls []) := by
  obtain ⟨hx, hb, hr, hml, hown, hts, hlocks⟩ := id X
  have inX7 : ∀ w ∈ wsX70, w ∈ wsX7_off := fun _ h => List.mem_cons_of_mem _ (List.mem_append_right _ (h))
  unfold sp_X7_off at h
  refine lv_aload_n hx hb dX7_off_0 rfl (lv_at hl 0 rfl) ?_
  refine lv_iconst (v := 0) hx hb dX7_off_1 (by decide) ?_
  refine ck_puti hx hb hts inX7 tyX7 tyX7_ok nmX7 hown hw (hM 10 (by decide) (by decide)) rfl rfl 0 (by decide) (hts _ (List.mem_of_getElem? (i := 1) rfl)) rfl rfl rfl (Nat.le_of_ble_eq_true rfl) rfl dX7_off_2 (fun H locs hw => ?_)
  obtain ⟨σ1, eσ1⟩ : ∃ z : ck_S, z = ck_ui σ 10 0 0 0 := ⟨_, rfl⟩
  rw [← eσ1] at hw
  have h := h σ1 eσ1
  refine lv_aload_n hx hb dX7_off_5 rfl (lv_at hl 0 rfl) ?_
  refine ck_get hx hb hts inX7 hown hw (hM 10 (by decide) (by decide)) rfl rfl 9 (by decide) (hts _ (List.mem_of_getElem? (i := 2) rfl)) rfl dX7_off_6 ?_
  exact ck_zret X hw h dX7_off_9
set_option maxHeartbeats 4000000 in
set_option maxRecDepth 100000 in
theorem ct_X7_off (l : Launch) (G : ck_G) (hM : ck_inM G) {σ : ck_S} {post : Int32 → ck_S → Prop} (h : sp_X7_off (ck_nc G) (ck_nb G) σ post) : ck_Mi l yX7_off wsX7_off ({ frames := 0, cells := 0, slots := 0, locals := 0 } : Room) G σ [.ref (ck_ad G 10 0)] post := by
  intro sz
  refine Met.ofW (cc := cX7_off) (maxL := 1) (ret := (some .boolean)) (by decide) rfl ?_
  intro p e s m args below meth c s₁ B hml hv
  obtain ⟨rfl, rfl, hw⟩ := ck_enter hv
  have hl := lv_entry ([.ref (ck_ad G 10 0)]) (n := 1) (Nat.le_of_ble_eq_true rfl)
  rw [lg_entry_eq]
  generalize (lg_sl ([.ref (ck_ad G 10 0)]) ++ List.replicate (1 - (lg_sl ([.ref (ck_ad G 10 0)])).length) Slot.unset).toArray = ls at hl ⊢
  have hl : lv_has ls 1 [(0, .ref (ck_ad G 10 0))] := hl
  exact wk_X7_off_0 ⟨B.exec, B.bytes, B.returns, hml, findClass_of_methodNamed B.named, atoms_spec (ws := wsX7_off) B.pre, B.notSynchronized⟩ hM h hw hl
def sp_X7_noPower_13 (nc nb : Nat) (post : Int32 → ck_S → Prop) (σ : ck_S) (s0 : Int32) : Prop := ∀ σ1, σ1 = ck_ui σ 10 0 0 s0 → (ck_b (ck_gi σ1 10 0 9) ∧ post (ck_gi σ1 10 0 9) σ1)
def sp_X7_noPower (nc nb : Nat) (σ : ck_S) (post : Int32 → ck_S → Prop) : Prop := (((ck_gi σ 10 0 9) = 0 → (sp_X7_noPower_13 nc nb post σ 0)) ∧ (¬ (ck_gi σ 10 0 9) = 0 → (sp_X7_noPower_13 nc nb post σ 1)))
set_option maxHeartbeats 4000000 in
set_option maxRecDepth 100000 in
theorem wk_X7_noPower_13 {p : Program} {l : Launch} {e : Env} {s : State} {m : MethodId} {args : Array Value} {below : List Frame} {meth : Method} {c : Code} {G : ck_G} (X : ck_X p s m meth c args cX7_noPower 1 (some .boolean) RX7 wsX7_noPower) (hM : ck_inM G) {post : Int32 → ck_S → Prop} {σ : ck_S} {s0 : Int32} {H : Heap} {locs : List Loc} {ls : Array Slot} (h : sp_X7_noPower_13 (ck_nc G) (ck_nb G) post σ s0) (hw : ck_H G s H locs σ) (hl : lv_has ls 1 [(0, .ref (ck_ad G 10 0))]) : W p l e ({ frames := 0, cells := 0, slots := 0, locals := 0 } : Room) s m args below meth c H locs 0 0 (MQ below (va_Qi post (ck_Q G) (ck_A G s.heap.size)) args s 0 0 (ck_A G s.heap.size)) (F0 m 13 ls [.int s0, .ref (ck_ad G 10 0)]) := by
  obtain ⟨hx, hb, hr, hml, hown, hts, hlocks⟩ := id X
  have inX7 : ∀ w ∈ wsX70, w ∈ wsX7_noPower := fun _ h => List.mem_cons_of_mem _ (List.mem_append_right _ (h))
  unfold sp_X7_noPower_13 at h
  refine ck_puti hx hb hts inX7 tyX7 tyX7_ok nmX7 hown hw (hM 10 (by decide) (by decide)) rfl rfl 0 (by decide) (hts _ (List.mem_of_getElem? (i := 2) rfl)) rfl rfl rfl (Nat.le_of_ble_eq_true rfl) rfl dX7_noPower_13 (fun H locs hw => ?_)
  obtain ⟨σ1, eσ1⟩ : ∃ z : ck_S, z = ck_ui σ 10 0 0 s0 := ⟨_, rfl⟩
  rw [← eσ1] at hw
  have h := h σ1 eσ1
  refine lv_aload_n hx hb dX7_noPower_16 rfl (lv_at hl 0 rfl) ?_
  refine ck_get hx hb hts inX7 hown hw (hM 10 (by decide) (by decide)) rfl rfl 9 (by decide) (hts _ (List.mem_of_getElem? (i := 1) rfl)) rfl dX7_noPower_17 ?_
  exact ck_zret X hw h dX7_noPower_20
set_option maxHeartbeats 4000000 in
set_option maxRecDepth 100000 in
theorem wk_X7_noPower_0 {p : Program} {l : Launch} {e : Env} {s : State} {m : MethodId} {args : Array Value} {below : List Frame} {meth : Method} {c : Code} {G : ck_G} (X : ck_X p s m meth c args cX7_noPower 1 (some .boolean) RX7 wsX7_noPower) (hM : ck_inM G) {post : Int32 → ck_S → Prop} {σ : ck_S} {H : Heap} {locs : List Loc} {ls : Array Slot} (h : sp_X7_noPower (ck_nc G) (ck_nb G) σ post) (hw : ck_H G s H locs σ) (hl : lv_has ls 1 [(0, .ref (ck_ad G 10 0))]) : W p l e ({ frames := 0, cells := 0, slots := 0, locals := 0 } : Room) s m args below meth c H locs 0 0 (MQ below (va_Qi post (ck_Q G) (ck_A G s.heap.size)) args s 0 0 (ck_A G s.heap.size)) (F0 m 0 ls []) := by
  obtain ⟨hx, hb, hr, hml, hown, hts, hlocks⟩ := id X
  have inX7 : ∀ w ∈ wsX70, w ∈ wsX7_noPower := fun _ h => List.mem_cons_of_mem _ (List.mem_append_right _ (h))
  unfold sp_X7_noPower at h
  refine lv_aload_n hx hb dX7_noPower_0 rfl (lv_at hl 0 rfl) ?_
  refine lv_aload_n hx hb dX7_noPower_1 rfl (lv_at hl 0 rfl) ?_
  refine ck_get hx hb hts inX7 hown hw (hM 10 (by decide) (by decide)) rfl rfl 9 (by decide) (hts _ (List.mem_of_getElem? (i := 1) rfl)) rfl dX7_noPower_2 ?_
  obtain ⟨hA, hB⟩ := h
  refine lv_if_eq (tgt := 12) hx hb dX7_noPower_5 (by decide) (fun c1 => ?_) (fun c1 => ?_)
  · have h := hA c1
    refine lv_iconst (v := 0) hx hb dX7_noPower_12 (by decide) ?_
    exact wk_X7_noPower_13 X hM h hw (lv_sub hl [0] rfl)
  · have h := hB c1
    refine lv_iconst (v := 1) hx hb dX7_noPower_8 (by decide) ?_
    refine lv_goto (tgt := 13) hx hb dX7_noPower_9 (by decide) ?_
    exact wk_X7_noPower_13 X hM h hw (lv_sub hl [0] rfl)
set_option maxHeartbeats 4000000 in
set_option maxRecDepth 100000 in
theorem ct_X7_noPower (l : Launch) (G : ck_G) (hM : ck_inM G) {σ : ck_S} {post : Int32 → ck_S → Prop} (h : sp_X7_noPower (ck_nc G) (ck_nb G) σ post) : ck_Mi l yX7_noPower wsX7_noPower ({ frames := 0, cells := 0, slots := 0, locals := 0 } : Room) G σ [.ref (ck_ad G 10 0)] post := by
  intro sz
  refine Met.ofW (cc := cX7_noPower) (maxL := 1) (ret := (some .boolean)) (by decide) rfl ?_
  intro p e s m args below meth c s₁ B hml hv
  obtain ⟨rfl, rfl, hw⟩ := ck_enter hv
  have hl := lv_entry ([.ref (ck_ad G 10 0)]) (n := 1) (Nat.le_of_ble_eq_true rfl)
  rw [lg_entry_eq]
  generalize (lg_sl ([.ref (ck_ad G 10 0)]) ++ List.replicate (1 - (lg_sl ([.ref (ck_ad G 10 0)])).length) Slot.unset).toArray = ls at hl ⊢
  have hl : lv_has ls 1 [(0, .ref (ck_ad G 10 0))] := hl
  exact wk_X7_noPower_0 ⟨B.exec, B.bytes, B.returns, hml, findClass_of_methodNamed B.named, atoms_spec (ws := wsX7_noPower) B.pre, B.notSynchronized⟩ hM h hw hl
def sp_X7_time (nc nb : Nat) (σ : ck_S) (post : Int32 → ck_S → Prop) : Prop := sp_X7_noPower nc nb σ (fun x_2 σ1 => ((x_2 = 0 → (post (ck_gi σ1 10 0 10) σ1)) ∧ (¬ x_2 = 0 → (post 0 σ1))))
set_option maxHeartbeats 4000000 in
set_option maxRecDepth 100000 in
theorem wk_X7_time_0 {p : Program} {l : Launch} {e : Env} {s : State} {m : MethodId} {args : Array Value} {below : List Frame} {meth : Method} {c : Code} {G : ck_G} (X : ck_X p s m meth c args cX7_time 1 (some .int) RX7 wsX7_time) (hM : ck_inM G) {post : Int32 → ck_S → Prop} {σ : ck_S} {H : Heap} {locs : List Loc} {ls : Array Slot} (h : sp_X7_time (ck_nc G) (ck_nb G) σ post) (hw : ck_H G s H locs σ) (hl : lv_has ls 1 [(0, .ref (ck_ad G 10 0))]) : W p l e ({ frames := 1, cells := 0, slots := 0, locals := 20 } : Room) s m args below meth c H locs 0 0 (MQ below (va_Qi post (ck_Q G) (ck_A G s.heap.size)) args s 0 0 (ck_A G s.heap.size)) (F0 m 0 ls []) := by
  obtain ⟨hx, hb, hr, hml, hown, hts, hlocks⟩ := id X
  have inX7 : ∀ w ∈ wsX70, w ∈ wsX7_time := fun _ h => List.mem_cons_of_mem _ (List.mem_append_right _ (h))
  unfold sp_X7_time at h
  refine lv_aload_n hx hb dX7_time_0 rfl (lv_at hl 0 rfl) ?_
  refine ck_callVi (rest := []) ⟨hx, hb, hml, hown, hts⟩ hw (hM 10 (by decide) (by decide)) rfl rfl (ct_X7_noPower l G hM h) (cwV 0 hts gX7_time_X7_noPower rfl rfl rfl (by decide +kernel) ⟨(Nat.le_of_ble_eq_true rfl), (Nat.le_of_ble_eq_true rfl)⟩) rfl hl.1 rfl (Nat.le_of_ble_eq_true rfl) dX7_time_1 ⟨(Nat.le_of_ble_eq_true rfl), (Nat.le_of_ble_eq_true rfl)⟩ (fun x_2 σ1 H locs h hw => ?_)
  obtain ⟨hA, hB⟩ := h
  refine lv_if_eq (tgt := 11) hx hb dX7_time_4 (by decide) (fun c3 => ?_) (fun c3 => ?_)
  · have h := hA c3
    refine lv_aload_n hx hb dX7_time_11 rfl (lv_at hl 0 rfl) ?_
    refine ck_get hx hb hts inX7 hown hw (hM 10 (by decide) (by decide)) rfl rfl 10 (by decide) (hts _ (List.mem_of_getElem? (i := 1) rfl)) rfl dX7_time_12 ?_
    exact ck_iret X hw h dX7_time_15
  · have h := hB c3
    refine lv_iconst (v := 0) hx hb dX7_time_7 (by decide) ?_
    refine lv_goto (tgt := 15) hx hb dX7_time_8 (by decide) ?_
    exact ck_iret X hw h dX7_time_15
set_option maxHeartbeats 4000000 in
set_option maxRecDepth 100000 in
theorem ct_X7_time (l : Launch) (G : ck_G) (hM : ck_inM G) {σ : ck_S} {post : Int32 → ck_S → Prop} (h : sp_X7_time (ck_nc G) (ck_nb G) σ post) : ck_Mi l yX7_time wsX7_time ({ frames := 1, cells := 0, slots := 0, locals := 20 } : Room) G σ [.ref (ck_ad G 10 0)] post := by
  intro sz
  refine Met.ofW (cc := cX7_time) (maxL := 1) (ret := (some .int)) (by decide) rfl ?_
  intro p e s m args below meth c s₁ B hml hv
  obtain ⟨rfl, rfl, hw⟩ := ck_enter hv
  have hl := lv_entry ([.ref (ck_ad G 10 0)]) (n := 1) (Nat.le_of_ble_eq_true rfl)
  rw [lg_entry_eq]
  generalize (lg_sl ([.ref (ck_ad G 10 0)]) ++ List.replicate (1 - (lg_sl ([.ref (ck_ad G 10 0)])).length) Slot.unset).toArray = ls at hl ⊢
  have hl : lv_has ls 1 [(0, .ref (ck_ad G 10 0))] := hl
  exact wk_X7_time_0 ⟨B.exec, B.bytes, B.returns, hml, findClass_of_methodNamed B.named, atoms_spec (ws := wsX7_time) B.pre, B.notSynchronized⟩ hM h hw hl
def sp_X7_charge (nc nb : Nat) (σ : ck_S) (post : UInt64 → ck_S → Prop) : Prop := sp_X7_noPower nc nb σ (fun x_2 σ1 => ((x_2 = 0 → ((vf_n64 (FP.ddiv (FP.l2d (ck_gj σ1 10 0 11)) 4665729213955833856)) ∧ post (FP.ddiv (FP.l2d (ck_gj σ1 10 0 11)) 4665729213955833856) σ1)) ∧ (¬ x_2 = 0 → (post FP.dconst0 σ1))))
set_option maxHeartbeats 4000000 in
set_option maxRecDepth 100000 in
theorem wk_X7_charge_0 {p : Program} {l : Launch} {e : Env} {s : State} {m : MethodId} {args : Array Value} {below : List Frame} {meth : Method} {c : Code} {G : ck_G} (X : ck_X p s m meth c args cX7_charge 1 (some .double) RX7 wsX7_charge) (hM : ck_inM G) {post : UInt64 → ck_S → Prop} {σ : ck_S} {H : Heap} {locs : List Loc} {ls : Array Slot} (h : sp_X7_charge (ck_nc G) (ck_nb G) σ post) (hw : ck_H G s H locs σ) (hl : lv_has ls 1 [(0, .ref (ck_ad G 10 0))]) : W p l e ({ frames := 1, cells := 0, slots := 0, locals := 20 } : Room) s m args below meth c H locs 0 0 (MQ below (va_Qd post (ck_Q G) (ck_A G s.heap.size)) args s 0 0 (ck_A G s.heap.size)) (F0 m 0 ls []) := by
  obtain ⟨hx, hb, hr, hml, hown, hts, hlocks⟩ := id X
  have inX7 : ∀ w ∈ wsX70, w ∈ wsX7_charge := fun _ h => List.mem_cons_of_mem _ (List.mem_append_right _ (h))
  unfold sp_X7_charge at h
  refine lv_aload_n hx hb dX7_charge_0 rfl (lv_at hl 0 rfl) ?_
  refine ck_callVi (rest := []) ⟨hx, hb, hml, hown, hts⟩ hw (hM 10 (by decide) (by decide)) rfl rfl (ct_X7_noPower l G hM h) (cwV 0 hts gX7_charge_X7_noPower rfl rfl rfl (by decide +kernel) ⟨(Nat.le_of_ble_eq_true rfl), (Nat.le_of_ble_eq_true rfl)⟩) rfl hl.1 rfl (Nat.le_of_ble_eq_true rfl) dX7_charge_1 ⟨(Nat.le_of_ble_eq_true rfl), (Nat.le_of_ble_eq_true rfl)⟩ (fun x_2 σ1 H locs h hw => ?_)
  obtain ⟨hA, hB⟩ := h
  refine lv_if_eq (tgt := 11) hx hb dX7_charge_4 (by decide) (fun c3 => ?_) (fun c3 => ?_)
  · have h := hA c3
    refine lv_aload_n hx hb dX7_charge_11 rfl (lv_at hl 0 rfl) ?_
    refine ck_get hx hb hts inX7 hown hw (hM 10 (by decide) (by decide)) rfl rfl 11 (by decide) (hts _ (List.mem_of_getElem? (i := 1) rfl)) rfl dX7_charge_12 ?_
    refine lv_l2d hx hb dX7_charge_15 ?_
    refine lv_ldc2d hx hb hown (hts _ (List.mem_of_getElem? (i := 2) rfl)) dX7_charge_16 ?_
    obtain ⟨n4, h⟩ := h
    refine lv_ddiv hx hb dX7_charge_19 n4 ?_
    exact ck_dret X hw h dX7_charge_20
  · have h := hB c3
    refine lv_dconst0 hx hb dX7_charge_7 ?_
    refine lv_goto (tgt := 20) hx hb dX7_charge_8 (by decide) ?_
    exact ck_dret X hw h dX7_charge_20
set_option maxHeartbeats 4000000 in
set_option maxRecDepth 100000 in
theorem ct_X7_charge (l : Launch) (G : ck_G) (hM : ck_inM G) {σ : ck_S} {post : UInt64 → ck_S → Prop} (h : sp_X7_charge (ck_nc G) (ck_nb G) σ post) : ck_Md l yX7_charge wsX7_charge ({ frames := 1, cells := 0, slots := 0, locals := 20 } : Room) G σ [.ref (ck_ad G 10 0)] post := by
  intro sz
  refine Met.ofW (cc := cX7_charge) (maxL := 1) (ret := (some .double)) (by decide) rfl ?_
  intro p e s m args below meth c s₁ B hml hv
  obtain ⟨rfl, rfl, hw⟩ := ck_enter hv
  have hl := lv_entry ([.ref (ck_ad G 10 0)]) (n := 1) (Nat.le_of_ble_eq_true rfl)
  rw [lg_entry_eq]
  generalize (lg_sl ([.ref (ck_ad G 10 0)]) ++ List.replicate (1 - (lg_sl ([.ref (ck_ad G 10 0)])).length) Slot.unset).toArray = ls at hl ⊢
  have hl : lv_has ls 1 [(0, .ref (ck_ad G 10 0))] := hl
  exact wk_X7_charge_0 ⟨B.exec, B.bytes, B.returns, hml, findClass_of_methodNamed B.named, atoms_spec (ws := wsX7_charge) B.pre, B.notSynchronized⟩ hM h hw hl
def sp_X7_percent (nc nb : Nat) (σ : ck_S) (post : Int32 → ck_S → Prop) : Prop := sp_X7_noPower nc nb σ (fun x_2 σ1 => ((x_2 = 0 → (sp_X7_floor nc nb σ1 (100 * (ck_gj σ1 10 0 11)) (8192 * (ck_gj σ1 10 0 3)) (fun y_5 σ4 => post (y_5.toInt32) σ4))) ∧ (¬ x_2 = 0 → (post 0 σ1))))
set_option maxHeartbeats 4000000 in
set_option maxRecDepth 100000 in
theorem wk_X7_percent_0 {p : Program} {l : Launch} {e : Env} {s : State} {m : MethodId} {args : Array Value} {below : List Frame} {meth : Method} {c : Code} {G : ck_G} (X : ck_X p s m meth c args cX7_percent 1 (some .int) RX7 wsX7_percent) (hM : ck_inM G) {post : Int32 → ck_S → Prop} {σ : ck_S} {H : Heap} {locs : List Loc} {ls : Array Slot} (h : sp_X7_percent (ck_nc G) (ck_nb G) σ post) (hw : ck_H G s H locs σ) (hl : lv_has ls 1 [(0, .ref (ck_ad G 10 0))]) : W p l e ({ frames := 1, cells := 0, slots := 0, locals := 25 } : Room) s m args below meth c H locs 0 0 (MQ below (va_Qi post (ck_Q G) (ck_A G s.heap.size)) args s 0 0 (ck_A G s.heap.size)) (F0 m 0 ls []) := by
  obtain ⟨hx, hb, hr, hml, hown, hts, hlocks⟩ := id X
  have inX7 : ∀ w ∈ wsX70, w ∈ wsX7_percent := fun _ h => List.mem_cons_of_mem _ (List.mem_append_right _ (h))
  unfold sp_X7_percent at h
  refine lv_aload_n hx hb dX7_percent_0 rfl (lv_at hl 0 rfl) ?_
  refine ck_callVi (rest := []) ⟨hx, hb, hml, hown, hts⟩ hw (hM 10 (by decide) (by decide)) rfl rfl (ct_X7_noPower l G hM h) (cwV 0 hts gX7_percent_X7_noPower rfl rfl rfl (by decide +kernel) ⟨(Nat.le_of_ble_eq_true rfl), (Nat.le_of_ble_eq_true rfl)⟩) rfl hl.1 rfl (Nat.le_of_ble_eq_true rfl) dX7_percent_1 ⟨(Nat.le_of_ble_eq_true rfl), (Nat.le_of_ble_eq_true rfl)⟩ (fun x_2 σ1 H locs h hw => ?_)
  obtain ⟨hA, hB⟩ := h
  refine lv_if_eq (tgt := 11) hx hb dX7_percent_4 (by decide) (fun c3 => ?_) (fun c3 => ?_)
  · have h := hA c3
    refine lv_ldc2 hx hb hown (hts _ (List.mem_of_getElem? (i := 1) rfl)) dX7_percent_11 ?_
    refine lv_aload_n hx hb dX7_percent_14 rfl (lv_at hl 0 rfl) ?_
    refine ck_get hx hb hts inX7 hown hw (hM 10 (by decide) (by decide)) rfl rfl 11 (by decide) (hts _ (List.mem_of_getElem? (i := 2) rfl)) rfl dX7_percent_15 ?_
    refine lv_lmul hx hb dX7_percent_18 ?_
    refine lv_ldc2 hx hb hown (hts _ (List.mem_of_getElem? (i := 3) rfl)) dX7_percent_19 ?_
    refine lv_aload_n hx hb dX7_percent_22 rfl (lv_at hl 0 rfl) ?_
    refine ck_get hx hb hts inX7 hown hw (hM 10 (by decide) (by decide)) rfl rfl 3 (by decide) (hts _ (List.mem_of_getElem? (i := 4) rfl)) rfl dX7_percent_23 ?_
    refine lv_lmul hx hb dX7_percent_26 ?_
    refine ck_callSl (rest := []) ⟨hx, hb, hml, hown, hts⟩ hw (ct_X7_floor l G h) (va_cwS 2 hts gX7_percent_X7_floor rfl rfl rfl (by decide +kernel) ⟨(Nat.le_of_ble_eq_true rfl), (Nat.le_of_ble_eq_true rfl)⟩) rfl hl.1 rfl (Nat.le_of_ble_eq_true rfl) dX7_percent_27 ⟨(Nat.le_of_ble_eq_true rfl), (Nat.le_of_ble_eq_true rfl)⟩ (fun y_5 σ4 H locs h hw => ?_)
    refine lv_l2i hx hb dX7_percent_30 rfl ?_
    exact ck_iret X hw h dX7_percent_31
  · have h := hB c3
    refine lv_iconst (v := 0) hx hb dX7_percent_7 (by decide) ?_
    refine lv_goto (tgt := 31) hx hb dX7_percent_8 (by decide) ?_
    exact ck_iret X hw h dX7_percent_31
set_option maxHeartbeats 4000000 in
set_option maxRecDepth 100000 in
theorem ct_X7_percent (l : Launch) (G : ck_G) (hM : ck_inM G) {σ : ck_S} {post : Int32 → ck_S → Prop} (h : sp_X7_percent (ck_nc G) (ck_nb G) σ post) : ck_Mi l yX7_percent wsX7_percent ({ frames := 1, cells := 0, slots := 0, locals := 25 } : Room) G σ [.ref (ck_ad G 10 0)] post := by
  intro sz
  refine Met.ofW (cc := cX7_percent) (maxL := 1) (ret := (some .int)) (by decide) rfl ?_
  intro p e s m args below meth c s₁ B hml hv
  obtain ⟨rfl, rfl, hw⟩ := ck_enter hv
  have hl := lv_entry ([.ref (ck_ad G 10 0)]) (n := 1) (Nat.le_of_ble_eq_true rfl)
  rw [lg_entry_eq]
  generalize (lg_sl ([.ref (ck_ad G 10 0)]) ++ List.replicate (1 - (lg_sl ([.ref (ck_ad G 10 0)])).length) Slot.unset).toArray = ls at hl ⊢
  have hl : lv_has ls 1 [(0, .ref (ck_ad G 10 0))] := hl
  exact wk_X7_percent_0 ⟨B.exec, B.bytes, B.returns, hml, findClass_of_methodNamed B.named, atoms_spec (ws := wsX7_percent) B.pre, B.notSynchronized⟩ hM h hw hl
def sp_X7_through (nc nb : Nat) (σ : ck_S) (post : UInt64 → ck_S → Prop) : Prop := sp_X7_noPower nc nb σ (fun x_2 σ1 => ((x_2 = 0 → ((vf_n64 (FP.ddiv (FP.l2d (ck_gj σ1 10 0 12)) 4620693217682128896)) ∧ post (FP.ddiv (FP.l2d (ck_gj σ1 10 0 12)) 4620693217682128896) σ1)) ∧ (¬ x_2 = 0 → (post FP.dconst0 σ1))))
set_option maxHeartbeats 4000000 in
set_option maxRecDepth 100000 in
theorem wk_X7_through_0 {p : Program} {l : Launch} {e : Env} {s : State} {m : MethodId} {args : Array Value} {below : List Frame} {meth : Method} {c : Code} {G : ck_G} (X : ck_X p s m meth c args cX7_through 1 (some .double) RX7 wsX7_through) (hM : ck_inM G) {post : UInt64 → ck_S → Prop} {σ : ck_S} {H : Heap} {locs : List Loc} {ls : Array Slot} (h : sp_X7_through (ck_nc G) (ck_nb G) σ post) (hw : ck_H G s H locs σ) (hl : lv_has ls 1 [(0, .ref (ck_ad G 10 0))]) : W p l e ({ frames := 1, cells := 0, slots := 0, locals := 20 } : Room) s m args below meth c H locs 0 0 (MQ below (va_Qd post (ck_Q G) (ck_A G s.heap.size)) args s 0 0 (ck_A G s.heap.size)) (F0 m 0 ls []) := by
  obtain ⟨hx, hb, hr, hml, hown, hts, hlocks⟩ := id X
  have inX7 : ∀ w ∈ wsX70, w ∈ wsX7_through := fun _ h => List.mem_cons_of_mem _ (List.mem_append_right _ (h))
  unfold sp_X7_through at h
  refine lv_aload_n hx hb dX7_through_0 rfl (lv_at hl 0 rfl) ?_
  refine ck_callVi (rest := []) ⟨hx, hb, hml, hown, hts⟩ hw (hM 10 (by decide) (by decide)) rfl rfl (ct_X7_noPower l G hM h) (cwV 0 hts gX7_through_X7_noPower rfl rfl rfl (by decide +kernel) ⟨(Nat.le_of_ble_eq_true rfl), (Nat.le_of_ble_eq_true rfl)⟩) rfl hl.1 rfl (Nat.le_of_ble_eq_true rfl) dX7_through_1 ⟨(Nat.le_of_ble_eq_true rfl), (Nat.le_of_ble_eq_true rfl)⟩ (fun x_2 σ1 H locs h hw => ?_)
  obtain ⟨hA, hB⟩ := h
  refine lv_if_eq (tgt := 11) hx hb dX7_through_4 (by decide) (fun c3 => ?_) (fun c3 => ?_)
  · have h := hA c3
    refine lv_aload_n hx hb dX7_through_11 rfl (lv_at hl 0 rfl) ?_
    refine ck_get hx hb hts inX7 hown hw (hM 10 (by decide) (by decide)) rfl rfl 12 (by decide) (hts _ (List.mem_of_getElem? (i := 1) rfl)) rfl dX7_through_12 ?_
    refine lv_l2d hx hb dX7_through_15 ?_
    refine lv_ldc2d hx hb hown (hts _ (List.mem_of_getElem? (i := 2) rfl)) dX7_through_16 ?_
    obtain ⟨n4, h⟩ := h
    refine lv_ddiv hx hb dX7_through_19 n4 ?_
    exact ck_dret X hw h dX7_through_20
  · have h := hB c3
    refine lv_dconst0 hx hb dX7_through_7 ?_
    refine lv_goto (tgt := 20) hx hb dX7_through_8 (by decide) ?_
    exact ck_dret X hw h dX7_through_20
set_option maxHeartbeats 4000000 in
set_option maxRecDepth 100000 in
theorem ct_X7_through (l : Launch) (G : ck_G) (hM : ck_inM G) {σ : ck_S} {post : UInt64 → ck_S → Prop} (h : sp_X7_through (ck_nc G) (ck_nb G) σ post) : ck_Md l yX7_through wsX7_through ({ frames := 1, cells := 0, slots := 0, locals := 20 } : Room) G σ [.ref (ck_ad G 10 0)] post := by
  intro sz
  refine Met.ofW (cc := cX7_through) (maxL := 1) (ret := (some .double)) (by decide) rfl ?_
  intro p e s m args below meth c s₁ B hml hv
  obtain ⟨rfl, rfl, hw⟩ := ck_enter hv
  have hl := lv_entry ([.ref (ck_ad G 10 0)]) (n := 1) (Nat.le_of_ble_eq_true rfl)
  rw [lg_entry_eq]
  generalize (lg_sl ([.ref (ck_ad G 10 0)]) ++ List.replicate (1 - (lg_sl ([.ref (ck_ad G 10 0)])).length) Slot.unset).toArray = ls at hl ⊢
  have hl : lv_has ls 1 [(0, .ref (ck_ad G 10 0))] := hl
  exact wk_X7_through_0 ⟨B.exec, B.bytes, B.returns, hml, findClass_of_methodNamed B.named, atoms_spec (ws := wsX7_through) B.pre, B.notSynchronized⟩ hM h hw hl
def sp_X7_allowed_26 (nc nb : Nat) (post : UInt64 → ck_S → Prop) (σ : ck_S) (s0 : Int64) : Prop := (vf_n64 (FP.ddiv (FP.l2d s0) 4634204016564240384)) ∧ post (FP.ddiv (FP.l2d s0) 4634204016564240384) σ
def sp_X7_allowed (nc nb : Nat) (σ : ck_S) (a0 : Int32) (post : UInt64 → ck_S → Prop) : Prop := sp_X7_noPower nc nb σ (fun x_2 σ1 => ((x_2 = 0 → (((a0 = 0 → (sp_X7_allowed_26 nc nb post σ1 (ck_gj σ1 10 0 23))) ∧ (¬ a0 = 0 → (sp_X7_allowed_26 nc nb post σ1 (ck_gj σ1 10 0 24)))))) ∧ (¬ x_2 = 0 → (post FP.dconst0 σ1))))
set_option maxHeartbeats 4000000 in
set_option maxRecDepth 100000 in
theorem wk_X7_allowed_26 {p : Program} {l : Launch} {e : Env} {s : State} {m : MethodId} {args : Array Value} {below : List Frame} {meth : Method} {c : Code} {G : ck_G} (X : ck_X p s m meth c args cX7_allowed 2 (some .double) RX7 wsX7_allowed) (hM : ck_inM G) {post : UInt64 → ck_S → Prop} {σ : ck_S} {s0 : Int64} {H : Heap} {locs : List Loc} {ls : Array Slot} (h : sp_X7_allowed_26 (ck_nc G) (ck_nb G) post σ s0) (hw : ck_H G s H locs σ) (hl : lv_has ls 2 []) : W p l e ({ frames := 1, cells := 0, slots := 0, locals := 20 } : Room) s m args below meth c H locs 0 0 (MQ below (va_Qd post (ck_Q G) (ck_A G s.heap.size)) args s 0 0 (ck_A G s.heap.size)) (F0 m 26 ls [.long s0]) := by
  obtain ⟨hx, hb, hr, hml, hown, hts, hlocks⟩ := id X
  have inX7 : ∀ w ∈ wsX70, w ∈ wsX7_allowed := fun _ h => List.mem_cons_of_mem _ (List.mem_append_right _ (h))
  unfold sp_X7_allowed_26 at h
  refine lv_l2d hx hb dX7_allowed_26 ?_
  refine lv_ldc2d hx hb hown (hts _ (List.mem_of_getElem? (i := 3) rfl)) dX7_allowed_27 ?_
  obtain ⟨n1, h⟩ := h
  refine lv_ddiv hx hb dX7_allowed_30 n1 ?_
  exact ck_dret X hw h dX7_allowed_31
set_option maxHeartbeats 4000000 in
set_option maxRecDepth 100000 in
theorem wk_X7_allowed_0 {p : Program} {l : Launch} {e : Env} {s : State} {m : MethodId} {args : Array Value} {below : List Frame} {meth : Method} {c : Code} {G : ck_G} (X : ck_X p s m meth c args cX7_allowed 2 (some .double) RX7 wsX7_allowed) (hM : ck_inM G) {post : UInt64 → ck_S → Prop} {σ : ck_S} {a0 : Int32} {H : Heap} {locs : List Loc} {ls : Array Slot} (h : sp_X7_allowed (ck_nc G) (ck_nb G) σ a0 post) (hw : ck_H G s H locs σ) (hl : lv_has ls 2 [(0, .ref (ck_ad G 10 0)), (1, .int a0)]) : W p l e ({ frames := 1, cells := 0, slots := 0, locals := 20 } : Room) s m args below meth c H locs 0 0 (MQ below (va_Qd post (ck_Q G) (ck_A G s.heap.size)) args s 0 0 (ck_A G s.heap.size)) (F0 m 0 ls []) := by
  obtain ⟨hx, hb, hr, hml, hown, hts, hlocks⟩ := id X
  have inX7 : ∀ w ∈ wsX70, w ∈ wsX7_allowed := fun _ h => List.mem_cons_of_mem _ (List.mem_append_right _ (h))
  unfold sp_X7_allowed at h
  refine lv_aload_n hx hb dX7_allowed_0 rfl (lv_at hl 0 rfl) ?_
  refine ck_callVi (rest := []) ⟨hx, hb, hml, hown, hts⟩ hw (hM 10 (by decide) (by decide)) rfl rfl (ct_X7_noPower l G hM h) (cwV 0 hts gX7_allowed_X7_noPower rfl rfl rfl (by decide +kernel) ⟨(Nat.le_of_ble_eq_true rfl), (Nat.le_of_ble_eq_true rfl)⟩) rfl hl.1 rfl (Nat.le_of_ble_eq_true rfl) dX7_allowed_1 ⟨(Nat.le_of_ble_eq_true rfl), (Nat.le_of_ble_eq_true rfl)⟩ (fun x_2 σ1 H locs h hw => ?_)
  obtain ⟨hA, hB⟩ := h
  refine lv_if_eq (tgt := 11) hx hb dX7_allowed_4 (by decide) (fun c3 => ?_) (fun c3 => ?_)
  · have h := hA c3
    refine lv_iload_n hx hb dX7_allowed_11 rfl (lv_at hl 1 rfl) ?_
    obtain ⟨hA, hB⟩ := h
    refine lv_if_eq (tgt := 22) hx hb dX7_allowed_12 (by decide) (fun c4 => ?_) (fun c4 => ?_)
    · have h := hA c4
      refine lv_aload_n hx hb dX7_allowed_22 rfl (lv_at hl 0 rfl) ?_
      refine ck_get hx hb hts inX7 hown hw (hM 10 (by decide) (by decide)) rfl rfl 23 (by decide) (hts _ (List.mem_of_getElem? (i := 2) rfl)) rfl dX7_allowed_23 ?_
      exact wk_X7_allowed_26 X hM h hw (lv_sub hl [] rfl)
    · have h := hB c4
      refine lv_aload_n hx hb dX7_allowed_15 rfl (lv_at hl 0 rfl) ?_
      refine ck_get hx hb hts inX7 hown hw (hM 10 (by decide) (by decide)) rfl rfl 24 (by decide) (hts _ (List.mem_of_getElem? (i := 1) rfl)) rfl dX7_allowed_16 ?_
      refine lv_goto (tgt := 26) hx hb dX7_allowed_19 (by decide) ?_
      exact wk_X7_allowed_26 X hM h hw (lv_sub hl [] rfl)
  · have h := hB c3
    refine lv_dconst0 hx hb dX7_allowed_7 ?_
    refine lv_goto (tgt := 31) hx hb dX7_allowed_8 (by decide) ?_
    exact ck_dret X hw h dX7_allowed_31
set_option maxHeartbeats 4000000 in
set_option maxRecDepth 100000 in
theorem ct_X7_allowed (l : Launch) (G : ck_G) (hM : ck_inM G) {a0 : Int32} {σ : ck_S} {post : UInt64 → ck_S → Prop} (h : sp_X7_allowed (ck_nc G) (ck_nb G) σ a0 post) : ck_Md l yX7_allowed wsX7_allowed ({ frames := 1, cells := 0, slots := 0, locals := 20 } : Room) G σ [.ref (ck_ad G 10 0), .int a0] post := by
  intro sz
  refine Met.ofW (cc := cX7_allowed) (maxL := 2) (ret := (some .double)) (by decide) rfl ?_
  intro p e s m args below meth c s₁ B hml hv
  obtain ⟨rfl, rfl, hw⟩ := ck_enter hv
  have hl := lv_entry ([.ref (ck_ad G 10 0), .int a0]) (n := 2) (Nat.le_of_ble_eq_true rfl)
  rw [lg_entry_eq]
  generalize (lg_sl ([.ref (ck_ad G 10 0), .int a0]) ++ List.replicate (2 - (lg_sl ([.ref (ck_ad G 10 0), .int a0])).length) Slot.unset).toArray = ls at hl ⊢
  have hl : lv_has ls 2 [(0, .ref (ck_ad G 10 0)), (1, .int a0)] := hl
  exact wk_X7_allowed_0 ⟨B.exec, B.bytes, B.returns, hml, findClass_of_methodNamed B.named, atoms_spec (ws := wsX7_allowed) B.pre, B.notSynchronized⟩ hM h hw hl
def sp_X7_noChip_29 (nc nb : Nat) (post : Int32 → ck_S → Prop) (σ : ck_S) (s0 : Int32) : Prop := ∀ σ1, σ1 = ck_ui σ 10 0 0 s0 → (((ck_gi σ1 10 0 0) ≤ 0 → ((ck_b 0 ∧ post 0 σ1))) ∧ (¬ (ck_gi σ1 10 0 0) ≤ 0 → ((ck_b 1 ∧ post 1 σ1))))
def sp_X7_noChip_13 (nc nb : Nat) (post : Int32 → ck_S → Prop) (σ : ck_S) : Prop := sp_X7_noChip_29 nc nb post σ 1
def sp_X7_noChip (nc nb : Nat) (σ : ck_S) (a0 : Int32) (post : Int32 → ck_S → Prop) : Prop := ((a0 < 0 → (sp_X7_noChip_13 nc nb post σ)) ∧ (¬ a0 < 0 → (((a0 < (ck_gi σ 10 0 1) → ((((ck_gi σ 10 0 9) = 0 → (sp_X7_noChip_29 nc nb post σ 0)) ∧ (¬ (ck_gi σ 10 0 9) = 0 → (sp_X7_noChip_29 nc nb post σ 2))))) ∧ (¬ a0 < (ck_gi σ 10 0 1) → (sp_X7_noChip_13 nc nb post σ))))))
set_option maxHeartbeats 4000000 in
set_option maxRecDepth 100000 in
theorem wk_X7_noChip_29 {p : Program} {l : Launch} {e : Env} {s : State} {m : MethodId} {args : Array Value} {below : List Frame} {meth : Method} {c : Code} {G : ck_G} (X : ck_X p s m meth c args cX7_noChip 2 (some .boolean) RX7 wsX7_noChip) (hM : ck_inM G) {post : Int32 → ck_S → Prop} {σ : ck_S} {s0 : Int32} {H : Heap} {locs : List Loc} {ls : Array Slot} (h : sp_X7_noChip_29 (ck_nc G) (ck_nb G) post σ s0) (hw : ck_H G s H locs σ) (hl : lv_has ls 2 [(0, .ref (ck_ad G 10 0))]) : W p l e ({ frames := 0, cells := 0, slots := 0, locals := 0 } : Room) s m args below meth c H locs 0 0 (MQ below (va_Qi post (ck_Q G) (ck_A G s.heap.size)) args s 0 0 (ck_A G s.heap.size)) (F0 m 29 ls [.int s0, .ref (ck_ad G 10 0)]) := by
  obtain ⟨hx, hb, hr, hml, hown, hts, hlocks⟩ := id X
  have inX7 : ∀ w ∈ wsX70, w ∈ wsX7_noChip := fun _ h => List.mem_cons_of_mem _ (List.mem_append_right _ (h))
  unfold sp_X7_noChip_29 at h
  refine ck_puti hx hb hts inX7 tyX7 tyX7_ok nmX7 hown hw (hM 10 (by decide) (by decide)) rfl rfl 0 (by decide) (hts _ (List.mem_of_getElem? (i := 3) rfl)) rfl rfl rfl (Nat.le_of_ble_eq_true rfl) rfl dX7_noChip_29 (fun H locs hw => ?_)
  obtain ⟨σ1, eσ1⟩ : ∃ z : ck_S, z = ck_ui σ 10 0 0 s0 := ⟨_, rfl⟩
  rw [← eσ1] at hw
  have h := h σ1 eσ1
  refine lv_aload_n hx hb dX7_noChip_32 rfl (lv_at hl 0 rfl) ?_
  refine ck_get hx hb hts inX7 hown hw (hM 10 (by decide) (by decide)) rfl rfl 0 (by decide) (hts _ (List.mem_of_getElem? (i := 3) rfl)) rfl dX7_noChip_33 ?_
  obtain ⟨hA, hB⟩ := h
  refine lv_if_le (tgt := 43) hx hb dX7_noChip_36 (by decide) (fun c2 => ?_) (fun c2 => ?_)
  · have h := hA c2
    refine lv_iconst (v := 0) hx hb dX7_noChip_43 (by decide) ?_
    exact ck_zret X hw h dX7_noChip_44
  · have h := hB c2
    refine lv_iconst (v := 1) hx hb dX7_noChip_39 (by decide) ?_
    refine lv_goto (tgt := 44) hx hb dX7_noChip_40 (by decide) ?_
    exact ck_zret X hw h dX7_noChip_44
set_option maxHeartbeats 4000000 in
set_option maxRecDepth 100000 in
theorem wk_X7_noChip_13 {p : Program} {l : Launch} {e : Env} {s : State} {m : MethodId} {args : Array Value} {below : List Frame} {meth : Method} {c : Code} {G : ck_G} (X : ck_X p s m meth c args cX7_noChip 2 (some .boolean) RX7 wsX7_noChip) (hM : ck_inM G) {post : Int32 → ck_S → Prop} {σ : ck_S} {H : Heap} {locs : List Loc} {ls : Array Slot} (h : sp_X7_noChip_13 (ck_nc G) (ck_nb G) post σ) (hw : ck_H G s H locs σ) (hl : lv_has ls 2 [(0, .ref (ck_ad G 10 0))]) : W p l e ({ frames := 0, cells := 0, slots := 0, locals := 0 } : Room) s m args below meth c H locs 0 0 (MQ below (va_Qi post (ck_Q G) (ck_A G s.heap.size)) args s 0 0 (ck_A G s.heap.size)) (F0 m 13 ls [.ref (ck_ad G 10 0)]) := by
  obtain ⟨hx, hb, hr, hml, hown, hts, hlocks⟩ := id X
  have inX7 : ∀ w ∈ wsX70, w ∈ wsX7_noChip := fun _ h => List.mem_cons_of_mem _ (List.mem_append_right _ (h))
  unfold sp_X7_noChip_13 at h
  refine lv_iconst (v := 1) hx hb dX7_noChip_13 (by decide) ?_
  refine lv_goto (tgt := 29) hx hb dX7_noChip_14 (by decide) ?_
  exact wk_X7_noChip_29 X hM h hw (lv_sub hl [0] rfl)
set_option maxHeartbeats 4000000 in
set_option maxRecDepth 100000 in
theorem wk_X7_noChip_0 {p : Program} {l : Launch} {e : Env} {s : State} {m : MethodId} {args : Array Value} {below : List Frame} {meth : Method} {c : Code} {G : ck_G} (X : ck_X p s m meth c args cX7_noChip 2 (some .boolean) RX7 wsX7_noChip) (hM : ck_inM G) {post : Int32 → ck_S → Prop} {σ : ck_S} {a0 : Int32} {H : Heap} {locs : List Loc} {ls : Array Slot} (h : sp_X7_noChip (ck_nc G) (ck_nb G) σ a0 post) (hw : ck_H G s H locs σ) (hl : lv_has ls 2 [(0, .ref (ck_ad G 10 0)), (1, .int a0)]) : W p l e ({ frames := 0, cells := 0, slots := 0, locals := 0 } : Room) s m args below meth c H locs 0 0 (MQ below (va_Qi post (ck_Q G) (ck_A G s.heap.size)) args s 0 0 (ck_A G s.heap.size)) (F0 m 0 ls []) := by
  obtain ⟨hx, hb, hr, hml, hown, hts, hlocks⟩ := id X
  have inX7 : ∀ w ∈ wsX70, w ∈ wsX7_noChip := fun _ h => List.mem_cons_of_mem _ (List.mem_append_right _ (h))
  unfold sp_X7_noChip at h
  refine lv_aload_n hx hb dX7_noChip_0 rfl (lv_at hl 0 rfl) ?_
  refine lv_iload_n hx hb dX7_noChip_1 rfl (lv_at hl 1 rfl) ?_
  obtain ⟨hA, hB⟩ := h
  refine lv_if_lt (tgt := 13) hx hb dX7_noChip_2 (by decide) (fun c1 => ?_) (fun c1 => ?_)
  · have h := hA c1
    exact wk_X7_noChip_13 X hM h hw (lv_sub hl [0] rfl)
  · have h := hB c1
    refine lv_iload_n hx hb dX7_noChip_5 rfl (lv_at hl 1 rfl) ?_
    refine lv_aload_n hx hb dX7_noChip_6 rfl (lv_at hl 0 rfl) ?_
    refine ck_get hx hb hts inX7 hown hw (hM 10 (by decide) (by decide)) rfl rfl 1 (by decide) (hts _ (List.mem_of_getElem? (i := 1) rfl)) rfl dX7_noChip_7 ?_
    obtain ⟨hA, hB⟩ := h
    refine lv_icmp_lt (tgt := 17) hx hb dX7_noChip_10 (by decide) (fun c2 => ?_) (fun c2 => ?_)
    · have h := hA c2
      refine lv_aload_n hx hb dX7_noChip_17 rfl (lv_at hl 0 rfl) ?_
      refine ck_get hx hb hts inX7 hown hw (hM 10 (by decide) (by decide)) rfl rfl 9 (by decide) (hts _ (List.mem_of_getElem? (i := 2) rfl)) rfl dX7_noChip_18 ?_
      obtain ⟨hA, hB⟩ := h
      refine lv_if_eq (tgt := 28) hx hb dX7_noChip_21 (by decide) (fun c3 => ?_) (fun c3 => ?_)
      · have h := hA c3
        refine lv_iconst (v := 0) hx hb dX7_noChip_28 (by decide) ?_
        exact wk_X7_noChip_29 X hM h hw (lv_sub hl [0] rfl)
      · have h := hB c3
        refine lv_iconst (v := 2) hx hb dX7_noChip_24 (by decide) ?_
        refine lv_goto (tgt := 29) hx hb dX7_noChip_25 (by decide) ?_
        exact wk_X7_noChip_29 X hM h hw (lv_sub hl [0] rfl)
    · have h := hB c2
      exact wk_X7_noChip_13 X hM h hw (lv_sub hl [0] rfl)
set_option maxHeartbeats 4000000 in
set_option maxRecDepth 100000 in
theorem ct_X7_noChip (l : Launch) (G : ck_G) (hM : ck_inM G) {a0 : Int32} {σ : ck_S} {post : Int32 → ck_S → Prop} (h : sp_X7_noChip (ck_nc G) (ck_nb G) σ a0 post) : ck_Mi l yX7_noChip wsX7_noChip ({ frames := 0, cells := 0, slots := 0, locals := 0 } : Room) G σ [.ref (ck_ad G 10 0), .int a0] post := by
  intro sz
  refine Met.ofW (cc := cX7_noChip) (maxL := 2) (ret := (some .boolean)) (by decide) rfl ?_
  intro p e s m args below meth c s₁ B hml hv
  obtain ⟨rfl, rfl, hw⟩ := ck_enter hv
  have hl := lv_entry ([.ref (ck_ad G 10 0), .int a0]) (n := 2) (Nat.le_of_ble_eq_true rfl)
  rw [lg_entry_eq]
  generalize (lg_sl ([.ref (ck_ad G 10 0), .int a0]) ++ List.replicate (2 - (lg_sl ([.ref (ck_ad G 10 0), .int a0])).length) Slot.unset).toArray = ls at hl ⊢
  have hl : lv_has ls 2 [(0, .ref (ck_ad G 10 0)), (1, .int a0)] := hl
  exact wk_X7_noChip_0 ⟨B.exec, B.bytes, B.returns, hml, findClass_of_methodNamed B.named, atoms_spec (ws := wsX7_noChip) B.pre, B.notSynchronized⟩ hM h hw hl
def sp_X7_valid_39 (nc nb : Nat) (post : Int32 → ck_S → Prop) (σ : ck_S) (x1 : Int32) (x2 : Int32) (s0 : Int32) : Prop := ∀ σ1, σ1 = ck_ui σ 10 0 0 s0 → ((¬ (ck_gi σ1 10 0 0) = 0 → ((ck_b 0 ∧ post 0 σ1))) ∧ ((ck_gi σ1 10 0 0) = 0 → (sp_X7_isValid nc nb σ1 x1 x2 (fun x_4 σ3 => ((x_4 = 0 → ((ck_b 0 ∧ post 0 σ3))) ∧ (¬ x_4 = 0 → ((ck_b 1 ∧ post 1 σ3))))))))
def sp_X7_valid_23 (nc nb : Nat) (post : Int32 → ck_S → Prop) (σ : ck_S) (x1 : Int32) (x2 : Int32) : Prop := sp_X7_valid_39 nc nb post σ x1 x2 1
def sp_X7_valid (nc nb : Nat) (σ : ck_S) (a0 : Int32) (a1 : Int32) (post : Int32 → ck_S → Prop) : Prop := ((a0 < 0 → (sp_X7_valid_23 nc nb post σ a0 a1)) ∧ (¬ a0 < 0 → ((((ck_gi σ 10 0 1) ≤ a0 → (sp_X7_valid_23 nc nb post σ a0 a1)) ∧ (¬ (ck_gi σ 10 0 1) ≤ a0 → (((a1 < 0 → (sp_X7_valid_23 nc nb post σ a0 a1)) ∧ (¬ a1 < 0 → (((a1 < 6 → ((((ck_gi σ 10 0 9) = 0 → (sp_X7_valid_39 nc nb post σ a0 a1 0)) ∧ (¬ (ck_gi σ 10 0 9) = 0 → (sp_X7_valid_39 nc nb post σ a0 a1 2))))) ∧ (¬ a1 < 6 → (sp_X7_valid_23 nc nb post σ a0 a1))))))))))))
set_option maxHeartbeats 4000000 in
set_option maxRecDepth 100000 in
theorem wk_X7_valid_39 {p : Program} {l : Launch} {e : Env} {s : State} {m : MethodId} {args : Array Value} {below : List Frame} {meth : Method} {c : Code} {G : ck_G} (X : ck_X p s m meth c args cX7_valid 3 (some .boolean) RX7 wsX7_valid) (hM : ck_inM G) {post : Int32 → ck_S → Prop} {σ : ck_S} {x1 : Int32} {x2 : Int32} {s0 : Int32} {H : Heap} {locs : List Loc} {ls : Array Slot} (h : sp_X7_valid_39 (ck_nc G) (ck_nb G) post σ x1 x2 s0) (hw : ck_H G s H locs σ) (hl : lv_has ls 3 [(0, .ref (ck_ad G 10 0)), (1, .int x1), (2, .int x2)]) : W p l e ({ frames := 3, cells := 0, slots := 0, locals := 77 } : Room) s m args below meth c H locs 0 0 (MQ below (va_Qi post (ck_Q G) (ck_A G s.heap.size)) args s 0 0 (ck_A G s.heap.size)) (F0 m 39 ls [.int s0, .ref (ck_ad G 10 0)]) := by
  obtain ⟨hx, hb, hr, hml, hown, hts, hlocks⟩ := id X
  have inX7 : ∀ w ∈ wsX70, w ∈ wsX7_valid := fun _ h => List.mem_cons_of_mem _ (List.mem_append_right _ (h))
  unfold sp_X7_valid_39 at h
  refine ck_puti hx hb hts inX7 tyX7 tyX7_ok nmX7 hown hw (hM 10 (by decide) (by decide)) rfl rfl 0 (by decide) (hts _ (List.mem_of_getElem? (i := 3) rfl)) rfl rfl rfl (Nat.le_of_ble_eq_true rfl) rfl dX7_valid_39 (fun H locs hw => ?_)
  obtain ⟨σ1, eσ1⟩ : ∃ z : ck_S, z = ck_ui σ 10 0 0 s0 := ⟨_, rfl⟩
  rw [← eσ1] at hw
  have h := h σ1 eσ1
  refine lv_aload_n hx hb dX7_valid_42 rfl (lv_at hl 0 rfl) ?_
  refine ck_get hx hb hts inX7 hown hw (hM 10 (by decide) (by decide)) rfl rfl 0 (by decide) (hts _ (List.mem_of_getElem? (i := 3) rfl)) rfl dX7_valid_43 ?_
  obtain ⟨hA, hB⟩ := h
  refine lv_if_ne (tgt := 62) hx hb dX7_valid_46 (by decide) (fun c2 => ?_) (fun c2 => ?_)
  · have h := hA c2
    refine lv_iconst (v := 0) hx hb dX7_valid_62 (by decide) ?_
    exact ck_zret X hw h dX7_valid_63
  · have h := hB c2
    refine lv_aload_n hx hb dX7_valid_49 rfl (lv_at hl 0 rfl) ?_
    refine lv_iload_n hx hb dX7_valid_50 rfl (lv_at hl 1 rfl) ?_
    refine lv_iload_n hx hb dX7_valid_51 rfl (lv_at hl 2 rfl) ?_
    refine ck_callVi (rest := []) ⟨hx, hb, hml, hown, hts⟩ hw (hM 10 (by decide) (by decide)) rfl rfl (ct_X7_isValid l G hM h) (cwV 2 hts gX7_valid_X7_isValid rfl rfl rfl (by decide +kernel) ⟨(Nat.le_of_ble_eq_true rfl), (Nat.le_of_ble_eq_true rfl)⟩) rfl hl.1 rfl (Nat.le_of_ble_eq_true rfl) dX7_valid_52 ⟨(Nat.le_of_ble_eq_true rfl), (Nat.le_of_ble_eq_true rfl)⟩ (fun x_4 σ3 H locs h hw => ?_)
    obtain ⟨hA, hB⟩ := h
    refine lv_if_eq (tgt := 62) hx hb dX7_valid_55 (by decide) (fun c5 => ?_) (fun c5 => ?_)
    · have h := hA c5
      refine lv_iconst (v := 0) hx hb dX7_valid_62 (by decide) ?_
      exact ck_zret X hw h dX7_valid_63
    · have h := hB c5
      refine lv_iconst (v := 1) hx hb dX7_valid_58 (by decide) ?_
      refine lv_goto (tgt := 63) hx hb dX7_valid_59 (by decide) ?_
      exact ck_zret X hw h dX7_valid_63
set_option maxHeartbeats 4000000 in
set_option maxRecDepth 100000 in
theorem wk_X7_valid_23 {p : Program} {l : Launch} {e : Env} {s : State} {m : MethodId} {args : Array Value} {below : List Frame} {meth : Method} {c : Code} {G : ck_G} (X : ck_X p s m meth c args cX7_valid 3 (some .boolean) RX7 wsX7_valid) (hM : ck_inM G) {post : Int32 → ck_S → Prop} {σ : ck_S} {x1 : Int32} {x2 : Int32} {H : Heap} {locs : List Loc} {ls : Array Slot} (h : sp_X7_valid_23 (ck_nc G) (ck_nb G) post σ x1 x2) (hw : ck_H G s H locs σ) (hl : lv_has ls 3 [(0, .ref (ck_ad G 10 0)), (1, .int x1), (2, .int x2)]) : W p l e ({ frames := 3, cells := 0, slots := 0, locals := 77 } : Room) s m args below meth c H locs 0 0 (MQ below (va_Qi post (ck_Q G) (ck_A G s.heap.size)) args s 0 0 (ck_A G s.heap.size)) (F0 m 23 ls [.ref (ck_ad G 10 0)]) := by
  obtain ⟨hx, hb, hr, hml, hown, hts, hlocks⟩ := id X
  have inX7 : ∀ w ∈ wsX70, w ∈ wsX7_valid := fun _ h => List.mem_cons_of_mem _ (List.mem_append_right _ (h))
  unfold sp_X7_valid_23 at h
  refine lv_iconst (v := 1) hx hb dX7_valid_23 (by decide) ?_
  refine lv_goto (tgt := 39) hx hb dX7_valid_24 (by decide) ?_
  exact wk_X7_valid_39 X hM h hw (lv_sub hl [0, 1, 2] rfl)
set_option maxHeartbeats 4000000 in
set_option maxRecDepth 100000 in
theorem wk_X7_valid_0 {p : Program} {l : Launch} {e : Env} {s : State} {m : MethodId} {args : Array Value} {below : List Frame} {meth : Method} {c : Code} {G : ck_G} (X : ck_X p s m meth c args cX7_valid 3 (some .boolean) RX7 wsX7_valid) (hM : ck_inM G) {post : Int32 → ck_S → Prop} {σ : ck_S} {a0 : Int32} {a1 : Int32} {H : Heap} {locs : List Loc} {ls : Array Slot} (h : sp_X7_valid (ck_nc G) (ck_nb G) σ a0 a1 post) (hw : ck_H G s H locs σ) (hl : lv_has ls 3 [(0, .ref (ck_ad G 10 0)), (1, .int a0), (2, .int a1)]) : W p l e ({ frames := 3, cells := 0, slots := 0, locals := 77 } : Room) s m args below meth c H locs 0 0 (MQ below (va_Qi post (ck_Q G) (ck_A G s.heap.size)) args s 0 0 (ck_A G s.heap.size)) (F0 m 0 ls []) := by
  obtain ⟨hx, hb, hr, hml, hown, hts, hlocks⟩ := id X
  have inX7 : ∀ w ∈ wsX70, w ∈ wsX7_valid := fun _ h => List.mem_cons_of_mem _ (List.mem_append_right _ (h))
  unfold sp_X7_valid at h
  refine lv_aload_n hx hb dX7_valid_0 rfl (lv_at hl 0 rfl) ?_
  refine lv_iload_n hx hb dX7_valid_1 rfl (lv_at hl 1 rfl) ?_
  obtain ⟨hA, hB⟩ := h
  refine lv_if_lt (tgt := 23) hx hb dX7_valid_2 (by decide) (fun c1 => ?_) (fun c1 => ?_)
  · have h := hA c1
    exact wk_X7_valid_23 X hM h hw (lv_sub hl [0, 1, 2] rfl)
  · have h := hB c1
    refine lv_iload_n hx hb dX7_valid_5 rfl (lv_at hl 1 rfl) ?_
    refine lv_aload_n hx hb dX7_valid_6 rfl (lv_at hl 0 rfl) ?_
    refine ck_get hx hb hts inX7 hown hw (hM 10 (by decide) (by decide)) rfl rfl 1 (by decide) (hts _ (List.mem_of_getElem? (i := 1) rfl)) rfl dX7_valid_7 ?_
    obtain ⟨hA, hB⟩ := h
    refine lv_icmp_ge (tgt := 23) hx hb dX7_valid_10 (by decide) (fun c2 => ?_) (fun c2 => ?_)
    · have h := hA c2
      exact wk_X7_valid_23 X hM h hw (lv_sub hl [0, 1, 2] rfl)
    · have h := hB c2
      refine lv_iload_n hx hb dX7_valid_13 rfl (lv_at hl 2 rfl) ?_
      obtain ⟨hA, hB⟩ := h
      refine lv_if_lt (tgt := 23) hx hb dX7_valid_14 (by decide) (fun c3 => ?_) (fun c3 => ?_)
      · have h := hA c3
        exact wk_X7_valid_23 X hM h hw (lv_sub hl [0, 1, 2] rfl)
      · have h := hB c3
        refine lv_iload_n hx hb dX7_valid_17 rfl (lv_at hl 2 rfl) ?_
        refine lv_bipush (v := 6) hx hb dX7_valid_18 (by decide) ?_
        obtain ⟨hA, hB⟩ := h
        refine lv_icmp_lt (tgt := 27) hx hb dX7_valid_20 (by decide) (fun c4 => ?_) (fun c4 => ?_)
        · have h := hA c4
          refine lv_aload_n hx hb dX7_valid_27 rfl (lv_at hl 0 rfl) ?_
          refine ck_get hx hb hts inX7 hown hw (hM 10 (by decide) (by decide)) rfl rfl 9 (by decide) (hts _ (List.mem_of_getElem? (i := 2) rfl)) rfl dX7_valid_28 ?_
          obtain ⟨hA, hB⟩ := h
          refine lv_if_eq (tgt := 38) hx hb dX7_valid_31 (by decide) (fun c5 => ?_) (fun c5 => ?_)
          · have h := hA c5
            refine lv_iconst (v := 0) hx hb dX7_valid_38 (by decide) ?_
            exact wk_X7_valid_39 X hM h hw (lv_sub hl [0, 1, 2] rfl)
          · have h := hB c5
            refine lv_iconst (v := 2) hx hb dX7_valid_34 (by decide) ?_
            refine lv_goto (tgt := 39) hx hb dX7_valid_35 (by decide) ?_
            exact wk_X7_valid_39 X hM h hw (lv_sub hl [0, 1, 2] rfl)
        · have h := hB c4
          exact wk_X7_valid_23 X hM h hw (lv_sub hl [0, 1, 2] rfl)
set_option maxHeartbeats 4000000 in
set_option maxRecDepth 100000 in
theorem ct_X7_valid (l : Launch) (G : ck_G) (hM : ck_inM G) {a0 : Int32} {a1 : Int32} {σ : ck_S} {post : Int32 → ck_S → Prop} (h : sp_X7_valid (ck_nc G) (ck_nb G) σ a0 a1 post) : ck_Mi l yX7_valid wsX7_valid ({ frames := 3, cells := 0, slots := 0, locals := 77 } : Room) G σ [.ref (ck_ad G 10 0), .int a0, .int a1] post := by
  intro sz
  refine Met.ofW (cc := cX7_valid) (maxL := 3) (ret := (some .boolean)) (by decide) rfl ?_
  intro p e s m args below meth c s₁ B hml hv
  obtain ⟨rfl, rfl, hw⟩ := ck_enter hv
  have hl := lv_entry ([.ref (ck_ad G 10 0), .int a0, .int a1]) (n := 3) (Nat.le_of_ble_eq_true rfl)
  rw [lg_entry_eq]
  generalize (lg_sl ([.ref (ck_ad G 10 0), .int a0, .int a1]) ++ List.replicate (3 - (lg_sl ([.ref (ck_ad G 10 0), .int a0, .int a1])).length) Slot.unset).toArray = ls at hl ⊢
  have hl : lv_has ls 3 [(0, .ref (ck_ad G 10 0)), (1, .int a0), (2, .int a1)] := hl
  exact wk_X7_valid_0 ⟨B.exec, B.bytes, B.returns, hml, findClass_of_methodNamed B.named, atoms_spec (ws := wsX7_valid) B.pre, B.notSynchronized⟩ hM h hw hl
def sp_X7_bleeding (nc nb : Nat) (σ : ck_S) (a0 : Int32) (post : Int32 → ck_S → Prop) : Prop := sp_X7_noChip nc nb σ a0 (fun x_2 σ1 => ((x_2 = 0 → ((vp_in a0 4) ∧ post (ck_gi σ1 20 0 (Int32.toNatClampNeg a0)) σ1)) ∧ (¬ x_2 = 0 → (post 0 σ1))))
set_option maxHeartbeats 4000000 in
set_option maxRecDepth 100000 in
theorem wk_X7_bleeding_0 {p : Program} {l : Launch} {e : Env} {s : State} {m : MethodId} {args : Array Value} {below : List Frame} {meth : Method} {c : Code} {G : ck_G} (X : ck_X p s m meth c args cX7_bleeding 2 (some .int) RX7 wsX7_bleeding) (hM : ck_inM G) {post : Int32 → ck_S → Prop} {σ : ck_S} {a0 : Int32} {H : Heap} {locs : List Loc} {ls : Array Slot} (h : sp_X7_bleeding (ck_nc G) (ck_nb G) σ a0 post) (hw : ck_H G s H locs σ) (hl : lv_has ls 2 [(0, .ref (ck_ad G 10 0)), (1, .int a0)]) : W p l e ({ frames := 1, cells := 0, slots := 0, locals := 21 } : Room) s m args below meth c H locs 0 0 (MQ below (va_Qi post (ck_Q G) (ck_A G s.heap.size)) args s 0 0 (ck_A G s.heap.size)) (F0 m 0 ls []) := by
  obtain ⟨hx, hb, hr, hml, hown, hts, hlocks⟩ := id X
  have inX7 : ∀ w ∈ wsX70, w ∈ wsX7_bleeding := fun _ h => List.mem_cons_of_mem _ (List.mem_append_right _ (h))
  unfold sp_X7_bleeding at h
  refine lv_aload_n hx hb dX7_bleeding_0 rfl (lv_at hl 0 rfl) ?_
  refine lv_iload_n hx hb dX7_bleeding_1 rfl (lv_at hl 1 rfl) ?_
  refine ck_callVi (rest := []) ⟨hx, hb, hml, hown, hts⟩ hw (hM 10 (by decide) (by decide)) rfl rfl (ct_X7_noChip l G hM h) (cwV 1 hts gX7_bleeding_X7_noChip rfl rfl rfl (by decide +kernel) ⟨(Nat.le_of_ble_eq_true rfl), (Nat.le_of_ble_eq_true rfl)⟩) rfl hl.1 rfl (Nat.le_of_ble_eq_true rfl) dX7_bleeding_2 ⟨(Nat.le_of_ble_eq_true rfl), (Nat.le_of_ble_eq_true rfl)⟩ (fun x_2 σ1 H locs h hw => ?_)
  obtain ⟨hA, hB⟩ := h
  refine lv_if_eq (tgt := 12) hx hb dX7_bleeding_5 (by decide) (fun c3 => ?_) (fun c3 => ?_)
  · have h := hA c3
    refine lv_aload_n hx hb dX7_bleeding_12 rfl (lv_at hl 0 rfl) ?_
    refine ck_get hx hb hts inX7 hown hw (hM 10 (by decide) (by decide)) rfl rfl 30 (by decide) (hts _ (List.mem_of_getElem? (i := 1) rfl)) rfl dX7_bleeding_13 ?_
    refine lv_iload_n hx hb dX7_bleeding_16 rfl (lv_at hl 1 rfl) ?_
    obtain ⟨n4, h⟩ := h
    refine ck_iald hx hb hw (hM 20 (by decide) (by decide)) rfl n4 dX7_bleeding_17 ?_
    exact ck_iret X hw h dX7_bleeding_18
  · have h := hB c3
    refine lv_iconst (v := 0) hx hb dX7_bleeding_8 (by decide) ?_
    refine lv_goto (tgt := 18) hx hb dX7_bleeding_9 (by decide) ?_
    exact ck_iret X hw h dX7_bleeding_18
set_option maxHeartbeats 4000000 in
set_option maxRecDepth 100000 in
theorem ct_X7_bleeding (l : Launch) (G : ck_G) (hM : ck_inM G) {a0 : Int32} {σ : ck_S} {post : Int32 → ck_S → Prop} (h : sp_X7_bleeding (ck_nc G) (ck_nb G) σ a0 post) : ck_Mi l yX7_bleeding wsX7_bleeding ({ frames := 1, cells := 0, slots := 0, locals := 21 } : Room) G σ [.ref (ck_ad G 10 0), .int a0] post := by
  intro sz
  refine Met.ofW (cc := cX7_bleeding) (maxL := 2) (ret := (some .int)) (by decide) rfl ?_
  intro p e s m args below meth c s₁ B hml hv
  obtain ⟨rfl, rfl, hw⟩ := ck_enter hv
  have hl := lv_entry ([.ref (ck_ad G 10 0), .int a0]) (n := 2) (Nat.le_of_ble_eq_true rfl)
  rw [lg_entry_eq]
  generalize (lg_sl ([.ref (ck_ad G 10 0), .int a0]) ++ List.replicate (2 - (lg_sl ([.ref (ck_ad G 10 0), .int a0])).length) Slot.unset).toArray = ls at hl ⊢
  have hl : lv_has ls 2 [(0, .ref (ck_ad G 10 0)), (1, .int a0)] := hl
  exact wk_X7_bleeding_0 ⟨B.exec, B.bytes, B.returns, hml, findClass_of_methodNamed B.named, atoms_spec (ws := wsX7_bleeding) B.pre, B.notSynchronized⟩ hM h hw hl
def sp_X7_faults (nc nb : Nat) (σ : ck_S) (post : Int32 → ck_S → Prop) : Prop := sp_X7_noPower nc nb σ (fun x_2 σ1 => ((x_2 = 0 → (post (ck_gi σ1 10 0 26) σ1)) ∧ (¬ x_2 = 0 → (post 0 σ1))))
set_option maxHeartbeats 4000000 in
set_option maxRecDepth 100000 in
theorem wk_X7_faults_0 {p : Program} {l : Launch} {e : Env} {s : State} {m : MethodId} {args : Array Value} {below : List Frame} {meth : Method} {c : Code} {G : ck_G} (X : ck_X p s m meth c args cX7_faults 1 (some .int) RX7 wsX7_faults) (hM : ck_inM G) {post : Int32 → ck_S → Prop} {σ : ck_S} {H : Heap} {locs : List Loc} {ls : Array Slot} (h : sp_X7_faults (ck_nc G) (ck_nb G) σ post) (hw : ck_H G s H locs σ) (hl : lv_has ls 1 [(0, .ref (ck_ad G 10 0))]) : W p l e ({ frames := 1, cells := 0, slots := 0, locals := 20 } : Room) s m args below meth c H locs 0 0 (MQ below (va_Qi post (ck_Q G) (ck_A G s.heap.size)) args s 0 0 (ck_A G s.heap.size)) (F0 m 0 ls []) := by
  obtain ⟨hx, hb, hr, hml, hown, hts, hlocks⟩ := id X
  have inX7 : ∀ w ∈ wsX70, w ∈ wsX7_faults := fun _ h => List.mem_cons_of_mem _ (List.mem_append_right _ (h))
  unfold sp_X7_faults at h
  refine lv_aload_n hx hb dX7_faults_0 rfl (lv_at hl 0 rfl) ?_
  refine ck_callVi (rest := []) ⟨hx, hb, hml, hown, hts⟩ hw (hM 10 (by decide) (by decide)) rfl rfl (ct_X7_noPower l G hM h) (cwV 0 hts gX7_faults_X7_noPower rfl rfl rfl (by decide +kernel) ⟨(Nat.le_of_ble_eq_true rfl), (Nat.le_of_ble_eq_true rfl)⟩) rfl hl.1 rfl (Nat.le_of_ble_eq_true rfl) dX7_faults_1 ⟨(Nat.le_of_ble_eq_true rfl), (Nat.le_of_ble_eq_true rfl)⟩ (fun x_2 σ1 H locs h hw => ?_)
  obtain ⟨hA, hB⟩ := h
  refine lv_if_eq (tgt := 11) hx hb dX7_faults_4 (by decide) (fun c3 => ?_) (fun c3 => ?_)
  · have h := hA c3
    refine lv_aload_n hx hb dX7_faults_11 rfl (lv_at hl 0 rfl) ?_
    refine ck_get hx hb hts inX7 hown hw (hM 10 (by decide) (by decide)) rfl rfl 26 (by decide) (hts _ (List.mem_of_getElem? (i := 1) rfl)) rfl dX7_faults_12 ?_
    exact ck_iret X hw h dX7_faults_15
  · have h := hB c3
    refine lv_iconst (v := 0) hx hb dX7_faults_7 (by decide) ?_
    refine lv_goto (tgt := 15) hx hb dX7_faults_8 (by decide) ?_
    exact ck_iret X hw h dX7_faults_15
set_option maxHeartbeats 4000000 in
set_option maxRecDepth 100000 in
theorem ct_X7_faults (l : Launch) (G : ck_G) (hM : ck_inM G) {σ : ck_S} {post : Int32 → ck_S → Prop} (h : sp_X7_faults (ck_nc G) (ck_nb G) σ post) : ck_Mi l yX7_faults wsX7_faults ({ frames := 1, cells := 0, slots := 0, locals := 20 } : Room) G σ [.ref (ck_ad G 10 0)] post := by
  intro sz
  refine Met.ofW (cc := cX7_faults) (maxL := 1) (ret := (some .int)) (by decide) rfl ?_
  intro p e s m args below meth c s₁ B hml hv
  obtain ⟨rfl, rfl, hw⟩ := ck_enter hv
  have hl := lv_entry ([.ref (ck_ad G 10 0)]) (n := 1) (Nat.le_of_ble_eq_true rfl)
  rw [lg_entry_eq]
  generalize (lg_sl ([.ref (ck_ad G 10 0)]) ++ List.replicate (1 - (lg_sl ([.ref (ck_ad G 10 0)])).length) Slot.unset).toArray = ls at hl ⊢
  have hl : lv_has ls 1 [(0, .ref (ck_ad G 10 0))] := hl
  exact wk_X7_faults_0 ⟨B.exec, B.bytes, B.returns, hml, findClass_of_methodNamed B.named, atoms_spec (ws := wsX7_faults) B.pre, B.notSynchronized⟩ hM h hw hl
def sp_X7_count_27 (nc nb : Nat) (post : Int32 → ck_S → Prop) (σ : ck_S) (x1 : Int32) (s0 : Int32) : Prop := ∀ σ1, σ1 = ck_ui σ 10 0 0 s0 → (((ck_gi σ1 10 0 0) ≤ 0 → ((vp_in x1 7) ∧ post (ck_gi σ1 19 0 (Int32.toNatClampNeg x1)) σ1)) ∧ (¬ (ck_gi σ1 10 0 0) ≤ 0 → (post 0 σ1)))
def sp_X7_count_11 (nc nb : Nat) (post : Int32 → ck_S → Prop) (σ : ck_S) (x1 : Int32) : Prop := sp_X7_count_27 nc nb post σ x1 1
def sp_X7_count (nc nb : Nat) (σ : ck_S) (a0 : Int32) (post : Int32 → ck_S → Prop) : Prop := ((a0 < 0 → (sp_X7_count_11 nc nb post σ a0)) ∧ (¬ a0 < 0 → (((a0 ≤ 6 → ((((ck_gi σ 10 0 9) = 0 → (sp_X7_count_27 nc nb post σ a0 0)) ∧ (¬ (ck_gi σ 10 0 9) = 0 → (sp_X7_count_27 nc nb post σ a0 2))))) ∧ (¬ a0 ≤ 6 → (sp_X7_count_11 nc nb post σ a0))))))
set_option maxHeartbeats 4000000 in
set_option maxRecDepth 100000 in
theorem wk_X7_count_27 {p : Program} {l : Launch} {e : Env} {s : State} {m : MethodId} {args : Array Value} {below : List Frame} {meth : Method} {c : Code} {G : ck_G} (X : ck_X p s m meth c args cX7_count 2 (some .int) RX7 wsX7_count) (hM : ck_inM G) {post : Int32 → ck_S → Prop} {σ : ck_S} {x1 : Int32} {s0 : Int32} {H : Heap} {locs : List Loc} {ls : Array Slot} (h : sp_X7_count_27 (ck_nc G) (ck_nb G) post σ x1 s0) (hw : ck_H G s H locs σ) (hl : lv_has ls 2 [(0, .ref (ck_ad G 10 0)), (1, .int x1)]) : W p l e ({ frames := 0, cells := 0, slots := 0, locals := 0 } : Room) s m args below meth c H locs 0 0 (MQ below (va_Qi post (ck_Q G) (ck_A G s.heap.size)) args s 0 0 (ck_A G s.heap.size)) (F0 m 27 ls [.int s0, .ref (ck_ad G 10 0)]) := by
  obtain ⟨hx, hb, hr, hml, hown, hts, hlocks⟩ := id X
  have inX7 : ∀ w ∈ wsX70, w ∈ wsX7_count := fun _ h => List.mem_cons_of_mem _ (List.mem_append_right _ (h))
  unfold sp_X7_count_27 at h
  refine ck_puti hx hb hts inX7 tyX7 tyX7_ok nmX7 hown hw (hM 10 (by decide) (by decide)) rfl rfl 0 (by decide) (hts _ (List.mem_of_getElem? (i := 2) rfl)) rfl rfl rfl (Nat.le_of_ble_eq_true rfl) rfl dX7_count_27 (fun H locs hw => ?_)
  obtain ⟨σ1, eσ1⟩ : ∃ z : ck_S, z = ck_ui σ 10 0 0 s0 := ⟨_, rfl⟩
  rw [← eσ1] at hw
  have h := h σ1 eσ1
  refine lv_aload_n hx hb dX7_count_30 rfl (lv_at hl 0 rfl) ?_
  refine ck_get hx hb hts inX7 hown hw (hM 10 (by decide) (by decide)) rfl rfl 0 (by decide) (hts _ (List.mem_of_getElem? (i := 2) rfl)) rfl dX7_count_31 ?_
  obtain ⟨hA, hB⟩ := h
  refine lv_if_le (tgt := 41) hx hb dX7_count_34 (by decide) (fun c2 => ?_) (fun c2 => ?_)
  · have h := hA c2
    refine lv_aload_n hx hb dX7_count_41 rfl (lv_at hl 0 rfl) ?_
    refine ck_get hx hb hts inX7 hown hw (hM 10 (by decide) (by decide)) rfl rfl 25 (by decide) (hts _ (List.mem_of_getElem? (i := 3) rfl)) rfl dX7_count_42 ?_
    refine lv_iload_n hx hb dX7_count_45 rfl (lv_at hl 1 rfl) ?_
    obtain ⟨n3, h⟩ := h
    refine ck_iald hx hb hw (hM 19 (by decide) (by decide)) rfl n3 dX7_count_46 ?_
    exact ck_iret X hw h dX7_count_47
  · have h := hB c2
    refine lv_iconst (v := 0) hx hb dX7_count_37 (by decide) ?_
    refine lv_goto (tgt := 47) hx hb dX7_count_38 (by decide) ?_
    exact ck_iret X hw h dX7_count_47
set_option maxHeartbeats 4000000 in
set_option maxRecDepth 100000 in
theorem wk_X7_count_11 {p : Program} {l : Launch} {e : Env} {s : State} {m : MethodId} {args : Array Value} {below : List Frame} {meth : Method} {c : Code} {G : ck_G} (X : ck_X p s m meth c args cX7_count 2 (some .int) RX7 wsX7_count) (hM : ck_inM G) {post : Int32 → ck_S → Prop} {σ : ck_S} {x1 : Int32} {H : Heap} {locs : List Loc} {ls : Array Slot} (h : sp_X7_count_11 (ck_nc G) (ck_nb G) post σ x1) (hw : ck_H G s H locs σ) (hl : lv_has ls 2 [(0, .ref (ck_ad G 10 0)), (1, .int x1)]) : W p l e ({ frames := 0, cells := 0, slots := 0, locals := 0 } : Room) s m args below meth c H locs 0 0 (MQ below (va_Qi post (ck_Q G) (ck_A G s.heap.size)) args s 0 0 (ck_A G s.heap.size)) (F0 m 11 ls [.ref (ck_ad G 10 0)]) := by
  obtain ⟨hx, hb, hr, hml, hown, hts, hlocks⟩ := id X
  have inX7 : ∀ w ∈ wsX70, w ∈ wsX7_count := fun _ h => List.mem_cons_of_mem _ (List.mem_append_right _ (h))
  unfold sp_X7_count_11 at h
  refine lv_iconst (v := 1) hx hb dX7_count_11 (by decide) ?_
  refine lv_goto (tgt := 27) hx hb dX7_count_12 (by decide) ?_
  exact wk_X7_count_27 X hM h hw (lv_sub hl [0, 1] rfl)
set_option maxHeartbeats 4000000 in
set_option maxRecDepth 100000 in
theorem wk_X7_count_0 {p : Program} {l : Launch} {e : Env} {s : State} {m : MethodId} {args : Array Value} {below : List Frame} {meth : Method} {c : Code} {G : ck_G} (X : ck_X p s m meth c args cX7_count 2 (some .int) RX7 wsX7_count) (hM : ck_inM G) {post : Int32 → ck_S → Prop} {σ : ck_S} {a0 : Int32} {H : Heap} {locs : List Loc} {ls : Array Slot} (h : sp_X7_count (ck_nc G) (ck_nb G) σ a0 post) (hw : ck_H G s H locs σ) (hl : lv_has ls 2 [(0, .ref (ck_ad G 10 0)), (1, .int a0)]) : W p l e ({ frames := 0, cells := 0, slots := 0, locals := 0 } : Room) s m args below meth c H locs 0 0 (MQ below (va_Qi post (ck_Q G) (ck_A G s.heap.size)) args s 0 0 (ck_A G s.heap.size)) (F0 m 0 ls []) := by
  obtain ⟨hx, hb, hr, hml, hown, hts, hlocks⟩ := id X
  have inX7 : ∀ w ∈ wsX70, w ∈ wsX7_count := fun _ h => List.mem_cons_of_mem _ (List.mem_append_right _ (h))
  unfold sp_X7_count at h
  refine lv_aload_n hx hb dX7_count_0 rfl (lv_at hl 0 rfl) ?_
  refine lv_iload_n hx hb dX7_count_1 rfl (lv_at hl 1 rfl) ?_
  obtain ⟨hA, hB⟩ := h
  refine lv_if_lt (tgt := 11) hx hb dX7_count_2 (by decide) (fun c1 => ?_) (fun c1 => ?_)
  · have h := hA c1
    exact wk_X7_count_11 X hM h hw (lv_sub hl [0, 1] rfl)
  · have h := hB c1
    refine lv_iload_n hx hb dX7_count_5 rfl (lv_at hl 1 rfl) ?_
    refine lv_bipush (v := 6) hx hb dX7_count_6 (by decide) ?_
    obtain ⟨hA, hB⟩ := h
    refine lv_icmp_le (tgt := 15) hx hb dX7_count_8 (by decide) (fun c2 => ?_) (fun c2 => ?_)
    · have h := hA c2
      refine lv_aload_n hx hb dX7_count_15 rfl (lv_at hl 0 rfl) ?_
      refine ck_get hx hb hts inX7 hown hw (hM 10 (by decide) (by decide)) rfl rfl 9 (by decide) (hts _ (List.mem_of_getElem? (i := 1) rfl)) rfl dX7_count_16 ?_
      obtain ⟨hA, hB⟩ := h
      refine lv_if_eq (tgt := 26) hx hb dX7_count_19 (by decide) (fun c3 => ?_) (fun c3 => ?_)
      · have h := hA c3
        refine lv_iconst (v := 0) hx hb dX7_count_26 (by decide) ?_
        exact wk_X7_count_27 X hM h hw (lv_sub hl [0, 1] rfl)
      · have h := hB c3
        refine lv_iconst (v := 2) hx hb dX7_count_22 (by decide) ?_
        refine lv_goto (tgt := 27) hx hb dX7_count_23 (by decide) ?_
        exact wk_X7_count_27 X hM h hw (lv_sub hl [0, 1] rfl)
    · have h := hB c2
      exact wk_X7_count_11 X hM h hw (lv_sub hl [0, 1] rfl)
set_option maxHeartbeats 4000000 in
set_option maxRecDepth 100000 in
theorem ct_X7_count (l : Launch) (G : ck_G) (hM : ck_inM G) {a0 : Int32} {σ : ck_S} {post : Int32 → ck_S → Prop} (h : sp_X7_count (ck_nc G) (ck_nb G) σ a0 post) : ck_Mi l yX7_count wsX7_count ({ frames := 0, cells := 0, slots := 0, locals := 0 } : Room) G σ [.ref (ck_ad G 10 0), .int a0] post := by
  intro sz
  refine Met.ofW (cc := cX7_count) (maxL := 2) (ret := (some .int)) (by decide) rfl ?_
  intro p e s m args below meth c s₁ B hml hv
  obtain ⟨rfl, rfl, hw⟩ := ck_enter hv
  have hl := lv_entry ([.ref (ck_ad G 10 0), .int a0]) (n := 2) (Nat.le_of_ble_eq_true rfl)
  rw [lg_entry_eq]
  generalize (lg_sl ([.ref (ck_ad G 10 0), .int a0]) ++ List.replicate (2 - (lg_sl ([.ref (ck_ad G 10 0), .int a0])).length) Slot.unset).toArray = ls at hl ⊢
  have hl : lv_has ls 2 [(0, .ref (ck_ad G 10 0)), (1, .int a0)] := hl
  exact wk_X7_count_0 ⟨B.exec, B.bytes, B.returns, hml, findClass_of_methodNamed B.named, atoms_spec (ws := wsX7_count) B.pre, B.notSynchronized⟩ hM h hw hl
def sp_X7_journal_21 (nc nb : Nat) (post : Int32 → ck_S → Prop) (σ : ck_S) (x1 : Int32) (s0 : Int32) : Prop := ∀ σ1, σ1 = ck_ui σ 10 0 0 s0 → (((ck_gi σ1 10 0 0) ≤ 0 → ((vp_in x1 512) ∧ post (ck_gi σ1 11 0 (Int32.toNatClampNeg x1)) σ1)) ∧ (¬ (ck_gi σ1 10 0 0) ≤ 0 → (post 0 σ1)))
def sp_X7_journal_16 (nc nb : Nat) (post : Int32 → ck_S → Prop) (σ : ck_S) (x1 : Int32) : Prop := sp_X7_journal_21 nc nb post σ x1 1
def sp_X7_journal (nc nb : Nat) (σ : ck_S) (a0 : Int32) (post : Int32 → ck_S → Prop) : Prop := ((a0 < 0 → (sp_X7_journal_16 nc nb post σ a0)) ∧ (¬ a0 < 0 → (((a0 < (32 * (ck_gi σ 10 0 2)) → (sp_X7_journal_21 nc nb post σ a0 0)) ∧ (¬ a0 < (32 * (ck_gi σ 10 0 2)) → (sp_X7_journal_16 nc nb post σ a0))))))
set_option maxHeartbeats 4000000 in
set_option maxRecDepth 100000 in
theorem wk_X7_journal_21 {p : Program} {l : Launch} {e : Env} {s : State} {m : MethodId} {args : Array Value} {below : List Frame} {meth : Method} {c : Code} {G : ck_G} (X : ck_X p s m meth c args cX7_journal 2 (some .int) RX7 wsX7_journal) (hM : ck_inM G) {post : Int32 → ck_S → Prop} {σ : ck_S} {x1 : Int32} {s0 : Int32} {H : Heap} {locs : List Loc} {ls : Array Slot} (h : sp_X7_journal_21 (ck_nc G) (ck_nb G) post σ x1 s0) (hw : ck_H G s H locs σ) (hl : lv_has ls 2 [(0, .ref (ck_ad G 10 0)), (1, .int x1)]) : W p l e ({ frames := 0, cells := 0, slots := 0, locals := 0 } : Room) s m args below meth c H locs 0 0 (MQ below (va_Qi post (ck_Q G) (ck_A G s.heap.size)) args s 0 0 (ck_A G s.heap.size)) (F0 m 21 ls [.int s0, .ref (ck_ad G 10 0)]) := by
  obtain ⟨hx, hb, hr, hml, hown, hts, hlocks⟩ := id X
  have inX7 : ∀ w ∈ wsX70, w ∈ wsX7_journal := fun _ h => List.mem_cons_of_mem _ (List.mem_append_right _ (h))
  unfold sp_X7_journal_21 at h
  refine ck_puti hx hb hts inX7 tyX7 tyX7_ok nmX7 hown hw (hM 10 (by decide) (by decide)) rfl rfl 0 (by decide) (hts _ (List.mem_of_getElem? (i := 2) rfl)) rfl rfl rfl (Nat.le_of_ble_eq_true rfl) rfl dX7_journal_21 (fun H locs hw => ?_)
  obtain ⟨σ1, eσ1⟩ : ∃ z : ck_S, z = ck_ui σ 10 0 0 s0 := ⟨_, rfl⟩
  rw [← eσ1] at hw
  have h := h σ1 eσ1
  refine lv_aload_n hx hb dX7_journal_24 rfl (lv_at hl 0 rfl) ?_
  refine ck_get hx hb hts inX7 hown hw (hM 10 (by decide) (by decide)) rfl rfl 0 (by decide) (hts _ (List.mem_of_getElem? (i := 2) rfl)) rfl dX7_journal_25 ?_
  obtain ⟨hA, hB⟩ := h
  refine lv_if_le (tgt := 35) hx hb dX7_journal_28 (by decide) (fun c2 => ?_) (fun c2 => ?_)
  · have h := hA c2
    refine lv_aload_n hx hb dX7_journal_35 rfl (lv_at hl 0 rfl) ?_
    refine ck_get hx hb hts inX7 hown hw (hM 10 (by decide) (by decide)) rfl rfl 6 (by decide) (hts _ (List.mem_of_getElem? (i := 3) rfl)) rfl dX7_journal_36 ?_
    refine lv_iload_n hx hb dX7_journal_39 rfl (lv_at hl 1 rfl) ?_
    obtain ⟨n3, h⟩ := h
    refine ck_iald hx hb hw (hM 11 (by decide) (by decide)) rfl n3 dX7_journal_40 ?_
    exact ck_iret X hw h dX7_journal_41
  · have h := hB c2
    refine lv_iconst (v := 0) hx hb dX7_journal_31 (by decide) ?_
    refine lv_goto (tgt := 41) hx hb dX7_journal_32 (by decide) ?_
    exact ck_iret X hw h dX7_journal_41
set_option maxHeartbeats 4000000 in
set_option maxRecDepth 100000 in
theorem wk_X7_journal_16 {p : Program} {l : Launch} {e : Env} {s : State} {m : MethodId} {args : Array Value} {below : List Frame} {meth : Method} {c : Code} {G : ck_G} (X : ck_X p s m meth c args cX7_journal 2 (some .int) RX7 wsX7_journal) (hM : ck_inM G) {post : Int32 → ck_S → Prop} {σ : ck_S} {x1 : Int32} {H : Heap} {locs : List Loc} {ls : Array Slot} (h : sp_X7_journal_16 (ck_nc G) (ck_nb G) post σ x1) (hw : ck_H G s H locs σ) (hl : lv_has ls 2 [(0, .ref (ck_ad G 10 0)), (1, .int x1)]) : W p l e ({ frames := 0, cells := 0, slots := 0, locals := 0 } : Room) s m args below meth c H locs 0 0 (MQ below (va_Qi post (ck_Q G) (ck_A G s.heap.size)) args s 0 0 (ck_A G s.heap.size)) (F0 m 16 ls [.ref (ck_ad G 10 0)]) := by
  obtain ⟨hx, hb, hr, hml, hown, hts, hlocks⟩ := id X
  have inX7 : ∀ w ∈ wsX70, w ∈ wsX7_journal := fun _ h => List.mem_cons_of_mem _ (List.mem_append_right _ (h))
  unfold sp_X7_journal_16 at h
  refine lv_iconst (v := 1) hx hb dX7_journal_16 (by decide) ?_
  refine lv_goto (tgt := 21) hx hb dX7_journal_17 (by decide) ?_
  exact wk_X7_journal_21 X hM h hw (lv_sub hl [0, 1] rfl)
set_option maxHeartbeats 4000000 in
set_option maxRecDepth 100000 in
theorem wk_X7_journal_0 {p : Program} {l : Launch} {e : Env} {s : State} {m : MethodId} {args : Array Value} {below : List Frame} {meth : Method} {c : Code} {G : ck_G} (X : ck_X p s m meth c args cX7_journal 2 (some .int) RX7 wsX7_journal) (hM : ck_inM G) {post : Int32 → ck_S → Prop} {σ : ck_S} {a0 : Int32} {H : Heap} {locs : List Loc} {ls : Array Slot} (h : sp_X7_journal (ck_nc G) (ck_nb G) σ a0 post) (hw : ck_H G s H locs σ) (hl : lv_has ls 2 [(0, .ref (ck_ad G 10 0)), (1, .int a0)]) : W p l e ({ frames := 0, cells := 0, slots := 0, locals := 0 } : Room) s m args below meth c H locs 0 0 (MQ below (va_Qi post (ck_Q G) (ck_A G s.heap.size)) args s 0 0 (ck_A G s.heap.size)) (F0 m 0 ls []) := by
  obtain ⟨hx, hb, hr, hml, hown, hts, hlocks⟩ := id X
  have inX7 : ∀ w ∈ wsX70, w ∈ wsX7_journal := fun _ h => List.mem_cons_of_mem _ (List.mem_append_right _ (h))
  unfold sp_X7_journal at h
  refine lv_aload_n hx hb dX7_journal_0 rfl (lv_at hl 0 rfl) ?_
  refine lv_iload_n hx hb dX7_journal_1 rfl (lv_at hl 1 rfl) ?_
  obtain ⟨hA, hB⟩ := h
  refine lv_if_lt (tgt := 16) hx hb dX7_journal_2 (by decide) (fun c1 => ?_) (fun c1 => ?_)
  · have h := hA c1
    exact wk_X7_journal_16 X hM h hw (lv_sub hl [0, 1] rfl)
  · have h := hB c1
    refine lv_iload_n hx hb dX7_journal_5 rfl (lv_at hl 1 rfl) ?_
    refine lv_bipush (v := 32) hx hb dX7_journal_6 (by decide) ?_
    refine lv_aload_n hx hb dX7_journal_8 rfl (lv_at hl 0 rfl) ?_
    refine ck_get hx hb hts inX7 hown hw (hM 10 (by decide) (by decide)) rfl rfl 2 (by decide) (hts _ (List.mem_of_getElem? (i := 1) rfl)) rfl dX7_journal_9 ?_
    refine lv_imul hx hb dX7_journal_12 ?_
    obtain ⟨hA, hB⟩ := h
    refine lv_icmp_lt (tgt := 20) hx hb dX7_journal_13 (by decide) (fun c2 => ?_) (fun c2 => ?_)
    · have h := hA c2
      refine lv_iconst (v := 0) hx hb dX7_journal_20 (by decide) ?_
      exact wk_X7_journal_21 X hM h hw (lv_sub hl [0, 1] rfl)
    · have h := hB c2
      exact wk_X7_journal_16 X hM h hw (lv_sub hl [0, 1] rfl)
set_option maxHeartbeats 4000000 in
set_option maxRecDepth 100000 in
theorem ct_X7_journal (l : Launch) (G : ck_G) (hM : ck_inM G) {a0 : Int32} {σ : ck_S} {post : Int32 → ck_S → Prop} (h : sp_X7_journal (ck_nc G) (ck_nb G) σ a0 post) : ck_Mi l yX7_journal wsX7_journal ({ frames := 0, cells := 0, slots := 0, locals := 0 } : Room) G σ [.ref (ck_ad G 10 0), .int a0] post := by
  intro sz
  refine Met.ofW (cc := cX7_journal) (maxL := 2) (ret := (some .int)) (by decide) rfl ?_
  intro p e s m args below meth c s₁ B hml hv
  obtain ⟨rfl, rfl, hw⟩ := ck_enter hv
  have hl := lv_entry ([.ref (ck_ad G 10 0), .int a0]) (n := 2) (Nat.le_of_ble_eq_true rfl)
  rw [lg_entry_eq]
  generalize (lg_sl ([.ref (ck_ad G 10 0), .int a0]) ++ List.replicate (2 - (lg_sl ([.ref (ck_ad G 10 0), .int a0])).length) Slot.unset).toArray = ls at hl ⊢
  have hl : lv_has ls 2 [(0, .ref (ck_ad G 10 0)), (1, .int a0)] := hl
  exact wk_X7_journal_0 ⟨B.exec, B.bytes, B.returns, hml, findClass_of_methodNamed B.named, atoms_spec (ws := wsX7_journal) B.pre, B.notSynchronized⟩ hM h hw hl
def sp_X7_spoil_36 (nc nb : Nat) (post : ck_S → Prop) (σ : ck_S) (x1 : Int32) (x2 : Int32) (s0 : Int32) : Prop := ∀ σ1, σ1 = ck_ui σ 10 0 0 s0 → ((¬ (ck_gi σ1 10 0 0) = 0 → (post σ1)) ∧ ((ck_gi σ1 10 0 0) = 0 → ((vp_in x1 512) ∧ (vp_in x1 512) ∧ ∀ σ5, σ5 = ck_ui σ1 11 0 (Int32.toNatClampNeg x1) ((ck_gi σ1 11 0 (Int32.toNatClampNeg x1)) ^^^ x2) → post σ5)))
def sp_X7_spoil_16 (nc nb : Nat) (post : ck_S → Prop) (σ : ck_S) (x1 : Int32) (x2 : Int32) : Prop := sp_X7_spoil_36 nc nb post σ x1 x2 1
def sp_X7_spoil_31 (nc nb : Nat) (post : ck_S → Prop) (σ : ck_S) (x1 : Int32) (x2 : Int32) : Prop := sp_X7_spoil_36 nc nb post σ x1 x2 2
def sp_X7_spoil (nc nb : Nat) (σ : ck_S) (a0 : Int32) (a1 : Int32) (post : ck_S → Prop) : Prop := ((a0 < 0 → (sp_X7_spoil_16 nc nb post σ a0 a1)) ∧ (¬ a0 < 0 → (((a0 < (32 * (ck_gi σ 10 0 2)) → (((a1 < 0 → (sp_X7_spoil_31 nc nb post σ a0 a1)) ∧ (¬ a1 < 0 → (((a1 ≤ 255 → (sp_X7_spoil_36 nc nb post σ a0 a1 0)) ∧ (¬ a1 ≤ 255 → (sp_X7_spoil_31 nc nb post σ a0 a1)))))))) ∧ (¬ a0 < (32 * (ck_gi σ 10 0 2)) → (sp_X7_spoil_16 nc nb post σ a0 a1))))))
set_option maxHeartbeats 4000000 in
set_option maxRecDepth 100000 in
theorem wk_X7_spoil_36 {p : Program} {l : Launch} {e : Env} {s : State} {m : MethodId} {args : Array Value} {below : List Frame} {meth : Method} {c : Code} {G : ck_G} (X : ck_X p s m meth c args cX7_spoil 3 none RX7 wsX7_spoil) (hM : ck_inM G) {post : ck_S → Prop} {σ : ck_S} {x1 : Int32} {x2 : Int32} {s0 : Int32} {H : Heap} {locs : List Loc} {ls : Array Slot} (h : sp_X7_spoil_36 (ck_nc G) (ck_nb G) post σ x1 x2 s0) (hw : ck_H G s H locs σ) (hl : lv_has ls 3 [(0, .ref (ck_ad G 10 0)), (1, .int x1), (2, .int x2)]) : W p l e ({ frames := 0, cells := 0, slots := 0, locals := 0 } : Room) s m args below meth c H locs 0 0 (MQ below (va_Qv post (ck_Q G) (ck_A G s.heap.size)) args s 0 0 (ck_A G s.heap.size)) (F0 m 36 ls [.int s0, .ref (ck_ad G 10 0)]) := by
  obtain ⟨hx, hb, hr, hml, hown, hts, hlocks⟩ := id X
  have inX7 : ∀ w ∈ wsX70, w ∈ wsX7_spoil := fun _ h => List.mem_cons_of_mem _ (List.mem_append_right _ (h))
  unfold sp_X7_spoil_36 at h
  refine ck_puti hx hb hts inX7 tyX7 tyX7_ok nmX7 hown hw (hM 10 (by decide) (by decide)) rfl rfl 0 (by decide) (hts _ (List.mem_of_getElem? (i := 2) rfl)) rfl rfl rfl (Nat.le_of_ble_eq_true rfl) rfl dX7_spoil_36 (fun H locs hw => ?_)
  obtain ⟨σ1, eσ1⟩ : ∃ z : ck_S, z = ck_ui σ 10 0 0 s0 := ⟨_, rfl⟩
  rw [← eσ1] at hw
  have h := h σ1 eσ1
  refine lv_aload_n hx hb dX7_spoil_39 rfl (lv_at hl 0 rfl) ?_
  refine ck_get hx hb hts inX7 hown hw (hM 10 (by decide) (by decide)) rfl rfl 0 (by decide) (hts _ (List.mem_of_getElem? (i := 2) rfl)) rfl dX7_spoil_40 ?_
  obtain ⟨hA, hB⟩ := h
  refine lv_if_ne (tgt := 60) hx hb dX7_spoil_43 (by decide) (fun c2 => ?_) (fun c2 => ?_)
  · have h := hA c2
    exact ck_vret X hw h dX7_spoil_60
  · have h := hB c2
    refine lv_aload_n hx hb dX7_spoil_46 rfl (lv_at hl 0 rfl) ?_
    refine ck_get hx hb hts inX7 hown hw (hM 10 (by decide) (by decide)) rfl rfl 6 (by decide) (hts _ (List.mem_of_getElem? (i := 3) rfl)) rfl dX7_spoil_47 ?_
    refine lv_iload_n hx hb dX7_spoil_50 rfl (lv_at hl 1 rfl) ?_
    refine lv_aload_n hx hb dX7_spoil_51 rfl (lv_at hl 0 rfl) ?_
    refine ck_get hx hb hts inX7 hown hw (hM 10 (by decide) (by decide)) rfl rfl 6 (by decide) (hts _ (List.mem_of_getElem? (i := 3) rfl)) rfl dX7_spoil_52 ?_
    refine lv_iload_n hx hb dX7_spoil_55 rfl (lv_at hl 1 rfl) ?_
    obtain ⟨n3, h⟩ := h
    refine ck_iald hx hb hw (hM 11 (by decide) (by decide)) rfl n3 dX7_spoil_56 ?_
    refine lv_iload_n hx hb dX7_spoil_57 rfl (lv_at hl 2 rfl) ?_
    refine lv_ixor hx hb dX7_spoil_58 ?_
    obtain ⟨n4, h⟩ := h
    refine ck_iast hx hb hw (hM 11 (by decide) (by decide)) (fun _ => rfl) n4 dX7_spoil_59 (fun H locs hw => ?_)
    obtain ⟨σ5, eσ5⟩ : ∃ z : ck_S, z = ck_ui σ1 11 0 (Int32.toNatClampNeg x1) ((ck_gi σ1 11 0 (Int32.toNatClampNeg x1)) ^^^ x2) := ⟨_, rfl⟩
    rw [← eσ5] at hw
    have h := h σ5 eσ5
    exact ck_vret X hw h dX7_spoil_60
set_option maxHeartbeats 4000000 in
set_option maxRecDepth 100000 in
theorem wk_X7_spoil_16 {p : Program} {l : Launch} {e : Env} {s : State} {m : MethodId} {args : Array Value} {below : List Frame} {meth : Method} {c : Code} {G : ck_G} (X : ck_X p s m meth c args cX7_spoil 3 none RX7 wsX7_spoil) (hM : ck_inM G) {post : ck_S → Prop} {σ : ck_S} {x1 : Int32} {x2 : Int32} {H : Heap} {locs : List Loc} {ls : Array Slot} (h : sp_X7_spoil_16 (ck_nc G) (ck_nb G) post σ x1 x2) (hw : ck_H G s H locs σ) (hl : lv_has ls 3 [(0, .ref (ck_ad G 10 0)), (1, .int x1), (2, .int x2)]) : W p l e ({ frames := 0, cells := 0, slots := 0, locals := 0 } : Room) s m args below meth c H locs 0 0 (MQ below (va_Qv post (ck_Q G) (ck_A G s.heap.size)) args s 0 0 (ck_A G s.heap.size)) (F0 m 16 ls [.ref (ck_ad G 10 0)]) := by
  obtain ⟨hx, hb, hr, hml, hown, hts, hlocks⟩ := id X
  have inX7 : ∀ w ∈ wsX70, w ∈ wsX7_spoil := fun _ h => List.mem_cons_of_mem _ (List.mem_append_right _ (h))
  unfold sp_X7_spoil_16 at h
  refine lv_iconst (v := 1) hx hb dX7_spoil_16 (by decide) ?_
  refine lv_goto (tgt := 36) hx hb dX7_spoil_17 (by decide) ?_
  exact wk_X7_spoil_36 X hM h hw (lv_sub hl [0, 1, 2] rfl)
set_option maxHeartbeats 4000000 in
set_option maxRecDepth 100000 in
theorem wk_X7_spoil_31 {p : Program} {l : Launch} {e : Env} {s : State} {m : MethodId} {args : Array Value} {below : List Frame} {meth : Method} {c : Code} {G : ck_G} (X : ck_X p s m meth c args cX7_spoil 3 none RX7 wsX7_spoil) (hM : ck_inM G) {post : ck_S → Prop} {σ : ck_S} {x1 : Int32} {x2 : Int32} {H : Heap} {locs : List Loc} {ls : Array Slot} (h : sp_X7_spoil_31 (ck_nc G) (ck_nb G) post σ x1 x2) (hw : ck_H G s H locs σ) (hl : lv_has ls 3 [(0, .ref (ck_ad G 10 0)), (1, .int x1), (2, .int x2)]) : W p l e ({ frames := 0, cells := 0, slots := 0, locals := 0 } : Room) s m args below meth c H locs 0 0 (MQ below (va_Qv post (ck_Q G) (ck_A G s.heap.size)) args s 0 0 (ck_A G s.heap.size)) (F0 m 31 ls [.ref (ck_ad G 10 0)]) := by
  obtain ⟨hx, hb, hr, hml, hown, hts, hlocks⟩ := id X
  have inX7 : ∀ w ∈ wsX70, w ∈ wsX7_spoil := fun _ h => List.mem_cons_of_mem _ (List.mem_append_right _ (h))
  unfold sp_X7_spoil_31 at h
  refine lv_iconst (v := 2) hx hb dX7_spoil_31 (by decide) ?_
  refine lv_goto (tgt := 36) hx hb dX7_spoil_32 (by decide) ?_
  exact wk_X7_spoil_36 X hM h hw (lv_sub hl [0, 1, 2] rfl)
set_option maxHeartbeats 4000000 in
set_option maxRecDepth 100000 in
theorem wk_X7_spoil_0 {p : Program} {l : Launch} {e : Env} {s : State} {m : MethodId} {args : Array Value} {below : List Frame} {meth : Method} {c : Code} {G : ck_G} (X : ck_X p s m meth c args cX7_spoil 3 none RX7 wsX7_spoil) (hM : ck_inM G) {post : ck_S → Prop} {σ : ck_S} {a0 : Int32} {a1 : Int32} {H : Heap} {locs : List Loc} {ls : Array Slot} (h : sp_X7_spoil (ck_nc G) (ck_nb G) σ a0 a1 post) (hw : ck_H G s H locs σ) (hl : lv_has ls 3 [(0, .ref (ck_ad G 10 0)), (1, .int a0), (2, .int a1)]) : W p l e ({ frames := 0, cells := 0, slots := 0, locals := 0 } : Room) s m args below meth c H locs 0 0 (MQ below (va_Qv post (ck_Q G) (ck_A G s.heap.size)) args s 0 0 (ck_A G s.heap.size)) (F0 m 0 ls []) := by
  obtain ⟨hx, hb, hr, hml, hown, hts, hlocks⟩ := id X
  have inX7 : ∀ w ∈ wsX70, w ∈ wsX7_spoil := fun _ h => List.mem_cons_of_mem _ (List.mem_append_right _ (h))
  unfold sp_X7_spoil at h
  refine lv_aload_n hx hb dX7_spoil_0 rfl (lv_at hl 0 rfl) ?_
  refine lv_iload_n hx hb dX7_spoil_1 rfl (lv_at hl 1 rfl) ?_
  obtain ⟨hA, hB⟩ := h
  refine lv_if_lt (tgt := 16) hx hb dX7_spoil_2 (by decide) (fun c1 => ?_) (fun c1 => ?_)
  · have h := hA c1
    exact wk_X7_spoil_16 X hM h hw (lv_sub hl [0, 1, 2] rfl)
  · have h := hB c1
    refine lv_iload_n hx hb dX7_spoil_5 rfl (lv_at hl 1 rfl) ?_
    refine lv_bipush (v := 32) hx hb dX7_spoil_6 (by decide) ?_
    refine lv_aload_n hx hb dX7_spoil_8 rfl (lv_at hl 0 rfl) ?_
    refine ck_get hx hb hts inX7 hown hw (hM 10 (by decide) (by decide)) rfl rfl 2 (by decide) (hts _ (List.mem_of_getElem? (i := 1) rfl)) rfl dX7_spoil_9 ?_
    refine lv_imul hx hb dX7_spoil_12 ?_
    obtain ⟨hA, hB⟩ := h
    refine lv_icmp_lt (tgt := 20) hx hb dX7_spoil_13 (by decide) (fun c2 => ?_) (fun c2 => ?_)
    · have h := hA c2
      refine lv_iload_n hx hb dX7_spoil_20 rfl (lv_at hl 2 rfl) ?_
      obtain ⟨hA, hB⟩ := h
      refine lv_if_lt (tgt := 31) hx hb dX7_spoil_21 (by decide) (fun c3 => ?_) (fun c3 => ?_)
      · have h := hA c3
        exact wk_X7_spoil_31 X hM h hw (lv_sub hl [0, 1, 2] rfl)
      · have h := hB c3
        refine lv_iload_n hx hb dX7_spoil_24 rfl (lv_at hl 2 rfl) ?_
        refine lv_sipush (v := 255) hx hb dX7_spoil_25 (by decide) ?_
        obtain ⟨hA, hB⟩ := h
        refine lv_icmp_le (tgt := 35) hx hb dX7_spoil_28 (by decide) (fun c4 => ?_) (fun c4 => ?_)
        · have h := hA c4
          refine lv_iconst (v := 0) hx hb dX7_spoil_35 (by decide) ?_
          exact wk_X7_spoil_36 X hM h hw (lv_sub hl [0, 1, 2] rfl)
        · have h := hB c4
          exact wk_X7_spoil_31 X hM h hw (lv_sub hl [0, 1, 2] rfl)
    · have h := hB c2
      exact wk_X7_spoil_16 X hM h hw (lv_sub hl [0, 1, 2] rfl)
set_option maxHeartbeats 4000000 in
set_option maxRecDepth 100000 in
theorem ct_X7_spoil (l : Launch) (G : ck_G) (hM : ck_inM G) {a0 : Int32} {a1 : Int32} {σ : ck_S} {post : ck_S → Prop} (h : sp_X7_spoil (ck_nc G) (ck_nb G) σ a0 a1 post) : ck_Mv l yX7_spoil wsX7_spoil ({ frames := 0, cells := 0, slots := 0, locals := 0 } : Room) G σ [.ref (ck_ad G 10 0), .int a0, .int a1] post := by
  intro sz
  refine Met.ofW (cc := cX7_spoil) (maxL := 3) (ret := none) (by decide) rfl ?_
  intro p e s m args below meth c s₁ B hml hv
  obtain ⟨rfl, rfl, hw⟩ := ck_enter hv
  have hl := lv_entry ([.ref (ck_ad G 10 0), .int a0, .int a1]) (n := 3) (Nat.le_of_ble_eq_true rfl)
  rw [lg_entry_eq]
  generalize (lg_sl ([.ref (ck_ad G 10 0), .int a0, .int a1]) ++ List.replicate (3 - (lg_sl ([.ref (ck_ad G 10 0), .int a0, .int a1])).length) Slot.unset).toArray = ls at hl ⊢
  have hl : lv_has ls 3 [(0, .ref (ck_ad G 10 0)), (1, .int a0), (2, .int a1)] := hl
  exact wk_X7_spoil_0 ⟨B.exec, B.bytes, B.returns, hml, findClass_of_methodNamed B.named, atoms_spec (ws := wsX7_spoil) B.pre, B.notSynchronized⟩ hM h hw hl
