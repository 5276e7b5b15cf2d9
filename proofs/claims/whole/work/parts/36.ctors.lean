set_option maxHeartbeats 4000000 in
set_option maxRecDepth 100000 in
theorem ci_X3_init (l : Launch) (G : ck_G) (h0 sz : Nat) : Met l yX3_init wsX3_init ({ frames := 1, cells := 3, slots := 20, locals := 12 } : Room) (va_Pc [.ref h0] (fun U => U.heap.size = sz ∧ va_P (ck_D G) vwCl [(h0, .inr (2, [.null, .null, .null, .int 0, .int 0, .int 0, .double 0, .int 0]))] U.heap ∧ va_K (ck_D G) vwCl (ck_ty G) U ∧ va_D (fun _ => True) [(h0, .inr (2, [.null, .null, .null, .int 0, .int 0, .int 0, .double 0, .int 0]))])) (va_Qv (fun _ : Nat × Nat × Nat => True) (fun u t => match u with | (q1, q2, q3) => va_P (ck_D G) vwCl [(h0, .inr (2, [.ref q1, .ref q2, .ref q3, .int 0, .int 0, .int 0, .double 0, .int 0])), (q1, .inl (ck_cI G, 6, .inl (fun _ => 0))), (q2, .inl (ck_cI G, 6, .inl (fun _ => 0))), (q3, .inl (ck_cD G, 8, .inr (.inr (.inr (.inl (fun _ => 0))))))] t.heap ∧ va_K (ck_D G) vwCl (ck_ty G) t ∧ va_D (va_A [(h0, .inr (2, [.null, .null, .null, .int 0, .int 0, .int 0, .double 0, .int 0]))] sz) [(h0, .inr (2, [.ref q1, .ref q2, .ref q3, .int 0, .int 0, .int 0, .double 0, .int 0])), (q1, .inl (ck_cI G, 6, .inl (fun _ => 0))), (q2, .inl (ck_cI G, 6, .inl (fun _ => 0))), (q3, .inl (ck_cD G, 8, .inr (.inr (.inr (.inl (fun _ => 0))))))]) (va_A [(h0, .inr (2, [.null, .null, .null, .int 0, .int 0, .int 0, .double 0, .int 0]))] sz)) 3 (20) (va_A [(h0, .inr (2, [.null, .null, .null, .int 0, .int 0, .int 0, .double 0, .int 0]))] sz) := by
  refine Met.ofW (cc := cX3_init) (maxL := 1) (ret := none) (by decide) rfl ?_
  intro p e s m args below meth c s₁ B hml hv
  obtain ⟨rfl, hsz, hP, hK, hD0⟩ := hv
  have hx := B.exec
  have hb := B.bytes
  have hr := B.returns
  have hts := atoms_spec (ws := wsX3_init) B.pre
  have hown : s.vm.findClass RX3 = some m.cls := findClass_of_methodNamed B.named
  have hlocks := B.notSynchronized
  have hin : meth.name = "<init>" := (name_of_methodNamed B.named B.method).1
  subst hsz
  have hD := hD0.self (sz := s.heap.size)
  generalize hAe : va_A [(h0, .inr (2, [.null, .null, .null, .int 0, .int 0, .int 0, .double 0, .int 0]))] s.heap.size = A at hD ⊢
  have hA : ∀ q : Nat, s.heap.size ≤ q → A q := fun q h => by rw [← hAe]; exact Or.inr h
  have hS : va_S A s.heap s.heap [] := va_S.rf
  have hl := lv_entry ([.ref h0]) (n := 1) (Nat.le_of_ble_eq_true rfl)
  rw [lg_entry_eq]
  generalize (lg_sl ([.ref h0]) ++ List.replicate (1 - (lg_sl ([.ref h0])).length) Slot.unset).toArray = ls at hl ⊢
  have hl : lv_has ls 1 [(0, .ref h0)] := hl
  have inX3 : ∀ w ∈ wsX30, w ∈ wsX3_init := fun _ h => List.mem_cons_of_mem _ (List.mem_append_right _ (h))
  refine lv_aload_n hx hb dX3_init_0 rfl (lv_at hl 0 rfl) ?_
  refine W.objInit hx hb hown (hts _ (List.mem_of_getElem? (i := 1) rfl)) (hts _ (List.mem_of_getElem? (i := 2) rfl)) (hts _ (List.mem_of_getElem? (i := 3) rfl)) rfl (by rw [hml]; exact hl.1) rfl dX3_init_1 (Nat.le_of_ble_eq_true rfl) (Nat.le_of_ble_eq_true rfl) ?_
  refine W.eq (g2 := F0 m 4 ls []) rfl ?_
  refine lv_aload_n hx hb dX3_init_4 rfl (lv_at hl 0 rfl) ?_
  refine lv_bipush (v := 6) hx hb dX3_init_5 (by decide) ?_
  refine ck_newaG (G := G) (atype := .int) (ty := .int) (a0 := (6, .inl (fun _ => 0))) hx hb (hts _ (List.mem_of_getElem? (i := 4) rfl)) rfl (fun _ h => h) 2 rfl hK hP hD hS hA (fun _ => rfl) (by decide) (by decide) (by decide) (Nat.le_of_ble_eq_true rfl) (Nat.le_of_ble_eq_true rfl) dX3_init_7 (fun q1 H hP hD hS => ?_)
  have hP : va_P (ck_D G) vwCl [(h0, .inr (2, [.null, .null, .null, .int 0, .int 0, .int 0, .double 0, .int 0])), (q1, .inl (ck_cI G, 6, .inl (fun _ => 0)))] H := hP
  have hD : va_D A [(h0, .inr (2, [.null, .null, .null, .int 0, .int 0, .int 0, .double 0, .int 0])), (q1, .inl (ck_cI G, 6, .inl (fun _ => 0)))] := hD
  refine va_putF (v := .ref q1) (ty := tyX3 0) hx hb hts inX3 tyX3 tyX3_ok nmX3 hown hK hP hD hS 0 rfl rfl 0 (by decide) (hts _ (List.mem_of_getElem? (i := 5) rfl)) (fun _ h9 => h9) rfl hin rfl (by decide +kernel) rfl rfl (Nat.le_of_ble_eq_true rfl) dX3_init_9 (fun H locs hP hD hS => ?_)
  have hP : va_P (ck_D G) vwCl [(h0, .inr (2, [.ref q1, .null, .null, .int 0, .int 0, .int 0, .double 0, .int 0])), (q1, .inl (ck_cI G, 6, .inl (fun _ => 0)))] H := hP
  have hD : va_D A [(h0, .inr (2, [.ref q1, .null, .null, .int 0, .int 0, .int 0, .double 0, .int 0])), (q1, .inl (ck_cI G, 6, .inl (fun _ => 0)))] := hD
  refine lv_aload_n hx hb dX3_init_12 rfl (lv_at hl 0 rfl) ?_
  refine lv_bipush (v := 6) hx hb dX3_init_13 (by decide) ?_
  refine ck_newaG (G := G) (atype := .int) (ty := .int) (a0 := (6, .inl (fun _ => 0))) hx hb (hts _ (List.mem_of_getElem? (i := 4) rfl)) rfl (fun _ h => h) 2 rfl hK hP hD hS hA (fun _ => rfl) (by decide) (by decide) (by decide) (Nat.le_of_ble_eq_true rfl) (Nat.le_of_ble_eq_true rfl) dX3_init_15 (fun q2 H hP hD hS => ?_)
  have hP : va_P (ck_D G) vwCl [(h0, .inr (2, [.ref q1, .null, .null, .int 0, .int 0, .int 0, .double 0, .int 0])), (q1, .inl (ck_cI G, 6, .inl (fun _ => 0))), (q2, .inl (ck_cI G, 6, .inl (fun _ => 0)))] H := hP
  have hD : va_D A [(h0, .inr (2, [.ref q1, .null, .null, .int 0, .int 0, .int 0, .double 0, .int 0])), (q1, .inl (ck_cI G, 6, .inl (fun _ => 0))), (q2, .inl (ck_cI G, 6, .inl (fun _ => 0)))] := hD
  refine va_putF (v := .ref q2) (ty := tyX3 1) hx hb hts inX3 tyX3 tyX3_ok nmX3 hown hK hP hD hS 0 rfl rfl 1 (by decide) (hts _ (List.mem_of_getElem? (i := 6) rfl)) (fun _ h9 => h9) rfl hin rfl (by decide +kernel) rfl rfl (Nat.le_of_ble_eq_true rfl) dX3_init_17 (fun H locs hP hD hS => ?_)
  have hP : va_P (ck_D G) vwCl [(h0, .inr (2, [.ref q1, .ref q2, .null, .int 0, .int 0, .int 0, .double 0, .int 0])), (q1, .inl (ck_cI G, 6, .inl (fun _ => 0))), (q2, .inl (ck_cI G, 6, .inl (fun _ => 0)))] H := hP
  have hD : va_D A [(h0, .inr (2, [.ref q1, .ref q2, .null, .int 0, .int 0, .int 0, .double 0, .int 0])), (q1, .inl (ck_cI G, 6, .inl (fun _ => 0))), (q2, .inl (ck_cI G, 6, .inl (fun _ => 0)))] := hD
  refine lv_aload_n hx hb dX3_init_20 rfl (lv_at hl 0 rfl) ?_
  refine lv_bipush (v := 8) hx hb dX3_init_21 (by decide) ?_
  refine ck_newaG (G := G) (atype := .double) (ty := .double) (a0 := (8, .inr (.inr (.inr (.inl (fun _ => 0)))))) hx hb (hts _ (List.mem_of_getElem? (i := 7) rfl)) rfl (fun _ h => h) 1 rfl hK hP hD hS hA (fun _ => rfl) (by decide) (by decide) (by decide) (Nat.le_of_ble_eq_true rfl) (Nat.le_of_ble_eq_true rfl) dX3_init_23 (fun q3 H hP hD hS => ?_)
  have hP : va_P (ck_D G) vwCl [(h0, .inr (2, [.ref q1, .ref q2, .null, .int 0, .int 0, .int 0, .double 0, .int 0])), (q1, .inl (ck_cI G, 6, .inl (fun _ => 0))), (q2, .inl (ck_cI G, 6, .inl (fun _ => 0))), (q3, .inl (ck_cD G, 8, .inr (.inr (.inr (.inl (fun _ => 0))))))] H := hP
  have hD : va_D A [(h0, .inr (2, [.ref q1, .ref q2, .null, .int 0, .int 0, .int 0, .double 0, .int 0])), (q1, .inl (ck_cI G, 6, .inl (fun _ => 0))), (q2, .inl (ck_cI G, 6, .inl (fun _ => 0))), (q3, .inl (ck_cD G, 8, .inr (.inr (.inr (.inl (fun _ => 0))))))] := hD
  refine va_putF (v := .ref q3) (ty := tyX3 2) hx hb hts inX3 tyX3 tyX3_ok nmX3 hown hK hP hD hS 0 rfl rfl 2 (by decide) (hts _ (List.mem_of_getElem? (i := 8) rfl)) (fun _ h9 => h9) rfl hin rfl (by decide +kernel) rfl rfl (Nat.le_of_ble_eq_true rfl) dX3_init_25 (fun H locs hP hD hS => ?_)
  have hP : va_P (ck_D G) vwCl [(h0, .inr (2, [.ref q1, .ref q2, .ref q3, .int 0, .int 0, .int 0, .double 0, .int 0])), (q1, .inl (ck_cI G, 6, .inl (fun _ => 0))), (q2, .inl (ck_cI G, 6, .inl (fun _ => 0))), (q3, .inl (ck_cD G, 8, .inr (.inr (.inr (.inl (fun _ => 0))))))] H := hP
  have hD : va_D A [(h0, .inr (2, [.ref q1, .ref q2, .ref q3, .int 0, .int 0, .int 0, .double 0, .int 0])), (q1, .inl (ck_cI G, 6, .inl (fun _ => 0))), (q2, .inl (ck_cI G, 6, .inl (fun _ => 0))), (q3, .inl (ck_cD G, 8, .inr (.inr (.inr (.inl (fun _ => 0))))))] := hD
  exact W.vret hx hb hr (fun t ht hW => ⟨⟨(q1, q2, q3), rfl, trivial, by rw [ht]; exact hP, va_K.moved hW.alike hK, hD⟩, hS.F ht⟩) hS.2.2 dX3_init_28
set_option maxHeartbeats 4000000 in
set_option maxRecDepth 100000 in
theorem ci_X4_init (l : Launch) (G : ck_G) (h0 sz : Nat) : Met l yX4_init wsX4_init ({ frames := 1, cells := 0, slots := 0, locals := 12 } : Room) (va_Pc [.ref h0] (fun U => U.heap.size = sz ∧ va_P (ck_D G) vwCl [(h0, .inr (3, [.int 0, .int 0]))] U.heap ∧ va_K (ck_D G) vwCl (ck_ty G) U ∧ va_D (fun _ => True) [(h0, .inr (3, [.int 0, .int 0]))])) (va_Qv (fun _ : Unit => True) (fun u t => match u with | _ => va_P (ck_D G) vwCl [(h0, .inr (3, [.int 0, .int 0]))] t.heap ∧ va_K (ck_D G) vwCl (ck_ty G) t ∧ va_D (va_A [(h0, .inr (3, [.int 0, .int 0]))] sz) [(h0, .inr (3, [.int 0, .int 0]))]) (va_A [(h0, .inr (3, [.int 0, .int 0]))] sz)) 0 (0) (va_A [(h0, .inr (3, [.int 0, .int 0]))] sz) := by
  refine Met.ofW (cc := cX4_init) (maxL := 1) (ret := none) (by decide) rfl ?_
  intro p e s m args below meth c s₁ B hml hv
  obtain ⟨rfl, hsz, hP, hK, hD0⟩ := hv
  have hx := B.exec
  have hb := B.bytes
  have hr := B.returns
  have hts := atoms_spec (ws := wsX4_init) B.pre
  have hown : s.vm.findClass RX4 = some m.cls := findClass_of_methodNamed B.named
  have hlocks := B.notSynchronized
  have hin : meth.name = "<init>" := (name_of_methodNamed B.named B.method).1
  subst hsz
  have hD := hD0.self (sz := s.heap.size)
  generalize hAe : va_A [(h0, .inr (3, [.int 0, .int 0]))] s.heap.size = A at hD ⊢
  have hA : ∀ q : Nat, s.heap.size ≤ q → A q := fun q h => by rw [← hAe]; exact Or.inr h
  have hS : va_S A s.heap s.heap [] := va_S.rf
  have hl := lv_entry ([.ref h0]) (n := 1) (Nat.le_of_ble_eq_true rfl)
  rw [lg_entry_eq]
  generalize (lg_sl ([.ref h0]) ++ List.replicate (1 - (lg_sl ([.ref h0])).length) Slot.unset).toArray = ls at hl ⊢
  have hl : lv_has ls 1 [(0, .ref h0)] := hl
  refine lv_aload_n hx hb dX4_init_0 rfl (lv_at hl 0 rfl) ?_
  refine W.objInit hx hb hown (hts _ (List.mem_of_getElem? (i := 1) rfl)) (hts _ (List.mem_of_getElem? (i := 2) rfl)) (hts _ (List.mem_of_getElem? (i := 3) rfl)) rfl (by rw [hml]; exact hl.1) rfl dX4_init_1 (Nat.le_of_ble_eq_true rfl) (Nat.le_of_ble_eq_true rfl) ?_
  refine W.eq (g2 := F0 m 4 ls []) rfl ?_
  exact W.vret hx hb hr (fun t ht hW => ⟨⟨(), rfl, trivial, by rw [ht]; exact hP, va_K.moved hW.alike hK, hD⟩, hS.F ht⟩) hS.2.2 dX4_init_4
set_option maxHeartbeats 4000000 in
set_option maxRecDepth 100000 in
theorem ci_X5_init (l : Launch) (G : ck_G) (h0 sz : Nat) : Met l yX5_init wsX5_init ({ frames := 1, cells := 0, slots := 0, locals := 12 } : Room) (va_Pc [.ref h0] (fun U => U.heap.size = sz ∧ va_P (ck_D G) vwCl [(h0, .inr (4, [.int 0, .int 0, .int 0, .int 0, .int 0, .double 0, .double 0]))] U.heap ∧ va_K (ck_D G) vwCl (ck_ty G) U ∧ va_D (fun _ => True) [(h0, .inr (4, [.int 0, .int 0, .int 0, .int 0, .int 0, .double 0, .double 0]))])) (va_Qv (fun _ : Unit => True) (fun u t => match u with | _ => va_P (ck_D G) vwCl [(h0, .inr (4, [.int 0, .int 0, .int 0, .int 0, .int 0, .double 0, .double 0]))] t.heap ∧ va_K (ck_D G) vwCl (ck_ty G) t ∧ va_D (va_A [(h0, .inr (4, [.int 0, .int 0, .int 0, .int 0, .int 0, .double 0, .double 0]))] sz) [(h0, .inr (4, [.int 0, .int 0, .int 0, .int 0, .int 0, .double 0, .double 0]))]) (va_A [(h0, .inr (4, [.int 0, .int 0, .int 0, .int 0, .int 0, .double 0, .double 0]))] sz)) 0 (0) (va_A [(h0, .inr (4, [.int 0, .int 0, .int 0, .int 0, .int 0, .double 0, .double 0]))] sz) := by
  refine Met.ofW (cc := cX5_init) (maxL := 1) (ret := none) (by decide) rfl ?_
  intro p e s m args below meth c s₁ B hml hv
  obtain ⟨rfl, hsz, hP, hK, hD0⟩ := hv
  have hx := B.exec
  have hb := B.bytes
  have hr := B.returns
  have hts := atoms_spec (ws := wsX5_init) B.pre
  have hown : s.vm.findClass RX5 = some m.cls := findClass_of_methodNamed B.named
  have hlocks := B.notSynchronized
  have hin : meth.name = "<init>" := (name_of_methodNamed B.named B.method).1
  subst hsz
  have hD := hD0.self (sz := s.heap.size)
  generalize hAe : va_A [(h0, .inr (4, [.int 0, .int 0, .int 0, .int 0, .int 0, .double 0, .double 0]))] s.heap.size = A at hD ⊢
  have hA : ∀ q : Nat, s.heap.size ≤ q → A q := fun q h => by rw [← hAe]; exact Or.inr h
  have hS : va_S A s.heap s.heap [] := va_S.rf
  have hl := lv_entry ([.ref h0]) (n := 1) (Nat.le_of_ble_eq_true rfl)
  rw [lg_entry_eq]
  generalize (lg_sl ([.ref h0]) ++ List.replicate (1 - (lg_sl ([.ref h0])).length) Slot.unset).toArray = ls at hl ⊢
  have hl : lv_has ls 1 [(0, .ref h0)] := hl
  refine lv_aload_n hx hb dX5_init_0 rfl (lv_at hl 0 rfl) ?_
  refine W.objInit hx hb hown (hts _ (List.mem_of_getElem? (i := 1) rfl)) (hts _ (List.mem_of_getElem? (i := 2) rfl)) (hts _ (List.mem_of_getElem? (i := 3) rfl)) rfl (by rw [hml]; exact hl.1) rfl dX5_init_1 (Nat.le_of_ble_eq_true rfl) (Nat.le_of_ble_eq_true rfl) ?_
  refine W.eq (g2 := F0 m 4 ls []) rfl ?_
  exact W.vret hx hb hr (fun t ht hW => ⟨⟨(), rfl, trivial, by rw [ht]; exact hP, va_K.moved hW.alike hK, hD⟩, hS.F ht⟩) hS.2.2 dX5_init_4
set_option maxHeartbeats 4000000 in
set_option maxRecDepth 100000 in
theorem ci_X0_init (l : Launch) (G : ck_G) (h0 sz : Nat) (a0 : Int32) : Met l yX0_init wsX0_init ({ frames := 1, cells := 1, slots := 7, locals := 12 } : Room) (va_Pc [.ref h0, .int a0] (fun U => U.heap.size = sz ∧ va_P (ck_D G) vwCl [(h0, .inr (0, [.int 0, .null, .int 0, .int 0]))] U.heap ∧ va_K (ck_D G) vwCl (ck_ty G) U ∧ va_D (fun _ => True) [(h0, .inr (0, [.int 0, .null, .int 0, .int 0]))])) (va_Qv (fun _ : Nat => True) (fun u t => match u with | q1 => va_P (ck_D G) vwCl [(h0, .inr (0, [.int a0, .ref q1, .int 0, .int 0])), (q1, .inl (ck_cI G, 7, .inl (fun _ => 0)))] t.heap ∧ va_K (ck_D G) vwCl (ck_ty G) t ∧ va_D (va_A [(h0, .inr (0, [.int 0, .null, .int 0, .int 0]))] sz) [(h0, .inr (0, [.int a0, .ref q1, .int 0, .int 0])), (q1, .inl (ck_cI G, 7, .inl (fun _ => 0)))]) (va_A [(h0, .inr (0, [.int 0, .null, .int 0, .int 0]))] sz)) 1 (7) (va_A [(h0, .inr (0, [.int 0, .null, .int 0, .int 0]))] sz) := by
  refine Met.ofW (cc := cX0_init) (maxL := 2) (ret := none) (by decide) rfl ?_
  intro p e s m args below meth c s₁ B hml hv
  obtain ⟨rfl, hsz, hP, hK, hD0⟩ := hv
  have hx := B.exec
  have hb := B.bytes
  have hr := B.returns
  have hts := atoms_spec (ws := wsX0_init) B.pre
  have hown : s.vm.findClass RX0 = some m.cls := findClass_of_methodNamed B.named
  have hlocks := B.notSynchronized
  have hin : meth.name = "<init>" := (name_of_methodNamed B.named B.method).1
  subst hsz
  have hD := hD0.self (sz := s.heap.size)
  generalize hAe : va_A [(h0, .inr (0, [.int 0, .null, .int 0, .int 0]))] s.heap.size = A at hD ⊢
  have hA : ∀ q : Nat, s.heap.size ≤ q → A q := fun q h => by rw [← hAe]; exact Or.inr h
  have hS : va_S A s.heap s.heap [] := va_S.rf
  have hl := lv_entry ([.ref h0, .int a0]) (n := 2) (Nat.le_of_ble_eq_true rfl)
  rw [lg_entry_eq]
  generalize (lg_sl ([.ref h0, .int a0]) ++ List.replicate (2 - (lg_sl ([.ref h0, .int a0])).length) Slot.unset).toArray = ls at hl ⊢
  have hl : lv_has ls 2 [(0, .ref h0), (1, .int a0)] := hl
  have inX0 : ∀ w ∈ wsX00, w ∈ wsX0_init := fun _ h => List.mem_cons_of_mem _ (List.mem_append_right _ (h))
  refine lv_aload_n hx hb dX0_init_0 rfl (lv_at hl 0 rfl) ?_
  refine W.objInit hx hb hown (hts _ (List.mem_of_getElem? (i := 1) rfl)) (hts _ (List.mem_of_getElem? (i := 2) rfl)) (hts _ (List.mem_of_getElem? (i := 3) rfl)) rfl (by rw [hml]; exact hl.1) rfl dX0_init_1 (Nat.le_of_ble_eq_true rfl) (Nat.le_of_ble_eq_true rfl) ?_
  refine W.eq (g2 := F0 m 4 ls []) rfl ?_
  refine lv_aload_n hx hb dX0_init_4 rfl (lv_at hl 0 rfl) ?_
  refine lv_bipush (v := 7) hx hb dX0_init_5 (by decide) ?_
  refine ck_newaG (G := G) (atype := .int) (ty := .int) (a0 := (7, .inl (fun _ => 0))) hx hb (hts _ (List.mem_of_getElem? (i := 4) rfl)) rfl (fun _ h => h) 2 rfl hK hP hD hS hA (fun _ => rfl) (by decide) (by decide) (by decide) (Nat.le_of_ble_eq_true rfl) (Nat.le_of_ble_eq_true rfl) dX0_init_7 (fun q1 H hP hD hS => ?_)
  have hP : va_P (ck_D G) vwCl [(h0, .inr (0, [.int 0, .null, .int 0, .int 0])), (q1, .inl (ck_cI G, 7, .inl (fun _ => 0)))] H := hP
  have hD : va_D A [(h0, .inr (0, [.int 0, .null, .int 0, .int 0])), (q1, .inl (ck_cI G, 7, .inl (fun _ => 0)))] := hD
  refine va_putF (v := .ref q1) (ty := tyX0 1) hx hb hts inX0 tyX0 tyX0_ok nmX0 hown hK hP hD hS 0 rfl rfl 1 (by decide) (hts _ (List.mem_of_getElem? (i := 5) rfl)) (fun _ h9 => h9) rfl hin rfl (by decide +kernel) rfl rfl (Nat.le_of_ble_eq_true rfl) dX0_init_9 (fun H locs hP hD hS => ?_)
  have hP : va_P (ck_D G) vwCl [(h0, .inr (0, [.int 0, .ref q1, .int 0, .int 0])), (q1, .inl (ck_cI G, 7, .inl (fun _ => 0)))] H := hP
  have hD : va_D A [(h0, .inr (0, [.int 0, .ref q1, .int 0, .int 0])), (q1, .inl (ck_cI G, 7, .inl (fun _ => 0)))] := hD
  refine lv_aload_n hx hb dX0_init_12 rfl (lv_at hl 0 rfl) ?_
  refine lv_iload_n hx hb dX0_init_13 rfl (lv_at hl 1 rfl) ?_
  refine va_putF (v := .int a0) (ty := tyX0 0) hx hb hts inX0 tyX0 tyX0_ok nmX0 hown hK hP hD hS 0 rfl rfl 0 (by decide) (hts _ (List.mem_of_getElem? (i := 6) rfl)) (fun _ h9 => h9) rfl hin rfl (by decide +kernel) rfl rfl (Nat.le_of_ble_eq_true rfl) dX0_init_14 (fun H locs hP hD hS => ?_)
  have hP : va_P (ck_D G) vwCl [(h0, .inr (0, [.int a0, .ref q1, .int 0, .int 0])), (q1, .inl (ck_cI G, 7, .inl (fun _ => 0)))] H := hP
  have hD : va_D A [(h0, .inr (0, [.int a0, .ref q1, .int 0, .int 0])), (q1, .inl (ck_cI G, 7, .inl (fun _ => 0)))] := hD
  exact W.vret hx hb hr (fun t ht hW => ⟨⟨q1, rfl, trivial, by rw [ht]; exact hP, va_K.moved hW.alike hK, hD⟩, hS.F ht⟩) hS.2.2 dX0_init_17
set_option maxHeartbeats 4000000 in
set_option maxRecDepth 100000 in
theorem ci_X1_init (l : Launch) (G : ck_G) (h0 sz : Nat) (b : Nat) (hb2 : 2 ≤ b ∧ b ≤ 16) : Met l yX1_init wsX1_init ({ frames := 1, cells := 2, slots := 32 + (32 * b), locals := 12 } : Room) (va_Pc [.ref h0, .int (nI b)] (fun U => U.heap.size = sz ∧ va_P (ck_D G) vwCl [(h0, .inr (1, [.int 0, .null, .null, .int 0, .int 0]))] U.heap ∧ va_K (ck_D G) vwCl (ck_ty G) U ∧ va_D (fun _ => True) [(h0, .inr (1, [.int 0, .null, .null, .int 0, .int 0]))])) (va_Qv (fun _ : Nat × Nat => True) (fun u t => match u with | (q1, q2) => va_P (ck_D G) vwCl [(h0, .inr (1, [.int (nI b), .ref q2, .ref q1, .int 0, .int 0])), (q1, .inl (ck_cB G, 32, .inl (fun _ => 0))), (q2, .inl (ck_cB G, (32 * b), .inl (fun _ => 0)))] t.heap ∧ va_K (ck_D G) vwCl (ck_ty G) t ∧ va_D (va_A [(h0, .inr (1, [.int 0, .null, .null, .int 0, .int 0]))] sz) [(h0, .inr (1, [.int (nI b), .ref q2, .ref q1, .int 0, .int 0])), (q1, .inl (ck_cB G, 32, .inl (fun _ => 0))), (q2, .inl (ck_cB G, (32 * b), .inl (fun _ => 0)))]) (va_A [(h0, .inr (1, [.int 0, .null, .null, .int 0, .int 0]))] sz)) 2 (32 + (32 * b)) (va_A [(h0, .inr (1, [.int 0, .null, .null, .int 0, .int 0]))] sz) := by
  refine Met.ofW (cc := cX1_init) (maxL := 2) (ret := none) (by decide) rfl ?_
  intro p e s m args below meth c s₁ B hml hv
  obtain ⟨rfl, hsz, hP, hK, hD0⟩ := hv
  have hx := B.exec
  have hb := B.bytes
  have hr := B.returns
  have hts := atoms_spec (ws := wsX1_init) B.pre
  have hown : s.vm.findClass RX1 = some m.cls := findClass_of_methodNamed B.named
  have hlocks := B.notSynchronized
  have hin : meth.name = "<init>" := (name_of_methodNamed B.named B.method).1
  subst hsz
  have hD := hD0.self (sz := s.heap.size)
  generalize hAe : va_A [(h0, .inr (1, [.int 0, .null, .null, .int 0, .int 0]))] s.heap.size = A at hD ⊢
  have hA : ∀ q : Nat, s.heap.size ≤ q → A q := fun q h => by rw [← hAe]; exact Or.inr h
  have hS : va_S A s.heap s.heap [] := va_S.rf
  have hl := lv_entry ([.ref h0, .int (nI b)]) (n := 2) (Nat.le_of_ble_eq_true rfl)
  rw [lg_entry_eq]
  generalize (lg_sl ([.ref h0, .int (nI b)]) ++ List.replicate (2 - (lg_sl ([.ref h0, .int (nI b)])).length) Slot.unset).toArray = ls at hl ⊢
  have hl : lv_has ls 2 [(0, .ref h0), (1, .int (nI b))] := hl
  have inX1 : ∀ w ∈ wsX10, w ∈ wsX1_init := fun _ h => List.mem_cons_of_mem _ (List.mem_append_right _ (h))
  have e32 : nI b * 32 = nI (32 * b) := by rw [Nat.mul_comm]; exact pk_mul b 32
  have hn1 : ¬ (nI b * 32) < 0 := by rw [e32]; exact nI_pos (by omega)
  have hN1 : (nI b * 32).toNatClampNeg = 32 * b := by rw [e32]; exact nI_clamp (by omega)
  have hB1 : 32 * b * componentBytes .byte ≤ 536870912 := by show 32 * b * 1 ≤ _; omega
  refine lv_aload_n hx hb dX1_init_0 rfl (lv_at hl 0 rfl) ?_
  refine W.objInit hx hb hown (hts _ (List.mem_of_getElem? (i := 1) rfl)) (hts _ (List.mem_of_getElem? (i := 2) rfl)) (hts _ (List.mem_of_getElem? (i := 3) rfl)) rfl (by rw [hml]; exact hl.1) rfl dX1_init_1 (Nat.le_of_ble_eq_true rfl) (Nat.le_of_ble_eq_true rfl) ?_
  refine W.eq (g2 := F0 m 4 ls []) rfl ?_
  refine lv_aload_n hx hb dX1_init_4 rfl (lv_at hl 0 rfl) ?_
  refine lv_bipush (v := 32) hx hb dX1_init_5 (by decide) ?_
  refine ck_newaG (G := G) (atype := .byte) (ty := .byte) (a0 := (32, .inl (fun _ => 0))) hx hb (hts _ (List.mem_of_getElem? (i := 4) rfl)) rfl (fun _ h => h) 0 rfl hK hP hD hS hA (fun _ => rfl) (by decide) (by decide) (by decide) (Nat.le_of_ble_eq_true rfl) (show 32 ≤ 32 + (32 * b) by omega) dX1_init_7 (fun q1 H hP hD hS => ?_)
  have hP : va_P (ck_D G) vwCl [(h0, .inr (1, [.int 0, .null, .null, .int 0, .int 0])), (q1, .inl (ck_cB G, 32, .inl (fun _ => 0)))] H := hP
  have hD : va_D A [(h0, .inr (1, [.int 0, .null, .null, .int 0, .int 0])), (q1, .inl (ck_cB G, 32, .inl (fun _ => 0)))] := hD
  refine va_putF (v := .ref q1) (ty := tyX1 2) hx hb hts inX1 tyX1 tyX1_ok nmX1 hown hK hP hD hS 0 rfl rfl 2 (by decide) (hts _ (List.mem_of_getElem? (i := 5) rfl)) (fun _ h9 => h9) rfl hin rfl (by decide +kernel) rfl rfl (Nat.le_of_ble_eq_true rfl) dX1_init_9 (fun H locs hP hD hS => ?_)
  have hP : va_P (ck_D G) vwCl [(h0, .inr (1, [.int 0, .null, .ref q1, .int 0, .int 0])), (q1, .inl (ck_cB G, 32, .inl (fun _ => 0)))] H := hP
  have hD : va_D A [(h0, .inr (1, [.int 0, .null, .ref q1, .int 0, .int 0])), (q1, .inl (ck_cB G, 32, .inl (fun _ => 0)))] := hD
  refine lv_aload_n hx hb dX1_init_12 rfl (lv_at hl 0 rfl) ?_
  refine lv_iload_n hx hb dX1_init_13 rfl (lv_at hl 1 rfl) ?_
  refine va_putF (v := .int (nI b)) (ty := tyX1 0) hx hb hts inX1 tyX1 tyX1_ok nmX1 hown hK hP hD hS 0 rfl rfl 0 (by decide) (hts _ (List.mem_of_getElem? (i := 6) rfl)) (fun _ h9 => h9) rfl hin rfl (by decide +kernel) rfl rfl (Nat.le_of_ble_eq_true rfl) dX1_init_14 (fun H locs hP hD hS => ?_)
  have hP : va_P (ck_D G) vwCl [(h0, .inr (1, [.int (nI b), .null, .ref q1, .int 0, .int 0])), (q1, .inl (ck_cB G, 32, .inl (fun _ => 0)))] H := hP
  have hD : va_D A [(h0, .inr (1, [.int (nI b), .null, .ref q1, .int 0, .int 0])), (q1, .inl (ck_cB G, 32, .inl (fun _ => 0)))] := hD
  refine lv_aload_n hx hb dX1_init_17 rfl (lv_at hl 0 rfl) ?_
  refine lv_iload_n hx hb dX1_init_18 rfl (lv_at hl 1 rfl) ?_
  refine lv_bipush (v := 32) hx hb dX1_init_19 (by decide) ?_
  refine lv_imul hx hb dX1_init_21 ?_
  refine ck_newaG (G := G) (atype := .byte) (ty := .byte) (a0 := ((32 * b), .inl (fun _ => 0))) hx hb (hts _ (List.mem_of_getElem? (i := 4) rfl)) rfl (fun _ h => h) 0 rfl hK hP hD hS hA (fun _ => rfl) hn1 hN1 hB1 (Nat.le_of_ble_eq_true rfl) (show 32 + (32 * b) ≤ 32 + (32 * b) by omega) dX1_init_22 (fun q2 H hP hD hS => ?_)
  have hP : va_P (ck_D G) vwCl [(h0, .inr (1, [.int (nI b), .null, .ref q1, .int 0, .int 0])), (q1, .inl (ck_cB G, 32, .inl (fun _ => 0))), (q2, .inl (ck_cB G, (32 * b), .inl (fun _ => 0)))] H := hP
  have hD : va_D A [(h0, .inr (1, [.int (nI b), .null, .ref q1, .int 0, .int 0])), (q1, .inl (ck_cB G, 32, .inl (fun _ => 0))), (q2, .inl (ck_cB G, (32 * b), .inl (fun _ => 0)))] := hD
  refine va_putF (v := .ref q2) (ty := tyX1 1) hx hb hts inX1 tyX1 tyX1_ok nmX1 hown hK hP hD hS 0 rfl rfl 1 (by decide) (hts _ (List.mem_of_getElem? (i := 7) rfl)) (fun _ h9 => h9) rfl hin rfl (by decide +kernel) rfl rfl (Nat.le_of_ble_eq_true rfl) dX1_init_24 (fun H locs hP hD hS => ?_)
  have hP : va_P (ck_D G) vwCl [(h0, .inr (1, [.int (nI b), .ref q2, .ref q1, .int 0, .int 0])), (q1, .inl (ck_cB G, 32, .inl (fun _ => 0))), (q2, .inl (ck_cB G, (32 * b), .inl (fun _ => 0)))] H := hP
  have hD : va_D A [(h0, .inr (1, [.int (nI b), .ref q2, .ref q1, .int 0, .int 0])), (q1, .inl (ck_cB G, 32, .inl (fun _ => 0))), (q2, .inl (ck_cB G, (32 * b), .inl (fun _ => 0)))] := hD
  exact W.vret hx hb hr (fun t ht hW => ⟨⟨(q1, q2), rfl, trivial, by rw [ht]; exact hP, va_K.moved hW.alike hK, hD⟩, hS.F ht⟩) hS.2.2 dX1_init_27
