/-! THE START: words of the tables, by their places. -/
theorem st_lays_u : Cond.laysStatic "java/lang/Throwable" "UNASSIGNED_STACK" "[Ljava/lang/StackTraceElement;" ∈ lw_tbl := tm_2 (List.mem_of_getElem? (i := 126) (by decide +kernel))
theorem st_lays_s : Cond.laysStatic "java/lang/Throwable" "SUPPRESSED_SENTINEL" "Ljava/util/List;" ∈ lw_tbl := tm_2 (List.mem_of_getElem? (i := 128) (by decide +kernel))
theorem st_lays_m : Cond.laysStatic "CellKeeper" "REST_MILLIVOLTS" "[I" ∈ lw_tbl := tm_3 (List.mem_of_getElem? (i := 77) (by decide +kernel))
theorem st_lays_p : Cond.laysStatic "CellKeeper" "REST_PARTS" "[I" ∈ lw_tbl := tm_3 (List.mem_of_getElem? (i := 79) (by decide +kernel))
theorem st_ini_t : Cond.initialized "java/lang/Throwable" ∈ lw_tbl := tm_1 (List.mem_of_getElem? (i := 10) (by decide +kernel))
theorem st_ini_6 : Cond.initialized "CellKeeper" ∈ lw_tbl := tm_1 (List.mem_of_getElem? (i := 1) (by decide +kernel))
theorem st_ini_7 : Cond.initialized "CellKeeperModel" ∈ lw_tbl := tm_1 (List.mem_of_getElem? (i := 8) (by decide +kernel))
theorem st_str_196 : Cond.stringRef "CellKeeper" 196 "the power is off" ∈ lw_tbl := tm_2 (List.mem_of_getElem? (i := 179) (by decide +kernel))
theorem st_str_203 : Cond.stringRef "CellKeeper" 203 "there is no such chip, cell, byte, fault or cause" ∈ lw_tbl := tm_2 (List.mem_of_getElem? (i := 140) (by decide +kernel))
theorem st_str_208 : Cond.stringRef "CellKeeper" 208 "the number is out of its range" ∈ lw_tbl := tm_3 (List.mem_of_getElem? (i := 2) (by decide +kernel))
theorem st_str_213 : Cond.stringRef "CellKeeper" 213 "the amount is out of its range or no multiple of 0.125" ∈ lw_tbl := tm_2 (List.mem_of_getElem? (i := 217) (by decide +kernel))
theorem st_cast_s : Cond.castable "java/lang/IllegalStateException" "java/lang/IllegalStateException" ∈ lw_tbl := tm_2 (List.mem_of_getElem? (i := 172) (by decide +kernel))
theorem st_cast_o : Cond.castable "java/lang/IndexOutOfBoundsException" "java/lang/IndexOutOfBoundsException" ∈ lw_tbl := tm_2 (List.mem_of_getElem? (i := 101) (by decide +kernel))
theorem st_cast_a : Cond.castable "java/lang/IllegalArgumentException" "java/lang/IllegalArgumentException" ∈ lw_tbl := tm_2 (List.mem_of_getElem? (i := 210) (by decide +kernel))
theorem st_decl_r : Cond.declares ⟨"java/lang/RuntimeException", "<init>", "(Ljava/lang/String;)V"⟩ ∈ lw_tbl := tm_2 (List.mem_of_getElem? (i := 103) (by decide +kernel))
theorem st_decl_e : Cond.declares ⟨"java/lang/Exception", "<init>", "(Ljava/lang/String;)V"⟩ ∈ lw_tbl := tm_2 (List.mem_of_getElem? (i := 105) (by decide +kernel))
theorem st_decl_t : Cond.declares ⟨"java/lang/Throwable", "<init>", "(Ljava/lang/String;)V"⟩ ∈ lw_tbl := tm_2 (List.mem_of_getElem? (i := 107) (by decide +kernel))
theorem st_nest_19 : Cond.methodLinkNest "CellKeeper" 19 ⟨"CellKeeper$Chip", "<init>", "()V"⟩ "CellKeeper" ∈ lw_tbl := tm_1 (List.mem_of_getElem? (i := 36) (by decide +kernel))
theorem st_nest_29 : Cond.methodLinkNest "CellKeeper" 29 ⟨"CellKeeper$Survey", "<init>", "()V"⟩ "CellKeeper" ∈ lw_tbl := tm_1 (List.mem_of_getElem? (i := 74) (by decide +kernel))
theorem st_nest_45 : Cond.methodLinkNest "CellKeeper" 45 ⟨"CellKeeper$Contactors", "<init>", "()V"⟩ "CellKeeper" ∈ lw_tbl := tm_1 (List.mem_of_getElem? (i := 132) (by decide +kernel))
theorem st_over : Cond.arrayOver (.object "CellKeeper$Chip") ∈ lw_tbl := tm_1 (List.mem_of_getElem? (i := 34) (by decide +kernel))
theorem st_arr_byte : Cond.arrayClass .byte ∈ lw_tbl := tm_1 (List.mem_of_getElem? (i := 169) (by decide +kernel))
theorem st_arr_double : Cond.arrayClass .double ∈ lw_tbl := tm_1 (List.mem_of_getElem? (i := 71) (by decide +kernel))
theorem st_arr_int : Cond.arrayClass .int ∈ lw_tbl := tm_1 (List.mem_of_getElem? (i := 70) (by decide +kernel))
theorem st_arr_long : Cond.arrayClass .long ∈ lw_tbl := tm_4 (List.mem_of_getElem? (i := 151) (by decide +kernel))
theorem st_inst_0 : Cond.instantiable "CellKeeper$Alarms" 4 ∈ lw_tbl := tm_1 (List.mem_of_getElem? (i := 109) (by decide +kernel))
theorem st_inst_1 : Cond.instantiable "CellKeeper$Blocks" 5 ∈ lw_tbl := tm_1 (List.mem_of_getElem? (i := 145) (by decide +kernel))
theorem st_inst_3 : Cond.instantiable "CellKeeper$Chip" 8 ∈ lw_tbl := tm_1 (List.mem_of_getElem? (i := 35) (by decide +kernel))
theorem st_inst_4 : Cond.instantiable "CellKeeper$Contactors" 2 ∈ lw_tbl := tm_1 (List.mem_of_getElem? (i := 131) (by decide +kernel))
theorem st_inst_5 : Cond.instantiable "CellKeeper$Survey" 7 ∈ lw_tbl := tm_1 (List.mem_of_getElem? (i := 73) (by decide +kernel))
theorem st_inst_6 : Cond.instantiable "CellKeeper" 17 ∈ lw_tbl := tm_1 (List.mem_of_getElem? (i := 17) (by decide +kernel))
theorem st_inst_7 : Cond.instantiable "CellKeeperModel" 32 ∈ lw_tbl := tm_4 (List.mem_of_getElem? (i := 27) (by decide +kernel))
theorem st_cl_8 : Cond.classLink "CellKeeperLaw" 8 "CellKeeper" ∈ lw_tbl := tm_1 (List.mem_of_getElem? (i := 16) (by decide +kernel))
theorem st_cl_96 : Cond.classLink "CellKeeperLaw" 96 "CellKeeperModel" ∈ lw_tbl := tm_4 (List.mem_of_getElem? (i := 26) (by decide +kernel))
theorem st_ml_93 : Cond.methodLink "CellKeeperLaw" 93 ⟨"CellKeeper", "<init>", "(IIIII)V"⟩ ∈ lw_tbl := tm_1 (List.mem_of_getElem? (i := 18) (by decide +kernel))
theorem st_im_6 : Cond.instanceMethod ⟨"CellKeeper", "<init>", "(IIIII)V"⟩ ∈ lw_tbl := tm_1 (List.mem_of_getElem? (i := 19) (by decide +kernel))
theorem st_ml_98 : Cond.methodLink "CellKeeperLaw" 98 ⟨"CellKeeperModel", "<init>", "(IIIII)V"⟩ ∈ lw_tbl := tm_4 (List.mem_of_getElem? (i := 28) (by decide +kernel))
theorem st_im_7 : Cond.instanceMethod ⟨"CellKeeperModel", "<init>", "(IIIII)V"⟩ ∈ lw_tbl := tm_4 (List.mem_of_getElem? (i := 29) (by decide +kernel))
/-! what holds at the law's entry -/
theorem sf_arr {args : Array Value} {s : State} {ty : FieldType} (h : (Cond.arrayClass ty).before args s = true) : ∃ cA, ArrOfT s cA ty ∧ s.vm.findClass ("[" ++ ty.toString) = some cA := by
  obtain ⟨cA, kA, comp, h1, h2, h3⟩ := Cond.arrayClass_spec h
  exact ⟨cA, fun n z => ⟨fun k h => (by cases h), kA, h2, comp, h3⟩, h1⟩
set_option maxRecDepth 100000 in
theorem sf_K {args : Array Value} {s : State} (hts : ∀ w ∈ lw_tbl, w.before args s = true) : ∃ G : ck_G, va_K (ck_D G) vwCl (ck_ty G) s := by
  obtain ⟨c0, i0, k0⟩ := u_known (C := RX0) (T := TX0) (N := 4) hts inX0 (hts _ st_inst_0)
  obtain ⟨c1, i1, k1⟩ := u_known (C := RX1) (T := TX1) (N := 5) hts inX1 (hts _ st_inst_1)
  obtain ⟨c3, i3, k3⟩ := u_known (C := RX3) (T := TX3) (N := 8) hts inX3 (hts _ st_inst_3)
  obtain ⟨c4, i4, k4⟩ := u_known (C := RX4) (T := TX4) (N := 2) hts inX4 (hts _ st_inst_4)
  obtain ⟨c5, i5, k5⟩ := u_known (C := RX5) (T := TX5) (N := 7) hts inX5 (hts _ st_inst_5)
  obtain ⟨c6, i6, k6⟩ := u_known (C := RX6) (T := TX6) (N := 17) hts inX6 (hts _ st_inst_6)
  obtain ⟨c7, i7, k7⟩ := u_known (C := RX7) (T := TX7) (N := 32) hts inX7 (hts _ st_inst_7)
  obtain ⟨cB, b1, b2⟩ := sf_arr (hts _ st_arr_byte)
  obtain ⟨cD, d1, d2⟩ := sf_arr (hts _ st_arr_double)
  obtain ⟨cI, n1, n2⟩ := sf_arr (hts _ st_arr_int)
  obtain ⟨cJ, j1, j2⟩ := sf_arr (hts _ st_arr_long)
  obtain ⟨comp, cO, kO, o1, o2, o3, o4, o5⟩ := Cond.arrayOver_spec (hts _ st_over)
  refine ⟨((fun k => match k with | 0 => c0 | 1 => c1 | 2 => c3 | 3 => c4 | 4 => c5 | 5 => c6 | _ => c7, fun k => match k with | 0 => i0 | 1 => i1 | 2 => i3 | 3 => i4 | 4 => i5 | 5 => i6 | _ => i7), (cB, cD, cI, cJ, cO), (0, 0), (fun _ _ => 0), []), ?_, ?_⟩
  · intro k q hq
    match k, hq with
    | 0, hq => cases hq; exact k0
    | 1, hq => cases hq; exact k1
    | 2, hq => cases hq; exact k3
    | 3, hq => cases hq; exact k4
    | 4, hq => cases hq; exact k5
    | 5, hq => cases hq; exact k6
    | 6, hq => cases hq; exact k7
    | k + 7, hq => simp [vwCl] at hq
  · intro k q hq
    match k, hq with
    | 0, hq => cases hq; exact ⟨b1, b2⟩
    | 1, hq => cases hq; exact ⟨d1, d2⟩
    | 2, hq => cases hq; exact ⟨n1, n2⟩
    | 3, hq => cases hq; exact ⟨j1, j2⟩
    | 4, hq => cases hq; exact ⟨fun n z => ⟨fun k h => (by cases h), kO, o3, comp, o4⟩, kO, comp, o3, o4, o1, o5⟩
    | k + 5, hq => simp [ck_ty] at hq
theorem sf_N {args : Array Value} {s : State} (hts : ∀ w ∈ lw_tbl, w.before args s = true) : ck_N s :=
  ⟨va_AO.of (hts _ st_over), va_Nw.of rfl (hts _ st_nest_19), va_Nw.of rfl (hts _ st_nest_29), va_Nw.of rfl (hts _ st_nest_45)⟩
theorem sf_Za {args : Array Value} {s : State} {A : Nat → Prop} {n : String} {xs : Nat → Int32} (hl : (Cond.laysStatic RX6 n "[I").before args s = true) (hini : (Cond.initialized RX6).before args s = true) (harr : (Cond.arrayOf (.static RX6 n "[I") .int).before args s = true) (hlen : (Cond.eq (.length (.static RX6 n "[I")) (.int 7)).before args s = true) (hel : ∀ j : Nat, j < 7 → (Cond.eq (.elem (.static RX6 n "[I") (.int (Int32.ofNat j))) (.int (xs j))).before args s = true) (hA : ∀ a : Nat, a < s.heap.size → ¬ A a) : ck_Za n xs A s := by
  obtain ⟨t, h1, h2⟩ := va_Tof (N := 7) (f := fun j => .int (xs j)) (by decide) harr (va_eqt hlen) (fun j hj => va_eqt (hel j hj)) hA
  exact ⟨t, va_Zref hl hini h1 hA, h2⟩
theorem sf_str {args : Array Value} {s : State} {k : Nat} {tx : String} {cur : ClassId} (hc : s.vm.findClass RX6 = some cur) (h : (Cond.stringRef RX6 k tx).before args s = true) : ∃ a, vk_R RX6 k tx a s := by
  obtain ⟨_, _, _, a, -, -, -, -, -, hev⟩ := Cond.stringRef_spec hc h
  exact ⟨a, vk_R.of h hev⟩
set_option maxHeartbeats 4000000 in
set_option maxRecDepth 100000 in
theorem sf_E {args : Array Value} {s : State} {A : Nat → Prop} {cur : ClassId} (hc : s.vm.findClass RX6 = some cur) (hts : ∀ w ∈ lw_tbl, w.before args s = true) (hgv : (Jvm.Cond.and given_1 narrow_1).before args s = true) (hA : ∀ a : Nat, a < s.heap.size → ¬ A a) : ck_E A s := by
  have hn := flat_of_before _ hgv
  refine ⟨⟨vx_Zqof (hts _ st_lays_u) (hts _ st_ini_t) (hn _ (by decide +kernel)) hA, vx_Zqof (hts _ st_lays_s) (hts _ st_ini_t) (hn _ (by decide +kernel)) hA⟩,
    ⟨sf_str hc (hts _ st_str_196), sf_str hc (hts _ st_str_203), sf_str hc (hts _ st_str_208), sf_str hc (hts _ st_str_213)⟩,
    ⟨va_Nw.of rfl (hts _ st_cast_s), va_Nw.of rfl (hts _ st_cast_o), va_Nw.of rfl (hts _ st_cast_a), va_Nw.of rfl (hts _ st_decl_r), va_Nw.of rfl (hts _ st_decl_e), va_Nw.of rfl (hts _ st_decl_t)⟩,
    ⟨va_Nc.of (hn _ (by decide +kernel)), va_Nc.of (hn _ (by decide +kernel)), va_Nc.of (hn _ (by decide +kernel))⟩, ?_, ?_⟩
  · refine sf_Za (hts _ st_lays_m) (hts _ st_ini_6) (hn _ (by decide +kernel)) (hn _ (by decide +kernel)) (fun j hj => ?_) hA
    match j, hj with
    | 0, _ => exact hn _ (by decide +kernel)
    | 1, _ => exact hn _ (by decide +kernel)
    | 2, _ => exact hn _ (by decide +kernel)
    | 3, _ => exact hn _ (by decide +kernel)
    | 4, _ => exact hn _ (by decide +kernel)
    | 5, _ => exact hn _ (by decide +kernel)
    | 6, _ => exact hn _ (by decide +kernel)
    | k + 7, h => exact absurd h (by omega)
  · refine sf_Za (hts _ st_lays_p) (hts _ st_ini_6) (hn _ (by decide +kernel)) (hn _ (by decide +kernel)) (fun j hj => ?_) hA
    match j, hj with
    | 0, _ => exact hn _ (by decide +kernel)
    | 1, _ => exact hn _ (by decide +kernel)
    | 2, _ => exact hn _ (by decide +kernel)
    | 3, _ => exact hn _ (by decide +kernel)
    | 4, _ => exact hn _ (by decide +kernel)
    | 5, _ => exact hn _ (by decide +kernel)
    | 6, _ => exact hn _ (by decide +kernel)
    | k + 7, h => exact absurd h (by omega)
