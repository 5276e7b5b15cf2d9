/-! THE LAW, WHOLE. -/
theorem ck_N.same {u U : State} (h : u.vm = U.vm) (q : ck_N u) : ck_N U := ⟨va_AO.moved (by rw [h]; exact Vm.Alike.refl _) q.1, va_Nw.same rfl h q.2.1, va_Nw.same rfl h q.2.2.1, va_Nw.same rfl h q.2.2.2⟩
set_option maxHeartbeats 4000000 in
set_option maxRecDepth 100000 in
/-- behind the class's constructor -/
theorem law_33 {p : Program} {l : Launch} {e : Env} {s : State} {m : MethodId} {below : List Frame} {meth : Method} {c : Code} {b L : Nat} {xs : Nat → Int32} {G : ck_G} {n bb : Nat} {cap : Int} {a1 : Nat → Nat → Nat} {σ1 T2 : ck_S} {H : Heap} {locs : List Loc} {ls : Array Slot} (hL : L ≤ 389) (C0 : lw_At p s m meth c b L xs) (hlt : l.stackTraces = false) (hK : va_K (ck_D G) vwCl (ck_ty G) s) (h21 : σ1.2.1 21 0 = fun _ => 0) (h22 : σ1.2.2 22 0 = fun _ => 0) (hB2 : sp_X7_begin 0 0 (ck_s2 (ck_nearM (lw_cell L xs 0) 1 4) (ck_nearM (lw_cell L xs 1) 2 16) (ck_nearM (lw_cell L xs 3) 1 20) (ck_nearM (lw_cell L xs 4) 1 50) (100 * (ck_nearM (lw_cell L xs 2) 1 4000).toInt64)) (fun σ => σ = T2)) (hR : RC n bb 0 cap σ1 T2)
    (hP : va_P (ck_D G) vwCl (ck_W (ck_1 G n bb a1) σ1) H) (hD : va_D (fun q : Nat => s.heap.size ≤ q) (ck_W (ck_1 G n bb a1) σ1)) (hS : va_S (fun q : Nat => s.heap.size ≤ q) s.heap H locs) (hl : lv_has ls 9 [(1, .ref (a1 0 0)), (0, .ref b)]) : W p l e room_1 s m #[Value.ref b] below meth c H locs 100 1000 (lw_Z below #[Value.ref b] s) (F0 m 33 ls []) := by
  obtain ⟨hx, hb, hr, hml, hown, hts, hX, hbl, hlocks, hgv⟩ := id C0
  have hA : ∀ q : Nat, s.heap.size ≤ q → (fun q : Nat => s.heap.size ≤ q) q := fun _ h => h
  have hbA : ¬ (fun q : Nat => s.heap.size ≤ q) b := Nat.not_le.mpr hbl
  refine va_new (ci := 6) (fs := [.int 0, .int 0, .int 0, .long 0, .int 0, .int 0, .null, .null, .int 0, .int 0, .int 0, .long 0, .long 0, .long 0, .null, .int 0, .int 0, .int 0, .null, .null, .null, .null, .null, .long 0, .long 0, .null, .int 0, .int 0, .int 0, .int 0, .null, .int 0]) hx hb hts inX7 tyX7 tyX7_ok hown (hts _ st_cl_96) (hts _ st_inst_7) (hts _ st_ini_7) hK hP hD hS hA rfl (fun j hj => by
    have hj : j < 32 := hj
    rcases (show j = 0 ∨ j = 1 ∨ j = 2 ∨ j = 3 ∨ j = 4 ∨ j = 5 ∨ j = 6 ∨ j = 7 ∨ j = 8 ∨ j = 9 ∨ j = 10 ∨ j = 11 ∨ j = 12 ∨ j = 13 ∨ j = 14 ∨ j = 15 ∨ j = 16 ∨ j = 17 ∨ j = 18 ∨ j = 19 ∨ j = 20 ∨ j = 21 ∨ j = 22 ∨ j = 23 ∨ j = 24 ∨ j = 25 ∨ j = 26 ∨ j = 27 ∨ j = 28 ∨ j = 29 ∨ j = 30 ∨ j = 31 by omega) with rfl | rfl | rfl | rfl | rfl | rfl | rfl | rfl | rfl | rfl | rfl | rfl | rfl | rfl | rfl | rfl | rfl | rfl | rfl | rfl | rfl | rfl | rfl | rfl | rfl | rfl | rfl | rfl | rfl | rfl | rfl | rfl <;> rfl) (Nat.le_of_ble_eq_true rfl) (Nat.le_of_ble_eq_true rfl) dL_law_33 (fun q H hP hD hS => ?_)
  refine lv_dup hx hb dL_law_36 rfl ?_
  refine lv_aload_n hx hb dL_law_37 rfl (lv_at hl 1 rfl) ?_
  refine lv_iconst (v := 0) hx hb dL_law_38 (by decide) ?_
  refine ck_cell (k := 0) hx hb hml hown hts hX (by omega) hbl hbA hP hS (by decide) hl.1 (Nat.le_of_ble_eq_true rfl) dL_law_39 ⟨Nat.le_of_ble_eq_true rfl, Nat.le_of_ble_eq_true rfl⟩ (fun H locs hP hS => ?_)
  refine lv_aload_n hx hb dL_law_42 rfl (lv_at hl 1 rfl) ?_
  refine lv_iconst (v := 1) hx hb dL_law_43 (by decide) ?_
  refine ck_cell (k := 1) hx hb hml hown hts hX (by omega) hbl hbA hP hS (by decide) hl.1 (Nat.le_of_ble_eq_true rfl) dL_law_44 ⟨Nat.le_of_ble_eq_true rfl, Nat.le_of_ble_eq_true rfl⟩ (fun H locs hP hS => ?_)
  refine lv_aload_n hx hb dL_law_47 rfl (lv_at hl 1 rfl) ?_
  refine lv_iconst (v := 2) hx hb dL_law_48 (by decide) ?_
  refine ck_cell (k := 2) hx hb hml hown hts hX (by omega) hbl hbA hP hS (by decide) hl.1 (Nat.le_of_ble_eq_true rfl) dL_law_49 ⟨Nat.le_of_ble_eq_true rfl, Nat.le_of_ble_eq_true rfl⟩ (fun H locs hP hS => ?_)
  refine lv_aload_n hx hb dL_law_52 rfl (lv_at hl 1 rfl) ?_
  refine lv_iconst (v := 3) hx hb dL_law_53 (by decide) ?_
  refine ck_cell (k := 3) hx hb hml hown hts hX (by omega) hbl hbA hP hS (by decide) hl.1 (Nat.le_of_ble_eq_true rfl) dL_law_54 ⟨Nat.le_of_ble_eq_true rfl, Nat.le_of_ble_eq_true rfl⟩ (fun H locs hP hS => ?_)
  refine lv_aload_n hx hb dL_law_57 rfl (lv_at hl 1 rfl) ?_
  refine lv_iconst (v := 4) hx hb dL_law_58 (by decide) ?_
  refine ck_cell (k := 4) hx hb hml hown hts hX (by omega) hbl hbA hP hS (by decide) hl.1 (Nat.le_of_ble_eq_true rfl) dL_law_59 ⟨Nat.le_of_ble_eq_true rfl, Nat.le_of_ble_eq_true rfl⟩ (fun H locs hP hS => ?_)
  have hFc := ck_oneF hD hS hA
  refine va_callv (va_runI (As := [.int (lw_cell L xs 0), .int (lw_cell L xs 1), .int (lw_cell L xs 2), .int (lw_cell L xs 3), .int (lw_cell L xs 4)]) (rest := [.ref q]) ⟨hx, hb, hml, hown, hts⟩ (ci_X7_init l G q H.size (lw_cell L xs 0) (lw_cell L xs 1) (lw_cell L xs 2) (lw_cell L xs 3) (lw_cell L xs 4) hB2) (cwI 5 hts gT_X7_init rfl rfl rfl (hts _ st_ini_7) (hts _ st_ml_98) (hts _ st_im_7) rfl (by decide +kernel) ⟨Nat.le_of_ble_eq_true rfl, Nat.le_of_ble_eq_true rfl⟩) ⟨fun a U g mk q => ⟨q.1, q.2.1, q.2.2.1, va_K.moved (u := U) (U := U.calling g mk a) (Vm.Alike.refl U.vm) q.2.2.2.1, q.2.2.2.2⟩, fun U hU hW => ⟨rfl, by rw [hU], by rw [hU]; exact ck_one hP, va_K.moved hW.alike hK, ck_oneD hD⟩⟩ rfl rfl hl.1 rfl (lv_room (Nat.le_of_ble_eq_true rfl)) dL_law_62 ⟨Nat.le_of_ble_eq_true rfl, Nat.le_of_ble_eq_true rfl⟩) hS (fun q _ h => hFc q h) hFc (fun u t H1 locs ht hvm hw hB hz1 hk1 hS => ?_)
  obtain ⟨a2, σ2⟩ := u
  obtain ⟨hw1, hw2⟩ := hw
  have hw1 : σ2 = T2 := hw1
  have hw2 : a2 10 0 = q := hw2
  obtain ⟨hP1, hK1, hD1⟩ := hB
  rw [ht] at hP1
  have hP1 : va_P (ck_D G) vwCl (ck_W (ck_2 G a2) σ2) H1 := hP1
  have hD1 : va_D _ (ck_W (ck_2 G a2) σ2) := hD1
  obtain ⟨hPn, hDn⟩ := ck_joinN hP hD hk1 hFc hP1 hD1
  clear hk1 hP1 hD1 hFc
  subst hw1
  subst hw2
  refine lv_astore_n (lv' := [(2, .ref (a2 10 0)), (1, .ref (a1 0 0)), (0, .ref b)]) hx hb dL_law_65 rfl hl (by decide) rfl (fun ls hl => ?_)
  refine lv_iconst (v := 1) hx hb dL_law_66 (by decide) ?_
  refine ck_newaG (G := G) (atype := .long) (ty := .long) (a0 := (1, .inr (.inl (fun _ => 0)))) hx hb (hts _ st_arr_long) rfl (fun _ h => h) 3 rfl hK hPn hDn hS hA (fun _ => rfl) (by decide) (by decide) (by decide) (Nat.le_of_ble_eq_true rfl) (Nat.le_of_ble_eq_true rfl) dL_law_67 (fun q3 H hP hD hS => ?_)
  refine lv_astore_n (lv' := [(3, .ref q3), (2, .ref (a2 10 0)), (1, .ref (a1 0 0)), (0, .ref b)]) hx hb dL_law_69 rfl hl (by decide) rfl (fun ls hl => ?_)
  refine lv_iconst (v := 1) hx hb dL_law_70 (by decide) ?_
  refine ck_newaG (G := G) (atype := .double) (ty := .double) (a0 := (1, .inr (.inr (.inr (.inl (fun _ => 0)))))) hx hb (hts _ st_arr_double) rfl (fun _ h => h) 1 rfl hK hP hD hS hA (fun _ => rfl) (by decide) (by decide) (by decide) (Nat.le_of_ble_eq_true rfl) (Nat.le_of_ble_eq_true rfl) dL_law_71 (fun q4 H hP hD hS => ?_)
  refine lv_astore (lv' := [(4, .ref q4), (3, .ref q3), (2, .ref (a2 10 0)), (1, .ref (a1 0 0)), (0, .ref b)]) hx hb dL_law_73 hl (by decide) rfl (fun ls hl => ?_)
  refine lv_iconst (v := 5) hx hb dL_law_75 (by decide) ?_
  refine lv_istore (lv' := [(5, .int 5), (4, .ref q4), (3, .ref q3), (2, .ref (a2 10 0)), (1, .ref (a1 0 0)), (0, .ref b)]) hx hb dL_law_76 hl (by decide) rfl (fun ls hl => ?_)
  have hP : va_P (ck_D G) vwCl (((ck_W (ck_1 G n bb a1) σ1 ++ ck_W (ck_2 G a2) σ2) ++ [(q3, .inl (ck_cJ G, 1, .inr (.inl (fun _ => 0))))]) ++ [(q4, .inl (ck_cD G, 1, .inr (.inr (.inr (.inl (fun _ => 0))))))]) H := hP
  have hD : va_D (fun q : Nat => s.heap.size ≤ q) (((ck_W (ck_1 G n bb a1) σ1 ++ ck_W (ck_2 G a2) σ2) ++ [(q3, .inl (ck_cJ G, 1, .inr (.inl (fun _ => 0))))]) ++ [(q4, .inl (ck_cD G, 1, .inr (.inr (.inr (.inl (fun _ => 0))))))]) := hD
  rw [ck_W3 h21 h22] at hP hD
  generalize hG : ck_3 G n bb (ck_a3 a1 a2 q3 q4) = G' at hP hD
  generalize hσ : ck_mk σ1 σ2 = σ at hP hD
  have hA' : ∀ q, ck_A G' s.heap.size q → s.heap.size ≤ q := by
    intro q hq
    rcases hq with ⟨z, hz, rfl⟩ | hq
    · obtain ⟨k, -, hk⟩ := ck_pos (G := G') (σ := σ) (f := z.1) (i := z.2) hz
      exact hD.2 k _ hk
    · exact hq
  have hK' : va_K (ck_D G') vwCl (ck_ty G') s := by rw [← hG]; exact hK
  have hP' : va_P (ck_D G') vwCl (ck_W G' σ) H := by
    rw [← hG] at hP ⊢
    exact hP
  have hw : ck_H G' s H locs σ := ⟨hK', hP', ck_self s.heap.size hD, hS.1, fun q h1 h2 => hS.2.1 q h1 (fun h => absurd h (Nat.not_le.mpr h1)), fun q hq => Or.inr (hS.2.2 q hq)⟩
  have hlow : ∀ a : Nat, a < s.heap.size → ¬ ck_A G' s.heap.size a := fun a h1 h2 => absurd (hA' a h2) (Nat.not_le.mpr h1)
  have C : ck_LX p l s m meth c #[Value.ref b] b L xs G' := ⟨hx, hb, hr, hml, hown, hts, hlocks, hlt, sf_E (hK.1 5 _ rfl).2.1 hts hgv hlow, hX, hbl, hlow b hbl⟩
  have i1 : ck_inC G' := by
    rw [← hG]
    have h := ck_LC_in (n := n) (G := ck_1 G n bb a1) rfl rfl
    exact ⟨fun f hf => List.mem_append_left _ (h.1 f hf), fun f i h1 h2 hi => List.mem_append_left _ (h.2 f i h1 h2 hi)⟩
  have i2 : ck_inM G' := by
    rw [← hG]
    exact fun f h1 h2 => List.mem_append_right _ (List.mem_append_left _ (ck_LM_in (G := ck_2 G a2) rfl f h1 h2))
  have i3 : (21, 0) ∈ ck_Ls G' := by
    rw [← hG]
    exact List.mem_append_right _ (List.mem_append_right _ (by simp))
  have i4 : (22, 0) ∈ ck_Ls G' := by
    rw [← hG]
    exact List.mem_append_right _ (List.mem_append_right _ (by simp))
  have i5 : ck_nb G' = 32 * bb := by rw [← hG]
  have i6 : RC (ck_nc G') bb 0 cap σ σ := by
    rw [← hG, ← hσ]
    exact RC_mk hR
  have hl : lv_has ls 9 [(0, .ref b), (1, .ref (ck_ad G' 0 0)), (2, .ref (ck_ad G' 10 0)), (3, .ref (ck_ad G' 21 0)), (4, .ref (ck_ad G' 22 0)), (5, .int 5)] := by
    rw [← hG]
    exact lv_sub hl [5, 4, 3, 2, 1, 0] rfl
  refine W.widen (k := 5000) (n := 5000) (Nat.le_of_ble_eq_true rfl) (Nat.le_of_ble_eq_true rfl) ?_
  exact law_loop C hL i1 i2 i3 i4 i5 hA' 64 0 rfl σ 5 H locs ls i6 (by decide) hw hl
set_option maxHeartbeats 4000000 in
set_option maxRecDepth 100000 in
/-- from the entry, for every script of at most 389 ints, the law comes to its end with true -/
theorem whole_start {p : Program} {e : Env} {s : State} {m : MethodId} {below : List Frame} {meth : Method} {c : Code} (l : Launch) (hlt : l.stackTraces = false) {b L : Nat} {xs : Nat → Int32} (hL : L ≤ 389) (C0 : lw_At p s m meth c b L xs) : W p l e room_1 s m #[Value.ref b] below meth c s.heap [] 0 0 (lw_Z below #[Value.ref b] s) (entryFrame m ([Value.ref b] : List Value).toArray 9) := by
  obtain ⟨hx, hb, hr, hml, hown, hts, hX, hbl, hlocks, hgv⟩ := id C0
  have hA : ∀ q : Nat, s.heap.size ≤ q → (fun q : Nat => s.heap.size ≤ q) q := fun _ h => h
  have hbA : ¬ (fun q : Nat => s.heap.size ≤ q) b := Nat.not_le.mpr hbl
  obtain ⟨G, hK⟩ := sf_K hts
  have hN : ck_N s := sf_N hts
  obtain ⟨n, bb, cap, hn, hb2, en, eb, s1, s2, hR⟩ := in_ex (lw_cell L xs 0) (lw_cell L xs 1) (lw_cell L xs 2) (lw_cell L xs 3) (lw_cell L xs 4)
  have hS : va_S (fun q : Nat => s.heap.size ≤ q) s.heap s.heap [] := va_S.rf
  have hP : va_P (ck_D G) vwCl [] s.heap := fun k q h => by simp at h
  have hD : va_D (fun q : Nat => s.heap.size ≤ q) [] := ⟨fun i j p q h => by simp at h, fun k q h => by simp at h⟩
  have hl := lv_entry ([.ref b]) (n := 9) (Nat.le_of_ble_eq_true rfl)
  rw [lg_entry_eq]
  generalize (lg_sl ([.ref b]) ++ List.replicate (9 - (lg_sl ([.ref b])).length) Slot.unset).toArray = ls at hl ⊢
  have hl : lv_has ls 9 [(0, .ref b)] := hl
  refine va_new (ci := 5) (fs := [.null, .int 0, .int 0, .null, .null, .null, .null, .int 0, .int 0, .double 0, .double 0, .int 0, .double 0, .int 0, .int 0, .double 0, .double 0]) hx hb hts inX6 tyX6 tyX6_ok hown (hts _ st_cl_8) (hts _ st_inst_6) (hts _ st_ini_6) hK hP hD hS hA rfl (fun j hj => by
    have hj : j < 17 := hj
    rcases (show j = 0 ∨ j = 1 ∨ j = 2 ∨ j = 3 ∨ j = 4 ∨ j = 5 ∨ j = 6 ∨ j = 7 ∨ j = 8 ∨ j = 9 ∨ j = 10 ∨ j = 11 ∨ j = 12 ∨ j = 13 ∨ j = 14 ∨ j = 15 ∨ j = 16 by omega) with rfl | rfl | rfl | rfl | rfl | rfl | rfl | rfl | rfl | rfl | rfl | rfl | rfl | rfl | rfl | rfl | rfl <;> rfl) (Nat.le_of_ble_eq_true rfl) (Nat.le_of_ble_eq_true rfl) dL_law_0 (fun q H hP hD hS => ?_)
  refine lv_dup hx hb dL_law_3 rfl ?_
  refine lv_aload_n hx hb dL_law_4 rfl (lv_at hl 0 rfl) ?_
  refine lv_iconst (v := 0) hx hb dL_law_5 (by decide) ?_
  refine ck_cell (k := 0) hx hb hml hown hts hX (by omega) hbl hbA hP hS (by decide) hl.1 (Nat.le_of_ble_eq_true rfl) dL_law_6 ⟨Nat.le_of_ble_eq_true rfl, Nat.le_of_ble_eq_true rfl⟩ (fun H locs hP hS => ?_)
  refine lv_aload_n hx hb dL_law_9 rfl (lv_at hl 0 rfl) ?_
  refine lv_iconst (v := 1) hx hb dL_law_10 (by decide) ?_
  refine ck_cell (k := 1) hx hb hml hown hts hX (by omega) hbl hbA hP hS (by decide) hl.1 (Nat.le_of_ble_eq_true rfl) dL_law_11 ⟨Nat.le_of_ble_eq_true rfl, Nat.le_of_ble_eq_true rfl⟩ (fun H locs hP hS => ?_)
  refine lv_aload_n hx hb dL_law_14 rfl (lv_at hl 0 rfl) ?_
  refine lv_iconst (v := 2) hx hb dL_law_15 (by decide) ?_
  refine ck_cell (k := 2) hx hb hml hown hts hX (by omega) hbl hbA hP hS (by decide) hl.1 (Nat.le_of_ble_eq_true rfl) dL_law_16 ⟨Nat.le_of_ble_eq_true rfl, Nat.le_of_ble_eq_true rfl⟩ (fun H locs hP hS => ?_)
  refine lv_aload_n hx hb dL_law_19 rfl (lv_at hl 0 rfl) ?_
  refine lv_iconst (v := 3) hx hb dL_law_20 (by decide) ?_
  refine ck_cell (k := 3) hx hb hml hown hts hX (by omega) hbl hbA hP hS (by decide) hl.1 (Nat.le_of_ble_eq_true rfl) dL_law_21 ⟨Nat.le_of_ble_eq_true rfl, Nat.le_of_ble_eq_true rfl⟩ (fun H locs hP hS => ?_)
  refine lv_aload_n hx hb dL_law_24 rfl (lv_at hl 0 rfl) ?_
  refine lv_iconst (v := 4) hx hb dL_law_25 (by decide) ?_
  refine ck_cell (k := 4) hx hb hml hown hts hX (by omega) hbl hbA hP hS (by decide) hl.1 (Nat.le_of_ble_eq_true rfl) dL_law_26 ⟨Nat.le_of_ble_eq_true rfl, Nat.le_of_ble_eq_true rfl⟩ (fun H locs hP hS => ?_)
  have hFc := ck_oneF hD hS hA
  rcases (show n = 1 ∨ n = 2 ∨ n = 3 ∨ n = 4 by omega) with h | h | h | h
  · subst h
    refine va_callv (va_runI (As := [.int (lw_cell L xs 0), .int (lw_cell L xs 1), .int (lw_cell L xs 2), .int (lw_cell L xs 3), .int (lw_cell L xs 4)]) (rest := [.ref q]) ⟨hx, hb, hml, hown, hts⟩ (ci_X6_init_1 l G q H.size (lw_cell L xs 0) (lw_cell L xs 1) (lw_cell L xs 2) (lw_cell L xs 3) (lw_cell L xs 4) bb hb2 (en.trans (by decide)) eb s1) (cwI 5 hts gT_X6_init rfl rfl rfl (hts _ st_ini_6) (hts _ st_ml_93) (hts _ st_im_6) rfl (by decide +kernel) ⟨Nat.le_of_ble_eq_true rfl, Nat.le_of_ble_eq_true rfl⟩) ⟨fun a U g mk q => ⟨q.1, q.2.1, q.2.2.1, va_K.moved (u := U) (U := U.calling g mk a) (Vm.Alike.refl U.vm) q.2.2.2.1, q.2.2.2.2.1, ck_N.same (u := U) (U := U.calling g mk a) rfl q.2.2.2.2.2⟩, fun U hU hW => ⟨rfl, by rw [hU], by rw [hU]; exact ck_one hP, va_K.moved hW.alike hK, ck_oneD hD, ck_N.at hW hN⟩⟩ rfl rfl hl.1 rfl (lv_room (Nat.le_of_ble_eq_true rfl)) dL_law_29 ⟨Nat.le_of_ble_eq_true rfl, show 17 + (54 + (32 + (32 * bb))) ≤ 7301064 by omega⟩) hS (fun q _ h => hFc q h) hFc (fun u t H1 locs ht hvm hw hB hz1 hk1 hS => ?_)
    obtain ⟨a1, σ1⟩ := u
    obtain ⟨hw1, hw2⟩ := hw
    have hw1 : σ1 = cBegT 1 (ck_s1 (nI bb) (ck_near (lw_cell L xs 2) 1 4000 * 100) (ck_near (lw_cell L xs 4) 1 50) (ck_near (lw_cell L xs 3) 1 20)) := hw1
    have hw2 : a1 0 0 = q := hw2
    obtain ⟨hP1, hK1, hD1⟩ := hB
    rw [ht] at hP1
    have hP1 : va_P (ck_D G) vwCl (ck_W (ck_1 G 1 bb a1) σ1) H1 := hP1
    have hD1 : va_D _ (ck_W (ck_1 G 1 bb a1) σ1) := hD1
    obtain ⟨hPn, hDn⟩ := ck_joinN hP hD hk1 hFc hP1 hD1
    subst hw2
    refine lv_astore_n (lv' := [(1, .ref (a1 0 0)), (0, .ref b)]) hx hb dL_law_32 rfl hl (by decide) rfl (fun ls hl => ?_)
    refine W.widen (k := 100) (n := 1000) (Nat.le_of_ble_eq_true rfl) (show 17 + (54 + (32 + (32 * bb))) ≤ 1000 by omega) ?_
    rw [hw1] at hPn hDn
    exact law_33 hL C0 hlt hK (ck_b21 _ _ _ _ _) (ck_b22 _ _ _ _ _) s2 hR hPn hDn hS hl
  · subst h
    refine va_callv (va_runI (As := [.int (lw_cell L xs 0), .int (lw_cell L xs 1), .int (lw_cell L xs 2), .int (lw_cell L xs 3), .int (lw_cell L xs 4)]) (rest := [.ref q]) ⟨hx, hb, hml, hown, hts⟩ (ci_X6_init_2 l G q H.size (lw_cell L xs 0) (lw_cell L xs 1) (lw_cell L xs 2) (lw_cell L xs 3) (lw_cell L xs 4) bb hb2 (en.trans (by decide)) eb s1) (cwI 5 hts gT_X6_init rfl rfl rfl (hts _ st_ini_6) (hts _ st_ml_93) (hts _ st_im_6) rfl (by decide +kernel) ⟨Nat.le_of_ble_eq_true rfl, Nat.le_of_ble_eq_true rfl⟩) ⟨fun a U g mk q => ⟨q.1, q.2.1, q.2.2.1, va_K.moved (u := U) (U := U.calling g mk a) (Vm.Alike.refl U.vm) q.2.2.2.1, q.2.2.2.2.1, ck_N.same (u := U) (U := U.calling g mk a) rfl q.2.2.2.2.2⟩, fun U hU hW => ⟨rfl, by rw [hU], by rw [hU]; exact ck_one hP, va_K.moved hW.alike hK, ck_oneD hD, ck_N.at hW hN⟩⟩ rfl rfl hl.1 rfl (lv_room (Nat.le_of_ble_eq_true rfl)) dL_law_29 ⟨Nat.le_of_ble_eq_true rfl, show 17 + (83 + (32 + (32 * bb))) ≤ 7301064 by omega⟩) hS (fun q _ h => hFc q h) hFc (fun u t H1 locs ht hvm hw hB hz1 hk1 hS => ?_)
    obtain ⟨a1, σ1⟩ := u
    obtain ⟨hw1, hw2⟩ := hw
    have hw1 : σ1 = cBegT 2 (ck_s1 (nI bb) (ck_near (lw_cell L xs 2) 1 4000 * 100) (ck_near (lw_cell L xs 4) 1 50) (ck_near (lw_cell L xs 3) 1 20)) := hw1
    have hw2 : a1 0 0 = q := hw2
    obtain ⟨hP1, hK1, hD1⟩ := hB
    rw [ht] at hP1
    have hP1 : va_P (ck_D G) vwCl (ck_W (ck_1 G 2 bb a1) σ1) H1 := hP1
    have hD1 : va_D _ (ck_W (ck_1 G 2 bb a1) σ1) := hD1
    obtain ⟨hPn, hDn⟩ := ck_joinN hP hD hk1 hFc hP1 hD1
    subst hw2
    refine lv_astore_n (lv' := [(1, .ref (a1 0 0)), (0, .ref b)]) hx hb dL_law_32 rfl hl (by decide) rfl (fun ls hl => ?_)
    refine W.widen (k := 100) (n := 1000) (Nat.le_of_ble_eq_true rfl) (show 17 + (83 + (32 + (32 * bb))) ≤ 1000 by omega) ?_
    rw [hw1] at hPn hDn
    exact law_33 hL C0 hlt hK (ck_b21 _ _ _ _ _) (ck_b22 _ _ _ _ _) s2 hR hPn hDn hS hl
  · subst h
    refine va_callv (va_runI (As := [.int (lw_cell L xs 0), .int (lw_cell L xs 1), .int (lw_cell L xs 2), .int (lw_cell L xs 3), .int (lw_cell L xs 4)]) (rest := [.ref q]) ⟨hx, hb, hml, hown, hts⟩ (ci_X6_init_3 l G q H.size (lw_cell L xs 0) (lw_cell L xs 1) (lw_cell L xs 2) (lw_cell L xs 3) (lw_cell L xs 4) bb hb2 (en.trans (by decide)) eb s1) (cwI 5 hts gT_X6_init rfl rfl rfl (hts _ st_ini_6) (hts _ st_ml_93) (hts _ st_im_6) rfl (by decide +kernel) ⟨Nat.le_of_ble_eq_true rfl, Nat.le_of_ble_eq_true rfl⟩) ⟨fun a U g mk q => ⟨q.1, q.2.1, q.2.2.1, va_K.moved (u := U) (U := U.calling g mk a) (Vm.Alike.refl U.vm) q.2.2.2.1, q.2.2.2.2.1, ck_N.same (u := U) (U := U.calling g mk a) rfl q.2.2.2.2.2⟩, fun U hU hW => ⟨rfl, by rw [hU], by rw [hU]; exact ck_one hP, va_K.moved hW.alike hK, ck_oneD hD, ck_N.at hW hN⟩⟩ rfl rfl hl.1 rfl (lv_room (Nat.le_of_ble_eq_true rfl)) dL_law_29 ⟨Nat.le_of_ble_eq_true rfl, show 17 + (112 + (32 + (32 * bb))) ≤ 7301064 by omega⟩) hS (fun q _ h => hFc q h) hFc (fun u t H1 locs ht hvm hw hB hz1 hk1 hS => ?_)
    obtain ⟨a1, σ1⟩ := u
    obtain ⟨hw1, hw2⟩ := hw
    have hw1 : σ1 = cBegT 3 (ck_s1 (nI bb) (ck_near (lw_cell L xs 2) 1 4000 * 100) (ck_near (lw_cell L xs 4) 1 50) (ck_near (lw_cell L xs 3) 1 20)) := hw1
    have hw2 : a1 0 0 = q := hw2
    obtain ⟨hP1, hK1, hD1⟩ := hB
    rw [ht] at hP1
    have hP1 : va_P (ck_D G) vwCl (ck_W (ck_1 G 3 bb a1) σ1) H1 := hP1
    have hD1 : va_D _ (ck_W (ck_1 G 3 bb a1) σ1) := hD1
    obtain ⟨hPn, hDn⟩ := ck_joinN hP hD hk1 hFc hP1 hD1
    subst hw2
    refine lv_astore_n (lv' := [(1, .ref (a1 0 0)), (0, .ref b)]) hx hb dL_law_32 rfl hl (by decide) rfl (fun ls hl => ?_)
    refine W.widen (k := 100) (n := 1000) (Nat.le_of_ble_eq_true rfl) (show 17 + (112 + (32 + (32 * bb))) ≤ 1000 by omega) ?_
    rw [hw1] at hPn hDn
    exact law_33 hL C0 hlt hK (ck_b21 _ _ _ _ _) (ck_b22 _ _ _ _ _) s2 hR hPn hDn hS hl
  · subst h
    refine va_callv (va_runI (As := [.int (lw_cell L xs 0), .int (lw_cell L xs 1), .int (lw_cell L xs 2), .int (lw_cell L xs 3), .int (lw_cell L xs 4)]) (rest := [.ref q]) ⟨hx, hb, hml, hown, hts⟩ (ci_X6_init_4 l G q H.size (lw_cell L xs 0) (lw_cell L xs 1) (lw_cell L xs 2) (lw_cell L xs 3) (lw_cell L xs 4) bb hb2 (en.trans (by decide)) eb s1) (cwI 5 hts gT_X6_init rfl rfl rfl (hts _ st_ini_6) (hts _ st_ml_93) (hts _ st_im_6) rfl (by decide +kernel) ⟨Nat.le_of_ble_eq_true rfl, Nat.le_of_ble_eq_true rfl⟩) ⟨fun a U g mk q => ⟨q.1, q.2.1, q.2.2.1, va_K.moved (u := U) (U := U.calling g mk a) (Vm.Alike.refl U.vm) q.2.2.2.1, q.2.2.2.2.1, ck_N.same (u := U) (U := U.calling g mk a) rfl q.2.2.2.2.2⟩, fun U hU hW => ⟨rfl, by rw [hU], by rw [hU]; exact ck_one hP, va_K.moved hW.alike hK, ck_oneD hD, ck_N.at hW hN⟩⟩ rfl rfl hl.1 rfl (lv_room (Nat.le_of_ble_eq_true rfl)) dL_law_29 ⟨Nat.le_of_ble_eq_true rfl, show 17 + (141 + (32 + (32 * bb))) ≤ 7301064 by omega⟩) hS (fun q _ h => hFc q h) hFc (fun u t H1 locs ht hvm hw hB hz1 hk1 hS => ?_)
    obtain ⟨a1, σ1⟩ := u
    obtain ⟨hw1, hw2⟩ := hw
    have hw1 : σ1 = cBegT 4 (ck_s1 (nI bb) (ck_near (lw_cell L xs 2) 1 4000 * 100) (ck_near (lw_cell L xs 4) 1 50) (ck_near (lw_cell L xs 3) 1 20)) := hw1
    have hw2 : a1 0 0 = q := hw2
    obtain ⟨hP1, hK1, hD1⟩ := hB
    rw [ht] at hP1
    have hP1 : va_P (ck_D G) vwCl (ck_W (ck_1 G 4 bb a1) σ1) H1 := hP1
    have hD1 : va_D _ (ck_W (ck_1 G 4 bb a1) σ1) := hD1
    obtain ⟨hPn, hDn⟩ := ck_joinN hP hD hk1 hFc hP1 hD1
    subst hw2
    refine lv_astore_n (lv' := [(1, .ref (a1 0 0)), (0, .ref b)]) hx hb dL_law_32 rfl hl (by decide) rfl (fun ls hl => ?_)
    refine W.widen (k := 100) (n := 1000) (Nat.le_of_ble_eq_true rfl) (show 17 + (141 + (32 + (32 * bb))) ≤ 1000 by omega) ?_
    rw [hw1] at hPn hDn
    exact law_33 hL C0 hlt hK (ck_b21 _ _ _ _ _) (ck_b22 _ _ _ _ _) s2 hR hPn hDn hS hl
