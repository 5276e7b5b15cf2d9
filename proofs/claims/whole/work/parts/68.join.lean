/-! THE LAW'S BEGINNING: the cells of the script, the worlds beside each other. -/
set_option maxHeartbeats 4000000 in
set_option maxRecDepth 100000 in
theorem ct_cell (l : Launch) (b L : Nat) (xs : Nat → Int32) (k : Int32) (hL : L < 2 ^ 31) (hk : ¬ k < 0) : Met l yL_cell wsL_cell ({ frames := 0, cells := 0, slots := 0, locals := 0 } : Room) (va_Pc [.ref b, .int k] (fun U => va_X b L xs U U.heap)) (va_Qi (fun (r : Int32) (_ : Unit) => r = lw_cell L xs k) (fun _ _ => True) (fun _ => False)) 0 0 (fun _ => False) := by
  refine Met.ofW (cc := cL_cell) (maxL := 2) (ret := some .int) (by decide) rfl ?_
  intro p e s m args below meth c s₁ B hml hv
  obtain ⟨rfl, hX⟩ := hv
  have hx := B.exec
  have hb := B.bytes
  have hr := B.returns
  have hlocks := B.notSynchronized
  have hbl : b < s.heap.size := by
    obtain ⟨scr, h1, -⟩ := hX
    exact (Array.getElem?_eq_some_iff.mp h1).1
  have hS : va_S (fun _ : Nat => False) s.heap s.heap [] := va_S.rf
  have hl := lv_entry ([.ref b, .int k]) (n := 2) (Nat.le_of_ble_eq_true rfl)
  rw [lg_entry_eq]
  generalize (lg_sl ([.ref b, .int k]) ++ List.replicate (2 - (lg_sl ([.ref b, .int k])).length) Slot.unset).toArray = ls at hl ⊢
  have hl : lv_has ls 2 [(0, .ref b), (1, .int k)] := hl
  refine lv_iload_n hx hb dL_cell_0 rfl (lv_at hl 1 rfl) ?_
  refine lv_aload_n hx hb dL_cell_1 rfl (lv_at hl 0 rfl) ?_
  refine va_slen hx hb hX hbl (fun h => h) hS dL_cell_2 ?_
  refine lv_icmp_ge (tgt := 12) hx hb dL_cell_3 (by decide) (fun h => ?_) (fun h => ?_)
  · refine lv_iconst (v := 0) hx hb dL_cell_12 (by decide) ?_
    exact W.iret hx hb hr (fun t ht hW => ⟨⟨0, (), rfl, by unfold lw_cell; exact (if_pos h).symm, trivial⟩, hS.F ht⟩) (fun q hq => absurd hq List.not_mem_nil) dL_cell_13 hlocks
  · refine lv_aload_n hx hb dL_cell_6 rfl (lv_at hl 0 rfl) ?_
    refine lv_iload_n hx hb dL_cell_7 rfl (lv_at hl 1 rfl) ?_
    have hin : vp_in k L := by
      obtain ⟨j, hj, rfl⟩ := nI_of hk
      refine pk_in j L ?_
      rcases Nat.lt_or_ge j L with q | q
      · exact q
      · exact absurd (nI_le q hj) h
    refine va_sld hx hb hX hbl (fun h => h) hS hin dL_cell_8 ?_
    refine lv_goto (tgt := 13) hx hb dL_cell_9 (by decide) ?_
    exact W.iret hx hb hr (fun t ht hW => ⟨⟨_, (), rfl, by unfold lw_cell; exact (if_neg h).symm, trivial⟩, hS.F ht⟩) (fun q hq => absurd hq List.not_mem_nil) dL_cell_13 hlocks
set_option maxHeartbeats 4000000 in
set_option maxRecDepth 100000 in
theorem ck_cell {p : Program} {l : Launch} {e : Env} {s : State} {m : MethodId} {args : Array Value} {below : List Frame} {meth : Method} {c : Code} {H : Heap} {locs : List Loc} {cells slots : Nat} {Q : State → Prop} {pc : Nat} {ls : Array Slot} {rest : List Value} {A : Nat → Prop} {D : va_G} {ws : va_W} {b L : Nat} {xs : Nat → Int32} (hx : p.tables.exec = Jvm.exec) (hb : c.code = cL_law) (hml : c.maxLocals = 9) (hown : s.vm.findClass RL = some m.cls) (hts : ∀ w ∈ lw_tbl, w.before args s = true) (hX : va_X b L xs s s.heap) (hL : L < 2 ^ 31) (hbl : b < s.heap.size) (hbA : ¬ A b) (hP : va_P D vwCl ws H) (hS : va_S A s.heap H locs) {k : Int32} (hk : ¬ k < 0) (hsize : ls.size = 9) (hW : (rest.map fun v => v.category).sum ≤ 8) (hdg : decode cL_law pc = .ok (.invokestatic 87, 3)) (hf : cells ≤ 600128 ∧ slots ≤ 7301064)
    (kk : ∀ (H1 : Heap) (locs1 : List Loc), va_P D vwCl ws H1 → va_S A s.heap H1 locs1 → W p l e room_1 s m args below meth c H1 locs1 cells slots Q (F0 m (pc + 3) ls (.int (lw_cell L xs k) :: rest))) : W p l e room_1 s m args below meth c H locs cells slots Q (F0 m pc ls (.int k :: .ref b :: rest)) := by
  refine va_calli (va_runS (As := [.ref b, .int k]) (rest := rest) ⟨hx, hb, hml, hown, hts⟩ (ct_cell l b L xs k hL hk) (va_cwS 2 hts gT_L_cell rfl rfl rfl (by decide +kernel) ⟨Nat.le_of_ble_eq_true rfl, Nat.le_of_ble_eq_true rfl⟩) ⟨fun a U g mk q => ⟨q.1, va_X.moved (u := U) (U := U.calling g mk a) (Vm.Alike.refl U.vm) q.2⟩, fun U hU hW => ⟨rfl, va_X.moved hW.alike (by rw [hU]; exact va_X.kept hX (hS.2.1 b hbl hbA))⟩⟩ rfl rfl hsize rfl (by show 2 * 0 + _ ≤ 8; omega) hdg hf) hS (fun q _ h => h.elim) (fun q h => h.elim) (fun r u t H1 locs1 ht hvm hw hB hz hk1 hS => ?_)
  rw [hw]
  exact kk H1 locs1 (hP.kept (fun k x hx => hk1 x.1 (hP k x hx).lt (fun h => h))) hS
theorem ck_join2 {A0 A1 : Nat → Prop} {D : va_G} {cl : List vw_C} {w0 w1 : va_W} {H1 : Heap} (h0 : va_P D cl w0 H1) (h1 : va_P D cl w1 H1) (d0 : va_D A0 w0) (d1 : va_D A1 w1) (hno : ∀ (k : Nat) (q : Nat × va_E), w0[k]? = some q → ¬ A1 q.1) (hA : ∀ q, A1 q → A0 q) : va_P D cl (w0 ++ w1) H1 ∧ va_D A0 (w0 ++ w1) := by
  have key : ∀ (k : Nat) (q : Nat × va_E), (w0 ++ w1)[k]? = some q → (k < w0.length ∧ w0[k]? = some q) ∨ (w0.length ≤ k ∧ w1[k - w0.length]? = some q) := by
    intro k q h
    by_cases hl : k < w0.length
    · rw [List.getElem?_append_left hl] at h
      exact Or.inl ⟨hl, h⟩
    · rw [List.getElem?_append_right (by omega)] at h
      exact Or.inr ⟨by omega, h⟩
  refine ⟨fun k q h => ?_, ⟨fun i j p q hp hq he => ?_, fun k q h => ?_⟩⟩
  · rcases key k q h with ⟨-, h⟩ | ⟨-, h⟩
    · exact h0 _ q h
    · exact h1 _ q h
  · rcases key i p hp with ⟨a1, a2⟩ | ⟨a1, a2⟩ <;> rcases key j q hq with ⟨c1, c2⟩ | ⟨c1, c2⟩
    · exact d0.1 i j p q a2 c2 he
    · exact absurd (by rw [he]; exact d1.2 _ q c2) (hno _ p a2)
    · exact absurd (by rw [← he]; exact d1.2 _ p a2) (hno _ q c2)
    · have := d1.1 _ _ p q a2 c2 he
      omega
  · rcases key k q h with ⟨-, h⟩ | ⟨-, h⟩
    · exact d0.2 _ q h
    · exact hA _ (d1.2 _ q h)
theorem ck_one {D : va_G} {cl : List vw_C} {w0 : va_W} {x : Nat × va_E} {H : Heap} (hP : va_P D cl (w0 ++ [x]) H) : va_P D cl [x] H := by
  intro k q h
  have hk : k < 1 := (List.getElem?_eq_some_iff.mp h).1
  rw [show k = 0 by omega] at h
  exact hP w0.length q (by rw [← h]; simp)
theorem ck_oneD {A0 : Nat → Prop} {w0 : va_W} {x : Nat × va_E} (hD : va_D A0 (w0 ++ [x])) : va_D (fun _ => True) [x] := by
  refine ⟨fun i j p q hp hq _ => ?_, fun _ _ _ => trivial⟩
  have h1 : i < 1 := (List.getElem?_eq_some_iff.mp hp).1
  have h2 : j < 1 := (List.getElem?_eq_some_iff.mp hq).1
  omega
theorem ck_oneF {A0 : Nat → Prop} {w0 : va_W} {x : Nat × va_E} {H0 H : Heap} {locs : List Loc} (hD : va_D A0 (w0 ++ [x])) (hS : va_S A0 H0 H locs) (hA : ∀ q, H0.size ≤ q → A0 q) : ∀ q, va_A [x] H.size q → A0 q := va_free (wc := [x]) hD hS hA [w0.length] (by simp)
theorem ck_joinN {A0 : Nat → Prop} {D : va_G} {cl : List vw_C} {w0 w1 : va_W} {x : Nat × va_E} {H H1 : Heap} (hP : va_P D cl (w0 ++ [x]) H) (hD : va_D A0 (w0 ++ [x])) (hk : ∀ q : Nat, q < H.size → ¬ va_A [x] H.size q → H1[q]? = H[q]?) (hF : ∀ q, va_A [x] H.size q → A0 q) (hP1 : va_P D cl w1 H1) (hD1 : va_D (va_A [x] H.size) w1) : va_P D cl (w0 ++ w1) H1 ∧ va_D A0 (w0 ++ w1) := by
  have hin : ∀ (k : Nat) (q : Nat × va_E), w0[k]? = some q → (w0 ++ [x])[k]? = some q := fun k q h => by
    rw [List.getElem?_append_left (List.getElem?_eq_some_iff.mp h).1]
    exact h
  have hx : (w0 ++ [x])[w0.length]? = some x := by simp
  have hno : ∀ (k : Nat) (q : Nat × va_E), w0[k]? = some q → ¬ va_A [x] H.size q.1 := by
    intro k q h ha
    rcases ha with ⟨j, e, hj⟩ | hj
    · have hj0 : j < 1 := (List.getElem?_eq_some_iff.mp hj).1
      rw [show j = 0 by omega] at hj
      have hj : x = (q.1, e) := Option.some.inj hj
      have h1 := hD.1 k w0.length q x (hin k q h) hx (by rw [hj])
      have h2 := (List.getElem?_eq_some_iff.mp h).1
      omega
    · exact Nat.not_lt.mpr hj (hP k q (hin k q h)).lt
  exact ck_join2 (fun k q h => (hP k q (hin k q h)).kept (hk q.1 (hP k q (hin k q h)).lt (hno k q h))) hP1 ⟨fun i j p q hp hq he => hD.1 i j p q (hin i p hp) (hin j q hq) he, fun k q h => hD.2 k q (hin k q h)⟩ hD1 hno hF
/-- all of it -/
abbrev ck_3 (G : ck_G) (n b : Nat) (ad : Nat → Nat → Nat) : ck_G := (ck_D G, (ck_cB G, ck_cD G, ck_cI G, ck_cJ G, ck_cO G), (n, 32 * b), ad, ck_LC n ++ (ck_LM ++ [(21, 0), (22, 0)]))
def ck_a3 (a1 a2 : Nat → Nat → Nat) (q3 q4 : Nat) : Nat → Nat → Nat := fun f i => if f = 21 then q3 else if f = 22 then q4 else if 10 ≤ f ∧ f ≤ 20 then a2 f i else a1 f i
theorem ck_LC_f {n : Nat} {z : Nat × Nat} (h : z ∈ ck_LC n) : z.1 = 0 ∨ z.1 = 1 ∨ z.1 = 2 ∨ z.1 = 3 ∨ z.1 = 4 ∨ z.1 = 5 ∨ z.1 = 6 ∨ z.1 = 7 ∨ z.1 = 8 ∨ z.1 = 30 ∨ z.1 = 31 ∨ z.1 = 32 ∨ z.1 = 33 := by
  simp only [ck_LC, List.mem_append, List.mem_flatMap, List.mem_range, List.mem_cons, List.not_mem_nil, or_false] at h
  rcases h with (rfl | rfl) | ⟨i, -, rfl | rfl | rfl | rfl⟩ | rfl | rfl | rfl | rfl | rfl | rfl | rfl <;> simp
theorem ck_LM_f {z : Nat × Nat} (h : z ∈ ck_LM) : z.1 = 10 ∨ z.1 = 11 ∨ z.1 = 12 ∨ z.1 = 13 ∨ z.1 = 14 ∨ z.1 = 15 ∨ z.1 = 16 ∨ z.1 = 17 ∨ z.1 = 18 ∨ z.1 = 19 ∨ z.1 = 20 := by
  simp only [ck_LM, List.mem_cons, List.not_mem_nil, or_false] at h
  rcases h with rfl | rfl | rfl | rfl | rfl | rfl | rfl | rfl | rfl | rfl | rfl <;> simp
theorem ck_W3 {G : ck_G} {n b : Nat} {a1 a2 : Nat → Nat → Nat} {q3 q4 : Nat} {σ1 σ2 : ck_S} (h21 : σ1.2.1 21 0 = fun _ => 0) (h22 : σ1.2.2 22 0 = fun _ => 0) : ((ck_W (ck_1 G n b a1) σ1 ++ ck_W (ck_2 G a2) σ2) ++ [(q3, .inl (ck_cJ G, 1, .inr (.inl (fun _ => 0))))]) ++ [(q4, .inl (ck_cD G, 1, .inr (.inr (.inr (.inl (fun _ => 0))))))] = ck_W (ck_3 G n b (ck_a3 a1 a2 q3 q4)) (ck_mk σ1 σ2) := by
  have e1 : ck_W (ck_1 G n b a1) σ1 = (ck_LC n).map (fun z => (ck_ad (ck_3 G n b (ck_a3 a1 a2 q3 q4)) z.1 z.2, ck_V (ck_3 G n b (ck_a3 a1 a2 q3 q4)) (ck_mk σ1 σ2) z.1 z.2)) := by
    unfold ck_W
    refine List.map_congr_left (fun z hz => ?_)
    obtain ⟨f, i⟩ := z
    rcases ck_LC_f hz with h | h | h | h | h | h | h | h | h | h | h | h | h <;> (have h : f = _ := h; subst h; rfl)
  have e2 : ck_W (ck_2 G a2) σ2 = ck_LM.map (fun z => (ck_ad (ck_3 G n b (ck_a3 a1 a2 q3 q4)) z.1 z.2, ck_V (ck_3 G n b (ck_a3 a1 a2 q3 q4)) (ck_mk σ1 σ2) z.1 z.2)) := by
    unfold ck_W
    refine List.map_congr_left (fun z hz => ?_)
    obtain ⟨f, i⟩ := z
    rcases ck_LM_f hz with h | h | h | h | h | h | h | h | h | h | h <;> (have h : f = _ := h; subst h; rfl)
  have e3 : (ck_mk σ1 σ2).2.1 21 0 = fun _ => 0 := h21
  have e4 : (ck_mk σ1 σ2).2.2 22 0 = fun _ => 0 := h22
  rw [e1, e2, ck_W]
  show _ = (ck_LC n ++ (ck_LM ++ [(21, 0), (22, 0)])).map _
  rw [List.map_append, List.map_append, List.append_assoc, List.append_assoc]
  congr 1
  congr 1
  show _ = ([(q3, .inl (ck_cJ G, 1, .inr (.inl ((ck_mk σ1 σ2).2.1 21 0)))), (q4, .inl (ck_cD G, 1, .inr (.inr (.inr (.inl ((ck_mk σ1 σ2).2.2 22 0))))))] : va_W)
  rw [e3, e4]
  rfl
theorem ck_b21 (n : Nat) (pl cap ev deb : Int32) : (cBegT n (ck_s1 pl cap ev deb)).2.1 21 0 = fun _ => 0 := rfl
theorem ck_b22 (n : Nat) (pl cap ev deb : Int32) : (cBegT n (ck_s1 pl cap ev deb)).2.2 22 0 = fun _ => 0 := by
  funext k
  rfl
