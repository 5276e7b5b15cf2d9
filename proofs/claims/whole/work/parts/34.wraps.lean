def sp_L_current (nc nb : Nat) (σ : ck_S) (a1 : UInt64) (post : Int32 → ck_S → Prop) : Prop := sp_X6_current nc nb σ a1 (fun σ1 => post 0 σ1) (fun E σ1x => (E = ck_IAE ∧ (post 1 σ1x)) ∨ (E = ck_ISE ∧ (post 2 σ1x)))
set_option maxHeartbeats 4000000 in
set_option maxRecDepth 100000 in
theorem wk_L_current_0 {p : Program} {l : Launch} {e : Env} {s : State} {m : MethodId} {args : Array Value} {below : List Frame} {meth : Method} {c : Code} {G : ck_G} (X : ck_X p s m meth c args cL_current 4 (some .int) RL wsL_current) (hlt : l.stackTraces = false) (hE : ck_E (ck_A G s.heap.size) s) (htab : c.exceptionTable.toList = tableOf [(0, 5, 8, 21), (0, 5, 11, 15)]) (hC : ck_inC G) {post : Int32 → ck_S → Prop} {σ : ck_S} {a1 : UInt64} {H : Heap} {locs : List Loc} {ls : Array Slot} (h : sp_L_current (ck_nc G) (ck_nb G) σ a1 post) (hw : ck_H G s H locs σ) (hl : lv_has ls 4 [(0, .ref (ck_ad G 0 0)), (1, .double a1)]) : W p l e ({ frames := 8, cells := 2, slots := 12, locals := 128 } : Room) s m args below meth c H locs 0 0 (MQ below (va_Qi post (ck_Q G) (ck_A G s.heap.size)) args s 2 12 (ck_A G s.heap.size)) (F0 m 0 ls []) := by
  obtain ⟨hx, hb, hr, hml, hown, hts, hlocks⟩ := id X
  unfold sp_L_current at h
  refine lv_aload_n hx hb dL_current_0 rfl (lv_at hl 0 rfl) ?_
  refine lv_dload_n hx hb dL_current_1 rfl (lv_at hl 1 rfl) ?_
  refine ck_xcallVv (rest := []) ⟨hx, hb, hml, hown, hts⟩ hw hE (hC.1 0 (by decide)) rfl rfl (ct_X6_current l hlt G hC h) (cwV 1 hts gL_current_X6_current rfl rfl rfl (by decide +kernel) ⟨(Nat.le_of_ble_eq_true rfl), (Nat.le_of_ble_eq_true rfl)⟩) rfl hl.1 rfl (Nat.le_of_ble_eq_true rfl) dL_current_2 ⟨(Nat.le_of_ble_eq_true rfl), (Nat.le_of_ble_eq_true rfl)⟩ ?_ ?_
  · intro E ce q9 σ1x H locs hp hw h1 h2 h3
    rcases hp with ⟨rfl, h⟩ | ⟨rfl, h⟩
    · refine vx_catch (name := ck_IAE) hown [] ⟨0, 5, 8, 21⟩ [⟨0, 5, 11, 15⟩] (htab.trans rfl) (fun z hz => by cases hz) rfl (by decide) (hts _ (List.mem_of_getElem? (i := 1) rfl)) (va_Nw.use rfl hE.2.2.1.2.2.1) h1 h2 h3 ?_
      refine lv_astore_n (lv' := [(3, .ref q9), (0, .ref (ck_ad G 0 0)), (1, .double a1)]) hx hb dL_current_8 rfl hl (by decide) rfl (fun ls hl => ?_)
      refine lv_iconst (v := 1) hx hb dL_current_9 (by decide) ?_
      exact ck_iret X hw h dL_current_10
    · refine vx_catch (name := ck_ISE) hown [⟨0, 5, 8, 21⟩] ⟨0, 5, 11, 15⟩ [] (htab.trans rfl) (fun z hz => by
        simp only [List.mem_cons, List.not_mem_nil, or_false] at hz
        rcases hz with rfl
        · exact Or.inr ⟨by decide, ck_IAE, hts _ (List.mem_of_getElem? (i := 1) rfl), hE.2.2.2.1.2.1⟩) rfl (by decide) (hts _ (List.mem_of_getElem? (i := 2) rfl)) (va_Nw.use rfl hE.2.2.1.1) h1 h2 h3 ?_
      refine lv_astore_n (lv' := [(3, .ref q9), (0, .ref (ck_ad G 0 0)), (1, .double a1)]) hx hb dL_current_11 rfl hl (by decide) rfl (fun ls hl => ?_)
      refine lv_iconst (v := 2) hx hb dL_current_12 (by decide) ?_
      exact ck_iret X hw h dL_current_13
  · intro σ1 H locs h hw
    refine lv_goto (tgt := 14) hx hb dL_current_5 (by decide) ?_
    refine lv_iconst (v := 0) hx hb dL_current_14 (by decide) ?_
    exact ck_iret X hw h dL_current_15
set_option maxHeartbeats 4000000 in
set_option maxRecDepth 100000 in
theorem ct_L_current (l : Launch) (hlt : l.stackTraces = false) (G : ck_G) (hC : ck_inC G) {a1 : UInt64} {σ : ck_S} {post : Int32 → ck_S → Prop} (h : sp_L_current (ck_nc G) (ck_nb G) σ a1 post) : ck_MEi l yL_current wsL_current ({ frames := 8, cells := 2, slots := 12, locals := 128 } : Room) G σ [.ref (ck_ad G 0 0), .double a1] post 2 12 := by
  intro sz
  refine va_MetW (cc := cL_current) (maxL := 4) (ret := (some .int)) (by decide) rfl ?_
  intro p e s m args below meth c s₁ B hml hv
  obtain ⟨rfl, rfl, hw, hE⟩ := ck_enterE hv
  have htab := vx_table (x := yL_current) B (atoms_spec (ws := wsL_current) B.pre _ List.mem_cons_self)
  have hl := lv_entry ([.ref (ck_ad G 0 0), .double a1]) (n := 4) (Nat.le_of_ble_eq_true rfl)
  rw [lg_entry_eq]
  generalize (lg_sl ([.ref (ck_ad G 0 0), .double a1]) ++ List.replicate (4 - (lg_sl ([.ref (ck_ad G 0 0), .double a1])).length) Slot.unset).toArray = ls at hl ⊢
  have hl : lv_has ls 4 [(0, .ref (ck_ad G 0 0)), (1, .double a1)] := hl
  exact wk_L_current_0 ⟨B.exec, B.bytes, B.returns, hml, findClass_of_methodNamed B.named, atoms_spec (ws := wsL_current) B.pre, B.notSynchronized⟩ hlt hE htab hC h hw hl
def sp_L_warm (nc nb : Nat) (σ : ck_S) (a1 : Int32) (a2 : UInt64) (post : Int32 → ck_S → Prop) : Prop := sp_X6_warm nc nb σ a1 a2 (fun σ1 => post 0 σ1) (fun E σ1x => (E = ck_IOB ∧ (post 1 σ1x)) ∨ (E = ck_IAE ∧ (post 2 σ1x)) ∨ (E = ck_ISE ∧ (post 3 σ1x)))
set_option maxHeartbeats 4000000 in
set_option maxRecDepth 100000 in
theorem wk_L_warm_0 {p : Program} {l : Launch} {e : Env} {s : State} {m : MethodId} {args : Array Value} {below : List Frame} {meth : Method} {c : Code} {G : ck_G} (X : ck_X p s m meth c args cL_warm 5 (some .int) RL wsL_warm) (hlt : l.stackTraces = false) (hE : ck_E (ck_A G s.heap.size) s) (htab : c.exceptionTable.toList = tableOf [(0, 6, 9, 13), (0, 6, 13, 21), (0, 6, 17, 15)]) (hC : ck_inC G) {post : Int32 → ck_S → Prop} {σ : ck_S} {a1 : Int32} {a2 : UInt64} {H : Heap} {locs : List Loc} {ls : Array Slot} (h : sp_L_warm (ck_nc G) (ck_nb G) σ a1 a2 post) (hw : ck_H G s H locs σ) (hl : lv_has ls 5 [(0, .ref (ck_ad G 0 0)), (1, .int a1), (2, .double a2)]) : W p l e ({ frames := 9, cells := 3, slots := 18, locals := 147 } : Room) s m args below meth c H locs 0 0 (MQ below (va_Qi post (ck_Q G) (ck_A G s.heap.size)) args s 3 18 (ck_A G s.heap.size)) (F0 m 0 ls []) := by
  obtain ⟨hx, hb, hr, hml, hown, hts, hlocks⟩ := id X
  unfold sp_L_warm at h
  refine lv_aload_n hx hb dL_warm_0 rfl (lv_at hl 0 rfl) ?_
  refine lv_iload_n hx hb dL_warm_1 rfl (lv_at hl 1 rfl) ?_
  refine lv_dload_n hx hb dL_warm_2 rfl (lv_at hl 2 rfl) ?_
  refine ck_xcallVv (rest := []) ⟨hx, hb, hml, hown, hts⟩ hw hE (hC.1 0 (by decide)) rfl rfl (ct_X6_warm l hlt G hC h) (cwV 2 hts gL_warm_X6_warm rfl rfl rfl (by decide +kernel) ⟨(Nat.le_of_ble_eq_true rfl), (Nat.le_of_ble_eq_true rfl)⟩) rfl hl.1 rfl (Nat.le_of_ble_eq_true rfl) dL_warm_3 ⟨(Nat.le_of_ble_eq_true rfl), (Nat.le_of_ble_eq_true rfl)⟩ ?_ ?_
  · intro E ce q9 σ1x H locs hp hw h1 h2 h3
    rcases hp with ⟨rfl, h⟩ | ⟨rfl, h⟩ | ⟨rfl, h⟩
    · refine vx_catch (name := ck_IOB) hown [] ⟨0, 6, 9, 13⟩ [⟨0, 6, 13, 21⟩, ⟨0, 6, 17, 15⟩] (htab.trans rfl) (fun z hz => by cases hz) rfl (by decide) (hts _ (List.mem_of_getElem? (i := 1) rfl)) (va_Nw.use rfl hE.2.2.1.2.1) h1 h2 h3 ?_
      refine lv_astore (lv' := [(4, .ref q9), (0, .ref (ck_ad G 0 0)), (1, .int a1), (2, .double a2)]) hx hb dL_warm_9 hl (by decide) rfl (fun ls hl => ?_)
      refine lv_iconst (v := 1) hx hb dL_warm_11 (by decide) ?_
      exact ck_iret X hw h dL_warm_12
    · refine vx_catch (name := ck_IAE) hown [⟨0, 6, 9, 13⟩] ⟨0, 6, 13, 21⟩ [⟨0, 6, 17, 15⟩] (htab.trans rfl) (fun z hz => by
        simp only [List.mem_cons, List.not_mem_nil, or_false] at hz
        rcases hz with rfl
        · exact Or.inr ⟨by decide, ck_IOB, hts _ (List.mem_of_getElem? (i := 1) rfl), hE.2.2.2.1.2.2⟩) rfl (by decide) (hts _ (List.mem_of_getElem? (i := 2) rfl)) (va_Nw.use rfl hE.2.2.1.2.2.1) h1 h2 h3 ?_
      refine lv_astore (lv' := [(4, .ref q9), (0, .ref (ck_ad G 0 0)), (1, .int a1), (2, .double a2)]) hx hb dL_warm_13 hl (by decide) rfl (fun ls hl => ?_)
      refine lv_iconst (v := 2) hx hb dL_warm_15 (by decide) ?_
      exact ck_iret X hw h dL_warm_16
    · refine vx_catch (name := ck_ISE) hown [⟨0, 6, 9, 13⟩, ⟨0, 6, 13, 21⟩] ⟨0, 6, 17, 15⟩ [] (htab.trans rfl) (fun z hz => by
        simp only [List.mem_cons, List.not_mem_nil, or_false] at hz
        rcases hz with rfl | rfl
        · exact Or.inr ⟨by decide, ck_IOB, hts _ (List.mem_of_getElem? (i := 1) rfl), hE.2.2.2.1.1⟩
        · exact Or.inr ⟨by decide, ck_IAE, hts _ (List.mem_of_getElem? (i := 2) rfl), hE.2.2.2.1.2.1⟩) rfl (by decide) (hts _ (List.mem_of_getElem? (i := 3) rfl)) (va_Nw.use rfl hE.2.2.1.1) h1 h2 h3 ?_
      refine lv_astore (lv' := [(4, .ref q9), (0, .ref (ck_ad G 0 0)), (1, .int a1), (2, .double a2)]) hx hb dL_warm_17 hl (by decide) rfl (fun ls hl => ?_)
      refine lv_iconst (v := 3) hx hb dL_warm_19 (by decide) ?_
      exact ck_iret X hw h dL_warm_20
  · intro σ1 H locs h hw
    refine lv_goto (tgt := 21) hx hb dL_warm_6 (by decide) ?_
    refine lv_iconst (v := 0) hx hb dL_warm_21 (by decide) ?_
    exact ck_iret X hw h dL_warm_22
set_option maxHeartbeats 4000000 in
set_option maxRecDepth 100000 in
theorem ct_L_warm (l : Launch) (hlt : l.stackTraces = false) (G : ck_G) (hC : ck_inC G) {a1 : Int32} {a2 : UInt64} {σ : ck_S} {post : Int32 → ck_S → Prop} (h : sp_L_warm (ck_nc G) (ck_nb G) σ a1 a2 post) : ck_MEi l yL_warm wsL_warm ({ frames := 9, cells := 3, slots := 18, locals := 147 } : Room) G σ [.ref (ck_ad G 0 0), .int a1, .double a2] post 3 18 := by
  intro sz
  refine va_MetW (cc := cL_warm) (maxL := 5) (ret := (some .int)) (by decide) rfl ?_
  intro p e s m args below meth c s₁ B hml hv
  obtain ⟨rfl, rfl, hw, hE⟩ := ck_enterE hv
  have htab := vx_table (x := yL_warm) B (atoms_spec (ws := wsL_warm) B.pre _ List.mem_cons_self)
  have hl := lv_entry ([.ref (ck_ad G 0 0), .int a1, .double a2]) (n := 5) (Nat.le_of_ble_eq_true rfl)
  rw [lg_entry_eq]
  generalize (lg_sl ([.ref (ck_ad G 0 0), .int a1, .double a2]) ++ List.replicate (5 - (lg_sl ([.ref (ck_ad G 0 0), .int a1, .double a2])).length) Slot.unset).toArray = ls at hl ⊢
  have hl : lv_has ls 5 [(0, .ref (ck_ad G 0 0)), (1, .int a1), (2, .double a2)] := hl
  exact wk_L_warm_0 ⟨B.exec, B.bytes, B.returns, hml, findClass_of_methodNamed B.named, atoms_spec (ws := wsL_warm) B.pre, B.notSynchronized⟩ hlt hE htab hC h hw hl
def sp_L_bus (nc nb : Nat) (σ : ck_S) (a1 : Int32) (post : Int32 → ck_S → Prop) : Prop := sp_X6_bus nc nb σ a1 (fun σ1 => post 0 σ1) (fun E σ1x => (E = ck_IAE ∧ (post 1 σ1x)) ∨ (E = ck_ISE ∧ (post 2 σ1x)))
set_option maxHeartbeats 4000000 in
set_option maxRecDepth 100000 in
theorem wk_L_bus_0 {p : Program} {l : Launch} {e : Env} {s : State} {m : MethodId} {args : Array Value} {below : List Frame} {meth : Method} {c : Code} {G : ck_G} (X : ck_X p s m meth c args cL_bus 3 (some .int) RL wsL_bus) (hlt : l.stackTraces = false) (hE : ck_E (ck_A G s.heap.size) s) (htab : c.exceptionTable.toList = tableOf [(0, 5, 8, 21), (0, 5, 11, 15)]) (hC : ck_inC G) {post : Int32 → ck_S → Prop} {σ : ck_S} {a1 : Int32} {H : Heap} {locs : List Loc} {ls : Array Slot} (h : sp_L_bus (ck_nc G) (ck_nb G) σ a1 post) (hw : ck_H G s H locs σ) (hl : lv_has ls 3 [(0, .ref (ck_ad G 0 0)), (1, .int a1)]) : W p l e ({ frames := 8, cells := 2, slots := 12, locals := 125 } : Room) s m args below meth c H locs 0 0 (MQ below (va_Qi post (ck_Q G) (ck_A G s.heap.size)) args s 2 12 (ck_A G s.heap.size)) (F0 m 0 ls []) := by
  obtain ⟨hx, hb, hr, hml, hown, hts, hlocks⟩ := id X
  unfold sp_L_bus at h
  refine lv_aload_n hx hb dL_bus_0 rfl (lv_at hl 0 rfl) ?_
  refine lv_iload_n hx hb dL_bus_1 rfl (lv_at hl 1 rfl) ?_
  refine ck_xcallVv (rest := []) ⟨hx, hb, hml, hown, hts⟩ hw hE (hC.1 0 (by decide)) rfl rfl (ct_X6_bus l hlt G hC h) (cwV 1 hts gL_bus_X6_bus rfl rfl rfl (by decide +kernel) ⟨(Nat.le_of_ble_eq_true rfl), (Nat.le_of_ble_eq_true rfl)⟩) rfl hl.1 rfl (Nat.le_of_ble_eq_true rfl) dL_bus_2 ⟨(Nat.le_of_ble_eq_true rfl), (Nat.le_of_ble_eq_true rfl)⟩ ?_ ?_
  · intro E ce q9 σ1x H locs hp hw h1 h2 h3
    rcases hp with ⟨rfl, h⟩ | ⟨rfl, h⟩
    · refine vx_catch (name := ck_IAE) hown [] ⟨0, 5, 8, 21⟩ [⟨0, 5, 11, 15⟩] (htab.trans rfl) (fun z hz => by cases hz) rfl (by decide) (hts _ (List.mem_of_getElem? (i := 1) rfl)) (va_Nw.use rfl hE.2.2.1.2.2.1) h1 h2 h3 ?_
      refine lv_astore_n (lv' := [(2, .ref q9), (0, .ref (ck_ad G 0 0)), (1, .int a1)]) hx hb dL_bus_8 rfl hl (by decide) rfl (fun ls hl => ?_)
      refine lv_iconst (v := 1) hx hb dL_bus_9 (by decide) ?_
      exact ck_iret X hw h dL_bus_10
    · refine vx_catch (name := ck_ISE) hown [⟨0, 5, 8, 21⟩] ⟨0, 5, 11, 15⟩ [] (htab.trans rfl) (fun z hz => by
        simp only [List.mem_cons, List.not_mem_nil, or_false] at hz
        rcases hz with rfl
        · exact Or.inr ⟨by decide, ck_IAE, hts _ (List.mem_of_getElem? (i := 1) rfl), hE.2.2.2.1.2.1⟩) rfl (by decide) (hts _ (List.mem_of_getElem? (i := 2) rfl)) (va_Nw.use rfl hE.2.2.1.1) h1 h2 h3 ?_
      refine lv_astore_n (lv' := [(2, .ref q9), (0, .ref (ck_ad G 0 0)), (1, .int a1)]) hx hb dL_bus_11 rfl hl (by decide) rfl (fun ls hl => ?_)
      refine lv_iconst (v := 2) hx hb dL_bus_12 (by decide) ?_
      exact ck_iret X hw h dL_bus_13
  · intro σ1 H locs h hw
    refine lv_goto (tgt := 14) hx hb dL_bus_5 (by decide) ?_
    refine lv_iconst (v := 0) hx hb dL_bus_14 (by decide) ?_
    exact ck_iret X hw h dL_bus_15
set_option maxHeartbeats 4000000 in
set_option maxRecDepth 100000 in
theorem ct_L_bus (l : Launch) (hlt : l.stackTraces = false) (G : ck_G) (hC : ck_inC G) {a1 : Int32} {σ : ck_S} {post : Int32 → ck_S → Prop} (h : sp_L_bus (ck_nc G) (ck_nb G) σ a1 post) : ck_MEi l yL_bus wsL_bus ({ frames := 8, cells := 2, slots := 12, locals := 125 } : Room) G σ [.ref (ck_ad G 0 0), .int a1] post 2 12 := by
  intro sz
  refine va_MetW (cc := cL_bus) (maxL := 3) (ret := (some .int)) (by decide) rfl ?_
  intro p e s m args below meth c s₁ B hml hv
  obtain ⟨rfl, rfl, hw, hE⟩ := ck_enterE hv
  have htab := vx_table (x := yL_bus) B (atoms_spec (ws := wsL_bus) B.pre _ List.mem_cons_self)
  have hl := lv_entry ([.ref (ck_ad G 0 0), .int a1]) (n := 3) (Nat.le_of_ble_eq_true rfl)
  rw [lg_entry_eq]
  generalize (lg_sl ([.ref (ck_ad G 0 0), .int a1]) ++ List.replicate (3 - (lg_sl ([.ref (ck_ad G 0 0), .int a1])).length) Slot.unset).toArray = ls at hl ⊢
  have hl : lv_has ls 3 [(0, .ref (ck_ad G 0 0)), (1, .int a1)] := hl
  exact wk_L_bus_0 ⟨B.exec, B.bytes, B.returns, hml, findClass_of_methodNamed B.named, atoms_spec (ws := wsL_bus) B.pre, B.notSynchronized⟩ hlt hE htab hC h hw hl
def sp_L_want (nc nb : Nat) (σ : ck_S) (a1 : Int32) (post : Int32 → ck_S → Prop) : Prop := sp_X6_want nc nb σ a1 (fun σ1 => post 0 σ1) (fun E σ1x => (E = ck_ISE ∧ (post 1 σ1x)))
set_option maxHeartbeats 4000000 in
set_option maxRecDepth 100000 in
theorem wk_L_want_0 {p : Program} {l : Launch} {e : Env} {s : State} {m : MethodId} {args : Array Value} {below : List Frame} {meth : Method} {c : Code} {G : ck_G} (X : ck_X p s m meth c args cL_want 3 (some .int) RL wsL_want) (hlt : l.stackTraces = false) (hE : ck_E (ck_A G s.heap.size) s) (htab : c.exceptionTable.toList = tableOf [(0, 5, 8, 15)]) (hC : ck_inC G) {post : Int32 → ck_S → Prop} {σ : ck_S} {a1 : Int32} {H : Heap} {locs : List Loc} {ls : Array Slot} (h : sp_L_want (ck_nc G) (ck_nb G) σ a1 post) (hw : ck_H G s H locs σ) (hl : lv_has ls 3 [(0, .ref (ck_ad G 0 0)), (1, .int a1)]) : W p l e ({ frames := 8, cells := 1, slots := 6, locals := 123 } : Room) s m args below meth c H locs 0 0 (MQ below (va_Qi post (ck_Q G) (ck_A G s.heap.size)) args s 1 6 (ck_A G s.heap.size)) (F0 m 0 ls []) := by
  obtain ⟨hx, hb, hr, hml, hown, hts, hlocks⟩ := id X
  unfold sp_L_want at h
  refine lv_aload_n hx hb dL_want_0 rfl (lv_at hl 0 rfl) ?_
  refine lv_iload_n hx hb dL_want_1 rfl (lv_at hl 1 rfl) ?_
  refine ck_xcallVv (rest := []) ⟨hx, hb, hml, hown, hts⟩ hw hE (hC.1 0 (by decide)) rfl rfl (ct_X6_want l hlt G hC h) (cwV 1 hts gL_want_X6_want rfl rfl rfl (by decide +kernel) ⟨(Nat.le_of_ble_eq_true rfl), (Nat.le_of_ble_eq_true rfl)⟩) rfl hl.1 rfl (Nat.le_of_ble_eq_true rfl) dL_want_2 ⟨(Nat.le_of_ble_eq_true rfl), (Nat.le_of_ble_eq_true rfl)⟩ ?_ ?_
  · intro E ce q9 σ1x H locs hp hw h1 h2 h3
    rcases hp with ⟨rfl, h⟩
    · refine vx_catch (name := ck_ISE) hown [] ⟨0, 5, 8, 15⟩ [] (htab.trans rfl) (fun z hz => by cases hz) rfl (by decide) (hts _ (List.mem_of_getElem? (i := 1) rfl)) (va_Nw.use rfl hE.2.2.1.1) h1 h2 h3 ?_
      refine lv_astore_n (lv' := [(2, .ref q9), (0, .ref (ck_ad G 0 0)), (1, .int a1)]) hx hb dL_want_8 rfl hl (by decide) rfl (fun ls hl => ?_)
      refine lv_iconst (v := 1) hx hb dL_want_9 (by decide) ?_
      exact ck_iret X hw h dL_want_10
  · intro σ1 H locs h hw
    refine lv_goto (tgt := 11) hx hb dL_want_5 (by decide) ?_
    refine lv_iconst (v := 0) hx hb dL_want_11 (by decide) ?_
    exact ck_iret X hw h dL_want_12
set_option maxHeartbeats 4000000 in
set_option maxRecDepth 100000 in
theorem ct_L_want (l : Launch) (hlt : l.stackTraces = false) (G : ck_G) (hC : ck_inC G) {a1 : Int32} {σ : ck_S} {post : Int32 → ck_S → Prop} (h : sp_L_want (ck_nc G) (ck_nb G) σ a1 post) : ck_MEi l yL_want wsL_want ({ frames := 8, cells := 1, slots := 6, locals := 123 } : Room) G σ [.ref (ck_ad G 0 0), .int a1] post 1 6 := by
  intro sz
  refine va_MetW (cc := cL_want) (maxL := 3) (ret := (some .int)) (by decide) rfl ?_
  intro p e s m args below meth c s₁ B hml hv
  obtain ⟨rfl, rfl, hw, hE⟩ := ck_enterE hv
  have htab := vx_table (x := yL_want) B (atoms_spec (ws := wsL_want) B.pre _ List.mem_cons_self)
  have hl := lv_entry ([.ref (ck_ad G 0 0), .int a1]) (n := 3) (Nat.le_of_ble_eq_true rfl)
  rw [lg_entry_eq]
  generalize (lg_sl ([.ref (ck_ad G 0 0), .int a1]) ++ List.replicate (3 - (lg_sl ([.ref (ck_ad G 0 0), .int a1])).length) Slot.unset).toArray = ls at hl ⊢
  have hl : lv_has ls 3 [(0, .ref (ck_ad G 0 0)), (1, .int a1)] := hl
  exact wk_L_want_0 ⟨B.exec, B.bytes, B.returns, hml, findClass_of_methodNamed B.named, atoms_spec (ws := wsL_want) B.pre, B.notSynchronized⟩ hlt hE htab hC h hw hl
def sp_L_set (nc nb : Nat) (σ : ck_S) (a1 : UInt64) (post : Int32 → ck_S → Prop) : Prop := sp_X6_set nc nb σ a1 (fun σ1 => post 0 σ1) (fun E σ1x => (E = ck_IAE ∧ (post 1 σ1x)) ∨ (E = ck_ISE ∧ (post 2 σ1x)))
set_option maxHeartbeats 4000000 in
set_option maxRecDepth 100000 in
theorem wk_L_set_0 {p : Program} {l : Launch} {e : Env} {s : State} {m : MethodId} {args : Array Value} {below : List Frame} {meth : Method} {c : Code} {G : ck_G} (X : ck_X p s m meth c args cL_set 4 (some .int) RL wsL_set) (hlt : l.stackTraces = false) (hE : ck_E (ck_A G s.heap.size) s) (htab : c.exceptionTable.toList = tableOf [(0, 5, 8, 21), (0, 5, 11, 15)]) (hC : ck_inC G) {post : Int32 → ck_S → Prop} {σ : ck_S} {a1 : UInt64} {H : Heap} {locs : List Loc} {ls : Array Slot} (h : sp_L_set (ck_nc G) (ck_nb G) σ a1 post) (hw : ck_H G s H locs σ) (hl : lv_has ls 4 [(0, .ref (ck_ad G 0 0)), (1, .double a1)]) : W p l e ({ frames := 8, cells := 2, slots := 12, locals := 128 } : Room) s m args below meth c H locs 0 0 (MQ below (va_Qi post (ck_Q G) (ck_A G s.heap.size)) args s 2 12 (ck_A G s.heap.size)) (F0 m 0 ls []) := by
  obtain ⟨hx, hb, hr, hml, hown, hts, hlocks⟩ := id X
  unfold sp_L_set at h
  refine lv_aload_n hx hb dL_set_0 rfl (lv_at hl 0 rfl) ?_
  refine lv_dload_n hx hb dL_set_1 rfl (lv_at hl 1 rfl) ?_
  refine ck_xcallVv (rest := []) ⟨hx, hb, hml, hown, hts⟩ hw hE (hC.1 0 (by decide)) rfl rfl (ct_X6_set l hlt G hC h) (cwV 1 hts gL_set_X6_set rfl rfl rfl (by decide +kernel) ⟨(Nat.le_of_ble_eq_true rfl), (Nat.le_of_ble_eq_true rfl)⟩) rfl hl.1 rfl (Nat.le_of_ble_eq_true rfl) dL_set_2 ⟨(Nat.le_of_ble_eq_true rfl), (Nat.le_of_ble_eq_true rfl)⟩ ?_ ?_
  · intro E ce q9 σ1x H locs hp hw h1 h2 h3
    rcases hp with ⟨rfl, h⟩ | ⟨rfl, h⟩
    · refine vx_catch (name := ck_IAE) hown [] ⟨0, 5, 8, 21⟩ [⟨0, 5, 11, 15⟩] (htab.trans rfl) (fun z hz => by cases hz) rfl (by decide) (hts _ (List.mem_of_getElem? (i := 1) rfl)) (va_Nw.use rfl hE.2.2.1.2.2.1) h1 h2 h3 ?_
      refine lv_astore_n (lv' := [(3, .ref q9), (0, .ref (ck_ad G 0 0)), (1, .double a1)]) hx hb dL_set_8 rfl hl (by decide) rfl (fun ls hl => ?_)
      refine lv_iconst (v := 1) hx hb dL_set_9 (by decide) ?_
      exact ck_iret X hw h dL_set_10
    · refine vx_catch (name := ck_ISE) hown [⟨0, 5, 8, 21⟩] ⟨0, 5, 11, 15⟩ [] (htab.trans rfl) (fun z hz => by
        simp only [List.mem_cons, List.not_mem_nil, or_false] at hz
        rcases hz with rfl
        · exact Or.inr ⟨by decide, ck_IAE, hts _ (List.mem_of_getElem? (i := 1) rfl), hE.2.2.2.1.2.1⟩) rfl (by decide) (hts _ (List.mem_of_getElem? (i := 2) rfl)) (va_Nw.use rfl hE.2.2.1.1) h1 h2 h3 ?_
      refine lv_astore_n (lv' := [(3, .ref q9), (0, .ref (ck_ad G 0 0)), (1, .double a1)]) hx hb dL_set_11 rfl hl (by decide) rfl (fun ls hl => ?_)
      refine lv_iconst (v := 2) hx hb dL_set_12 (by decide) ?_
      exact ck_iret X hw h dL_set_13
  · intro σ1 H locs h hw
    refine lv_goto (tgt := 14) hx hb dL_set_5 (by decide) ?_
    refine lv_iconst (v := 0) hx hb dL_set_14 (by decide) ?_
    exact ck_iret X hw h dL_set_15
set_option maxHeartbeats 4000000 in
set_option maxRecDepth 100000 in
theorem ct_L_set (l : Launch) (hlt : l.stackTraces = false) (G : ck_G) (hC : ck_inC G) {a1 : UInt64} {σ : ck_S} {post : Int32 → ck_S → Prop} (h : sp_L_set (ck_nc G) (ck_nb G) σ a1 post) : ck_MEi l yL_set wsL_set ({ frames := 8, cells := 2, slots := 12, locals := 128 } : Room) G σ [.ref (ck_ad G 0 0), .double a1] post 2 12 := by
  intro sz
  refine va_MetW (cc := cL_set) (maxL := 4) (ret := (some .int)) (by decide) rfl ?_
  intro p e s m args below meth c s₁ B hml hv
  obtain ⟨rfl, rfl, hw, hE⟩ := ck_enterE hv
  have htab := vx_table (x := yL_set) B (atoms_spec (ws := wsL_set) B.pre _ List.mem_cons_self)
  have hl := lv_entry ([.ref (ck_ad G 0 0), .double a1]) (n := 4) (Nat.le_of_ble_eq_true rfl)
  rw [lg_entry_eq]
  generalize (lg_sl ([.ref (ck_ad G 0 0), .double a1]) ++ List.replicate (4 - (lg_sl ([.ref (ck_ad G 0 0), .double a1])).length) Slot.unset).toArray = ls at hl ⊢
  have hl : lv_has ls 4 [(0, .ref (ck_ad G 0 0)), (1, .double a1)] := hl
  exact wk_L_set_0 ⟨B.exec, B.bytes, B.returns, hml, findClass_of_methodNamed B.named, atoms_spec (ws := wsL_set) B.pre, B.notSynchronized⟩ hlt hE htab hC h hw hl
def sp_L_cut (nc nb : Nat) (σ : ck_S) (a1 : Int32) (post : Int32 → ck_S → Prop) : Prop := sp_X6_cut nc nb σ a1 (fun σ1 => post 0 σ1) (fun E σ1x => (E = ck_IAE ∧ (post 1 σ1x)) ∨ (E = ck_ISE ∧ (post 2 σ1x)))
set_option maxHeartbeats 4000000 in
set_option maxRecDepth 100000 in
theorem wk_L_cut_0 {p : Program} {l : Launch} {e : Env} {s : State} {m : MethodId} {args : Array Value} {below : List Frame} {meth : Method} {c : Code} {G : ck_G} (X : ck_X p s m meth c args cL_cut 3 (some .int) RL wsL_cut) (hlt : l.stackTraces = false) (hE : ck_E (ck_A G s.heap.size) s) (htab : c.exceptionTable.toList = tableOf [(0, 5, 8, 21), (0, 5, 11, 15)]) (hC : ck_inC G) {post : Int32 → ck_S → Prop} {σ : ck_S} {a1 : Int32} {H : Heap} {locs : List Loc} {ls : Array Slot} (h : sp_L_cut (ck_nc G) (ck_nb G) σ a1 post) (hw : ck_H G s H locs σ) (hl : lv_has ls 3 [(0, .ref (ck_ad G 0 0)), (1, .int a1)]) : W p l e ({ frames := 8, cells := 2, slots := 12, locals := 125 } : Room) s m args below meth c H locs 0 0 (MQ below (va_Qi post (ck_Q G) (ck_A G s.heap.size)) args s 2 12 (ck_A G s.heap.size)) (F0 m 0 ls []) := by
  obtain ⟨hx, hb, hr, hml, hown, hts, hlocks⟩ := id X
  unfold sp_L_cut at h
  refine lv_aload_n hx hb dL_cut_0 rfl (lv_at hl 0 rfl) ?_
  refine lv_iload_n hx hb dL_cut_1 rfl (lv_at hl 1 rfl) ?_
  refine ck_xcallVv (rest := []) ⟨hx, hb, hml, hown, hts⟩ hw hE (hC.1 0 (by decide)) rfl rfl (ct_X6_cut l hlt G hC h) (cwV 1 hts gL_cut_X6_cut rfl rfl rfl (by decide +kernel) ⟨(Nat.le_of_ble_eq_true rfl), (Nat.le_of_ble_eq_true rfl)⟩) rfl hl.1 rfl (Nat.le_of_ble_eq_true rfl) dL_cut_2 ⟨(Nat.le_of_ble_eq_true rfl), (Nat.le_of_ble_eq_true rfl)⟩ ?_ ?_
  · intro E ce q9 σ1x H locs hp hw h1 h2 h3
    rcases hp with ⟨rfl, h⟩ | ⟨rfl, h⟩
    · refine vx_catch (name := ck_IAE) hown [] ⟨0, 5, 8, 21⟩ [⟨0, 5, 11, 15⟩] (htab.trans rfl) (fun z hz => by cases hz) rfl (by decide) (hts _ (List.mem_of_getElem? (i := 1) rfl)) (va_Nw.use rfl hE.2.2.1.2.2.1) h1 h2 h3 ?_
      refine lv_astore_n (lv' := [(2, .ref q9), (0, .ref (ck_ad G 0 0)), (1, .int a1)]) hx hb dL_cut_8 rfl hl (by decide) rfl (fun ls hl => ?_)
      refine lv_iconst (v := 1) hx hb dL_cut_9 (by decide) ?_
      exact ck_iret X hw h dL_cut_10
    · refine vx_catch (name := ck_ISE) hown [⟨0, 5, 8, 21⟩] ⟨0, 5, 11, 15⟩ [] (htab.trans rfl) (fun z hz => by
        simp only [List.mem_cons, List.not_mem_nil, or_false] at hz
        rcases hz with rfl
        · exact Or.inr ⟨by decide, ck_IAE, hts _ (List.mem_of_getElem? (i := 1) rfl), hE.2.2.2.1.2.1⟩) rfl (by decide) (hts _ (List.mem_of_getElem? (i := 2) rfl)) (va_Nw.use rfl hE.2.2.1.1) h1 h2 h3 ?_
      refine lv_astore_n (lv' := [(2, .ref q9), (0, .ref (ck_ad G 0 0)), (1, .int a1)]) hx hb dL_cut_11 rfl hl (by decide) rfl (fun ls hl => ?_)
      refine lv_iconst (v := 2) hx hb dL_cut_12 (by decide) ?_
      exact ck_iret X hw h dL_cut_13
  · intro σ1 H locs h hw
    refine lv_goto (tgt := 14) hx hb dL_cut_5 (by decide) ?_
    refine lv_iconst (v := 0) hx hb dL_cut_14 (by decide) ?_
    exact ck_iret X hw h dL_cut_15
set_option maxHeartbeats 4000000 in
set_option maxRecDepth 100000 in
theorem ct_L_cut (l : Launch) (hlt : l.stackTraces = false) (G : ck_G) (hC : ck_inC G) {a1 : Int32} {σ : ck_S} {post : Int32 → ck_S → Prop} (h : sp_L_cut (ck_nc G) (ck_nb G) σ a1 post) : ck_MEi l yL_cut wsL_cut ({ frames := 8, cells := 2, slots := 12, locals := 125 } : Room) G σ [.ref (ck_ad G 0 0), .int a1] post 2 12 := by
  intro sz
  refine va_MetW (cc := cL_cut) (maxL := 3) (ret := (some .int)) (by decide) rfl ?_
  intro p e s m args below meth c s₁ B hml hv
  obtain ⟨rfl, rfl, hw, hE⟩ := ck_enterE hv
  have htab := vx_table (x := yL_cut) B (atoms_spec (ws := wsL_cut) B.pre _ List.mem_cons_self)
  have hl := lv_entry ([.ref (ck_ad G 0 0), .int a1]) (n := 3) (Nat.le_of_ble_eq_true rfl)
  rw [lg_entry_eq]
  generalize (lg_sl ([.ref (ck_ad G 0 0), .int a1]) ++ List.replicate (3 - (lg_sl ([.ref (ck_ad G 0 0), .int a1])).length) Slot.unset).toArray = ls at hl ⊢
  have hl : lv_has ls 3 [(0, .ref (ck_ad G 0 0)), (1, .int a1)] := hl
  exact wk_L_cut_0 ⟨B.exec, B.bytes, B.returns, hml, findClass_of_methodNamed B.named, atoms_spec (ws := wsL_cut) B.pre, B.notSynchronized⟩ hlt hE htab hC h hw hl
def sp_L_spoil (nc nb : Nat) (σ : ck_S) (a1 : Int32) (a2 : Int32) (post : Int32 → ck_S → Prop) : Prop := sp_X6_spoil nc nb σ a1 a2 (fun σ1 => post 0 σ1) (fun E σ1x => (E = ck_IOB ∧ (post 1 σ1x)) ∨ (E = ck_IAE ∧ (post 2 σ1x)))
set_option maxHeartbeats 4000000 in
set_option maxRecDepth 100000 in
theorem wk_L_spoil_0 {p : Program} {l : Launch} {e : Env} {s : State} {m : MethodId} {args : Array Value} {below : List Frame} {meth : Method} {c : Code} {G : ck_G} (X : ck_X p s m meth c args cL_spoil 4 (some .int) RL wsL_spoil) (hlt : l.stackTraces = false) (hE : ck_E (ck_A G s.heap.size) s) (htab : c.exceptionTable.toList = tableOf [(0, 6, 9, 13), (0, 6, 12, 21)]) (hC : ck_inC G) {post : Int32 → ck_S → Prop} {σ : ck_S} {a1 : Int32} {a2 : Int32} {H : Heap} {locs : List Loc} {ls : Array Slot} (h : sp_L_spoil (ck_nc G) (ck_nb G) σ a1 a2 post) (hw : ck_H G s H locs σ) (hl : lv_has ls 4 [(0, .ref (ck_ad G 0 0)), (1, .int a1), (2, .int a2)]) : W p l e ({ frames := 8, cells := 2, slots := 12, locals := 126 } : Room) s m args below meth c H locs 0 0 (MQ below (va_Qi post (ck_Q G) (ck_A G s.heap.size)) args s 2 12 (ck_A G s.heap.size)) (F0 m 0 ls []) := by
  obtain ⟨hx, hb, hr, hml, hown, hts, hlocks⟩ := id X
  unfold sp_L_spoil at h
  refine lv_aload_n hx hb dL_spoil_0 rfl (lv_at hl 0 rfl) ?_
  refine lv_iload_n hx hb dL_spoil_1 rfl (lv_at hl 1 rfl) ?_
  refine lv_iload_n hx hb dL_spoil_2 rfl (lv_at hl 2 rfl) ?_
  refine ck_xcallVv (rest := []) ⟨hx, hb, hml, hown, hts⟩ hw hE (hC.1 0 (by decide)) rfl rfl (ct_X6_spoil l hlt G hC h) (cwV 2 hts gL_spoil_X6_spoil rfl rfl rfl (by decide +kernel) ⟨(Nat.le_of_ble_eq_true rfl), (Nat.le_of_ble_eq_true rfl)⟩) rfl hl.1 rfl (Nat.le_of_ble_eq_true rfl) dL_spoil_3 ⟨(Nat.le_of_ble_eq_true rfl), (Nat.le_of_ble_eq_true rfl)⟩ ?_ ?_
  · intro E ce q9 σ1x H locs hp hw h1 h2 h3
    rcases hp with ⟨rfl, h⟩ | ⟨rfl, h⟩
    · refine vx_catch (name := ck_IOB) hown [] ⟨0, 6, 9, 13⟩ [⟨0, 6, 12, 21⟩] (htab.trans rfl) (fun z hz => by cases hz) rfl (by decide) (hts _ (List.mem_of_getElem? (i := 1) rfl)) (va_Nw.use rfl hE.2.2.1.2.1) h1 h2 h3 ?_
      refine lv_astore_n (lv' := [(3, .ref q9), (0, .ref (ck_ad G 0 0)), (1, .int a1), (2, .int a2)]) hx hb dL_spoil_9 rfl hl (by decide) rfl (fun ls hl => ?_)
      refine lv_iconst (v := 1) hx hb dL_spoil_10 (by decide) ?_
      exact ck_iret X hw h dL_spoil_11
    · refine vx_catch (name := ck_IAE) hown [⟨0, 6, 9, 13⟩] ⟨0, 6, 12, 21⟩ [] (htab.trans rfl) (fun z hz => by
        simp only [List.mem_cons, List.not_mem_nil, or_false] at hz
        rcases hz with rfl
        · exact Or.inr ⟨by decide, ck_IOB, hts _ (List.mem_of_getElem? (i := 1) rfl), hE.2.2.2.1.2.2⟩) rfl (by decide) (hts _ (List.mem_of_getElem? (i := 2) rfl)) (va_Nw.use rfl hE.2.2.1.2.2.1) h1 h2 h3 ?_
      refine lv_astore_n (lv' := [(3, .ref q9), (0, .ref (ck_ad G 0 0)), (1, .int a1), (2, .int a2)]) hx hb dL_spoil_12 rfl hl (by decide) rfl (fun ls hl => ?_)
      refine lv_iconst (v := 2) hx hb dL_spoil_13 (by decide) ?_
      exact ck_iret X hw h dL_spoil_14
  · intro σ1 H locs h hw
    refine lv_goto (tgt := 15) hx hb dL_spoil_6 (by decide) ?_
    refine lv_iconst (v := 0) hx hb dL_spoil_15 (by decide) ?_
    exact ck_iret X hw h dL_spoil_16
set_option maxHeartbeats 4000000 in
set_option maxRecDepth 100000 in
theorem ct_L_spoil (l : Launch) (hlt : l.stackTraces = false) (G : ck_G) (hC : ck_inC G) {a1 : Int32} {a2 : Int32} {σ : ck_S} {post : Int32 → ck_S → Prop} (h : sp_L_spoil (ck_nc G) (ck_nb G) σ a1 a2 post) : ck_MEi l yL_spoil wsL_spoil ({ frames := 8, cells := 2, slots := 12, locals := 126 } : Room) G σ [.ref (ck_ad G 0 0), .int a1, .int a2] post 2 12 := by
  intro sz
  refine va_MetW (cc := cL_spoil) (maxL := 4) (ret := (some .int)) (by decide) rfl ?_
  intro p e s m args below meth c s₁ B hml hv
  obtain ⟨rfl, rfl, hw, hE⟩ := ck_enterE hv
  have htab := vx_table (x := yL_spoil) B (atoms_spec (ws := wsL_spoil) B.pre _ List.mem_cons_self)
  have hl := lv_entry ([.ref (ck_ad G 0 0), .int a1, .int a2]) (n := 4) (Nat.le_of_ble_eq_true rfl)
  rw [lg_entry_eq]
  generalize (lg_sl ([.ref (ck_ad G 0 0), .int a1, .int a2]) ++ List.replicate (4 - (lg_sl ([.ref (ck_ad G 0 0), .int a1, .int a2])).length) Slot.unset).toArray = ls at hl ⊢
  have hl : lv_has ls 4 [(0, .ref (ck_ad G 0 0)), (1, .int a1), (2, .int a2)] := hl
  exact wk_L_spoil_0 ⟨B.exec, B.bytes, B.returns, hml, findClass_of_methodNamed B.named, atoms_spec (ws := wsL_spoil) B.pre, B.notSynchronized⟩ hlt hE htab hC h hw hl
def sp_L_reply_19 (nc nb : Nat) (post : Int32 → ck_S → Prop) (σ : ck_S) (s0 : Int64) (s1 : Int32) : Prop := (vp_in s1 1) ∧ ∀ σ2, σ2 = ck_uj σ 21 0 (Int32.toNatClampNeg s1) s0 → post 0 σ2
def sp_L_reply (nc nb : Nat) (σ : ck_S) (a1 : Int32) (a2 : Int64) (a3 : Int64) (post : Int32 → ck_S → Prop) : Prop := sp_X6_reply nc nb σ a1 a2 a3 (fun x_2 σ1 => ((x_2 = 0 → (sp_L_reply_19 nc nb post σ1 0 0)) ∧ (¬ x_2 = 0 → (sp_L_reply_19 nc nb post σ1 1 0)))) (fun E σ1x => (E = ck_IOB ∧ (post 1 σ1x)) ∨ (E = ck_ISE ∧ (post 2 σ1x)))
set_option maxHeartbeats 4000000 in
set_option maxRecDepth 100000 in
theorem wk_L_reply_19 {p : Program} {l : Launch} {e : Env} {s : State} {m : MethodId} {args : Array Value} {below : List Frame} {meth : Method} {c : Code} {G : ck_G} (X : ck_X p s m meth c args cL_reply 8 (some .int) RL wsL_reply) (hlt : l.stackTraces = false) (hE : ck_E (ck_A G s.heap.size) s) (htab : c.exceptionTable.toList = tableOf [(0, 20, 23, 13), (0, 20, 27, 15)]) (hO21 : (21, 0) ∈ ck_Ls G) (hC : ck_inC G) {post : Int32 → ck_S → Prop} {σ : ck_S} {s0 : Int64} {s1 : Int32} {H : Heap} {locs : List Loc} {ls : Array Slot} (h : sp_L_reply_19 (ck_nc G) (ck_nb G) post σ s0 s1) (hw : ck_H G s H locs σ) (hl : lv_has ls 8 []) : W p l e ({ frames := 9, cells := 2, slots := 12, locals := 149 } : Room) s m args below meth c H locs 2 12 (MQ below (va_Qi post (ck_Q G) (ck_A G s.heap.size)) args s 2 12 (ck_A G s.heap.size)) (F0 m 19 ls [.long s0, .int s1, .ref (ck_ad G 21 0)]) := by
  obtain ⟨hx, hb, hr, hml, hown, hts, hlocks⟩ := id X
  unfold sp_L_reply_19 at h
  obtain ⟨n1, h⟩ := h
  refine ck_last hx hb hw hO21 (fun _ => rfl) n1 dL_reply_19 (fun H locs hw => ?_)
  obtain ⟨σ2, eσ2⟩ : ∃ z : ck_S, z = ck_uj σ 21 0 (Int32.toNatClampNeg s1) s0 := ⟨_, rfl⟩
  rw [← eσ2] at hw
  have h := h σ2 eσ2
  refine lv_goto (tgt := 31) hx hb dL_reply_20 (by decide) ?_
  refine lv_iconst (v := 0) hx hb dL_reply_31 (by decide) ?_
  exact ck_iret X hw h dL_reply_32
set_option maxHeartbeats 4000000 in
set_option maxRecDepth 100000 in
theorem wk_L_reply_0 {p : Program} {l : Launch} {e : Env} {s : State} {m : MethodId} {args : Array Value} {below : List Frame} {meth : Method} {c : Code} {G : ck_G} (X : ck_X p s m meth c args cL_reply 8 (some .int) RL wsL_reply) (hlt : l.stackTraces = false) (hE : ck_E (ck_A G s.heap.size) s) (htab : c.exceptionTable.toList = tableOf [(0, 20, 23, 13), (0, 20, 27, 15)]) (hO21 : (21, 0) ∈ ck_Ls G) (hC : ck_inC G) {post : Int32 → ck_S → Prop} {σ : ck_S} {a1 : Int32} {a2 : Int64} {a3 : Int64} {H : Heap} {locs : List Loc} {ls : Array Slot} (h : sp_L_reply (ck_nc G) (ck_nb G) σ a1 a2 a3 post) (hw : ck_H G s H locs σ) (hl : lv_has ls 8 [(0, .ref (ck_ad G 0 0)), (1, .int a1), (2, .long a2), (4, .long a3), (6, .ref (ck_ad G 21 0))]) : W p l e ({ frames := 9, cells := 2, slots := 12, locals := 149 } : Room) s m args below meth c H locs 0 0 (MQ below (va_Qi post (ck_Q G) (ck_A G s.heap.size)) args s 2 12 (ck_A G s.heap.size)) (F0 m 0 ls []) := by
  obtain ⟨hx, hb, hr, hml, hown, hts, hlocks⟩ := id X
  unfold sp_L_reply at h
  refine lv_aload hx hb dL_reply_0 (lv_at hl 4 rfl) ?_
  refine lv_iconst (v := 0) hx hb dL_reply_2 (by decide) ?_
  refine lv_aload_n hx hb dL_reply_3 rfl (lv_at hl 0 rfl) ?_
  refine lv_iload_n hx hb dL_reply_4 rfl (lv_at hl 1 rfl) ?_
  refine lv_lload_n hx hb dL_reply_5 rfl (lv_at hl 2 rfl) ?_
  refine lv_lload hx hb dL_reply_6 (lv_at hl 3 rfl) ?_
  refine ck_xcallVi (rest := [.int 0, .ref (ck_ad G 21 0)]) ⟨hx, hb, hml, hown, hts⟩ hw hE (hC.1 0 (by decide)) rfl rfl (ct_X6_reply l hlt G hC h) (cwV 3 hts gL_reply_X6_reply rfl rfl rfl (by decide +kernel) ⟨(Nat.le_of_ble_eq_true rfl), (Nat.le_of_ble_eq_true rfl)⟩) rfl hl.1 rfl (Nat.le_of_ble_eq_true rfl) dL_reply_8 ⟨(Nat.le_of_ble_eq_true rfl), (Nat.le_of_ble_eq_true rfl)⟩ ?_ ?_
  · intro E ce q9 σ1x H locs hp hw h1 h2 h3
    rcases hp with ⟨rfl, h⟩ | ⟨rfl, h⟩
    · refine vx_catch (name := ck_IOB) hown [] ⟨0, 20, 23, 13⟩ [⟨0, 20, 27, 15⟩] (htab.trans rfl) (fun z hz => by cases hz) rfl (by decide) (hts _ (List.mem_of_getElem? (i := 1) rfl)) (va_Nw.use rfl hE.2.2.1.2.1) h1 h2 h3 ?_
      refine lv_astore (lv' := [(7, .ref q9), (0, .ref (ck_ad G 0 0)), (1, .int a1), (2, .long a2), (4, .long a3), (6, .ref (ck_ad G 21 0))]) hx hb dL_reply_23 hl (by decide) rfl (fun ls hl => ?_)
      refine lv_iconst (v := 1) hx hb dL_reply_25 (by decide) ?_
      exact ck_iret X hw h dL_reply_26
    · refine vx_catch (name := ck_ISE) hown [⟨0, 20, 23, 13⟩] ⟨0, 20, 27, 15⟩ [] (htab.trans rfl) (fun z hz => by
        simp only [List.mem_cons, List.not_mem_nil, or_false] at hz
        rcases hz with rfl
        · exact Or.inr ⟨by decide, ck_IOB, hts _ (List.mem_of_getElem? (i := 1) rfl), hE.2.2.2.1.1⟩) rfl (by decide) (hts _ (List.mem_of_getElem? (i := 2) rfl)) (va_Nw.use rfl hE.2.2.1.1) h1 h2 h3 ?_
      refine lv_astore (lv' := [(7, .ref q9), (0, .ref (ck_ad G 0 0)), (1, .int a1), (2, .long a2), (4, .long a3), (6, .ref (ck_ad G 21 0))]) hx hb dL_reply_27 hl (by decide) rfl (fun ls hl => ?_)
      refine lv_iconst (v := 2) hx hb dL_reply_29 (by decide) ?_
      exact ck_iret X hw h dL_reply_30
  · intro x_2 σ1 H locs h hw
    obtain ⟨hA, hB⟩ := h
    refine lv_if_eq (tgt := 18) hx hb dL_reply_11 (by decide) (fun c3 => ?_) (fun c3 => ?_)
    · have h := hA c3
      refine lv_lconst (v := 0) hx hb dL_reply_18 (by decide) ?_
      exact wk_L_reply_19 X hlt hE htab hO21 hC h hw (lv_sub hl [] rfl)
    · have h := hB c3
      refine lv_lconst (v := 1) hx hb dL_reply_14 (by decide) ?_
      refine lv_goto (tgt := 19) hx hb dL_reply_15 (by decide) ?_
      exact wk_L_reply_19 X hlt hE htab hO21 hC h hw (lv_sub hl [] rfl)
set_option maxHeartbeats 4000000 in
set_option maxRecDepth 100000 in
theorem ct_L_reply (l : Launch) (hlt : l.stackTraces = false) (G : ck_G) (hO21 : (21, 0) ∈ ck_Ls G) (hC : ck_inC G) {a1 : Int32} {a2 : Int64} {a3 : Int64} {σ : ck_S} {post : Int32 → ck_S → Prop} (h : sp_L_reply (ck_nc G) (ck_nb G) σ a1 a2 a3 post) : ck_MEi l yL_reply wsL_reply ({ frames := 9, cells := 2, slots := 12, locals := 149 } : Room) G σ [.ref (ck_ad G 0 0), .int a1, .long a2, .long a3, .ref (ck_ad G 21 0)] post 2 12 := by
  intro sz
  refine va_MetW (cc := cL_reply) (maxL := 8) (ret := (some .int)) (by decide) rfl ?_
  intro p e s m args below meth c s₁ B hml hv
  obtain ⟨rfl, rfl, hw, hE⟩ := ck_enterE hv
  have htab := vx_table (x := yL_reply) B (atoms_spec (ws := wsL_reply) B.pre _ List.mem_cons_self)
  have hl := lv_entry ([.ref (ck_ad G 0 0), .int a1, .long a2, .long a3, .ref (ck_ad G 21 0)]) (n := 8) (Nat.le_of_ble_eq_true rfl)
  rw [lg_entry_eq]
  generalize (lg_sl ([.ref (ck_ad G 0 0), .int a1, .long a2, .long a3, .ref (ck_ad G 21 0)]) ++ List.replicate (8 - (lg_sl ([.ref (ck_ad G 0 0), .int a1, .long a2, .long a3, .ref (ck_ad G 21 0)])).length) Slot.unset).toArray = ls at hl ⊢
  have hl : lv_has ls 8 [(0, .ref (ck_ad G 0 0)), (1, .int a1), (2, .long a2), (4, .long a3), (6, .ref (ck_ad G 21 0))] := hl
  exact wk_L_reply_0 ⟨B.exec, B.bytes, B.returns, hml, findClass_of_methodNamed B.named, atoms_spec (ws := wsL_reply) B.pre, B.notSynchronized⟩ hlt hE htab hO21 hC h hw hl
def sp_L_tick (nc nb : Nat) (σ : ck_S) (a1 : Int32) (post : Int32 → ck_S → Prop) : Prop := sp_X6_tick nc nb σ a1 (fun x_2 σ1 => (vp_in 0 1) ∧ ∀ σ4, σ4 = ck_uj σ1 21 0 (Int32.toNatClampNeg 0) (x_2.toInt64) → post 0 σ4) (fun E σ1x => (E = ck_IAE ∧ (post 1 σ1x)) ∨ (E = ck_ISE ∧ (post 2 σ1x)))
set_option maxHeartbeats 4000000 in
set_option maxRecDepth 100000 in
theorem wk_L_tick_0 {p : Program} {l : Launch} {e : Env} {s : State} {m : MethodId} {args : Array Value} {below : List Frame} {meth : Method} {c : Code} {G : ck_G} (X : ck_X p s m meth c args cL_tick 4 (some .int) RL wsL_tick) (hlt : l.stackTraces = false) (hE : ck_E (ck_A G s.heap.size) s) (htab : c.exceptionTable.toList = tableOf [(0, 9, 12, 21), (0, 9, 15, 15)]) (hO21 : (21, 0) ∈ ck_Ls G) (hC : ck_inC G) {post : Int32 → ck_S → Prop} {σ : ck_S} {a1 : Int32} {H : Heap} {locs : List Loc} {ls : Array Slot} (h : sp_L_tick (ck_nc G) (ck_nb G) σ a1 post) (hw : ck_H G s H locs σ) (hl : lv_has ls 4 [(0, .ref (ck_ad G 0 0)), (1, .int a1), (2, .ref (ck_ad G 21 0))]) : W p l e ({ frames := 8, cells := 2, slots := 12, locals := 169 } : Room) s m args below meth c H locs 0 0 (MQ below (va_Qi post (ck_Q G) (ck_A G s.heap.size)) args s 2 12 (ck_A G s.heap.size)) (F0 m 0 ls []) := by
  obtain ⟨hx, hb, hr, hml, hown, hts, hlocks⟩ := id X
  unfold sp_L_tick at h
  refine lv_aload_n hx hb dL_tick_0 rfl (lv_at hl 2 rfl) ?_
  refine lv_iconst (v := 0) hx hb dL_tick_1 (by decide) ?_
  refine lv_aload_n hx hb dL_tick_2 rfl (lv_at hl 0 rfl) ?_
  refine lv_iload_n hx hb dL_tick_3 rfl (lv_at hl 1 rfl) ?_
  refine ck_xcallVi (rest := [.int 0, .ref (ck_ad G 21 0)]) ⟨hx, hb, hml, hown, hts⟩ hw hE (hC.1 0 (by decide)) rfl rfl (ct_X6_tick l hlt G hC h) (cwV 1 hts gL_tick_X6_tick rfl rfl rfl (by decide +kernel) ⟨(Nat.le_of_ble_eq_true rfl), (Nat.le_of_ble_eq_true rfl)⟩) rfl hl.1 rfl (Nat.le_of_ble_eq_true rfl) dL_tick_4 ⟨(Nat.le_of_ble_eq_true rfl), (Nat.le_of_ble_eq_true rfl)⟩ ?_ ?_
  · intro E ce q9 σ1x H locs hp hw h1 h2 h3
    rcases hp with ⟨rfl, h⟩ | ⟨rfl, h⟩
    · refine vx_catch (name := ck_IAE) hown [] ⟨0, 9, 12, 21⟩ [⟨0, 9, 15, 15⟩] (htab.trans rfl) (fun z hz => by cases hz) rfl (by decide) (hts _ (List.mem_of_getElem? (i := 1) rfl)) (va_Nw.use rfl hE.2.2.1.2.2.1) h1 h2 h3 ?_
      refine lv_astore_n (lv' := [(3, .ref q9), (0, .ref (ck_ad G 0 0)), (1, .int a1), (2, .ref (ck_ad G 21 0))]) hx hb dL_tick_12 rfl hl (by decide) rfl (fun ls hl => ?_)
      refine lv_iconst (v := 1) hx hb dL_tick_13 (by decide) ?_
      exact ck_iret X hw h dL_tick_14
    · refine vx_catch (name := ck_ISE) hown [⟨0, 9, 12, 21⟩] ⟨0, 9, 15, 15⟩ [] (htab.trans rfl) (fun z hz => by
        simp only [List.mem_cons, List.not_mem_nil, or_false] at hz
        rcases hz with rfl
        · exact Or.inr ⟨by decide, ck_IAE, hts _ (List.mem_of_getElem? (i := 1) rfl), hE.2.2.2.1.2.1⟩) rfl (by decide) (hts _ (List.mem_of_getElem? (i := 2) rfl)) (va_Nw.use rfl hE.2.2.1.1) h1 h2 h3 ?_
      refine lv_astore_n (lv' := [(3, .ref q9), (0, .ref (ck_ad G 0 0)), (1, .int a1), (2, .ref (ck_ad G 21 0))]) hx hb dL_tick_15 rfl hl (by decide) rfl (fun ls hl => ?_)
      refine lv_iconst (v := 2) hx hb dL_tick_16 (by decide) ?_
      exact ck_iret X hw h dL_tick_17
  · intro x_2 σ1 H locs h hw
    refine lv_i2l hx hb dL_tick_7 rfl ?_
    obtain ⟨n3, h⟩ := h
    refine ck_last hx hb hw hO21 (fun _ => rfl) n3 dL_tick_8 (fun H locs hw => ?_)
    obtain ⟨σ4, eσ4⟩ : ∃ z : ck_S, z = ck_uj σ1 21 0 (Int32.toNatClampNeg 0) (x_2.toInt64) := ⟨_, rfl⟩
    rw [← eσ4] at hw
    have h := h σ4 eσ4
    refine lv_goto (tgt := 18) hx hb dL_tick_9 (by decide) ?_
    refine lv_iconst (v := 0) hx hb dL_tick_18 (by decide) ?_
    exact ck_iret X hw h dL_tick_19
set_option maxHeartbeats 4000000 in
set_option maxRecDepth 100000 in
theorem ct_L_tick (l : Launch) (hlt : l.stackTraces = false) (G : ck_G) (hO21 : (21, 0) ∈ ck_Ls G) (hC : ck_inC G) {a1 : Int32} {σ : ck_S} {post : Int32 → ck_S → Prop} (h : sp_L_tick (ck_nc G) (ck_nb G) σ a1 post) : ck_MEi l yL_tick wsL_tick ({ frames := 8, cells := 2, slots := 12, locals := 169 } : Room) G σ [.ref (ck_ad G 0 0), .int a1, .ref (ck_ad G 21 0)] post 2 12 := by
  intro sz
  refine va_MetW (cc := cL_tick) (maxL := 4) (ret := (some .int)) (by decide) rfl ?_
  intro p e s m args below meth c s₁ B hml hv
  obtain ⟨rfl, rfl, hw, hE⟩ := ck_enterE hv
  have htab := vx_table (x := yL_tick) B (atoms_spec (ws := wsL_tick) B.pre _ List.mem_cons_self)
  have hl := lv_entry ([.ref (ck_ad G 0 0), .int a1, .ref (ck_ad G 21 0)]) (n := 4) (Nat.le_of_ble_eq_true rfl)
  rw [lg_entry_eq]
  generalize (lg_sl ([.ref (ck_ad G 0 0), .int a1, .ref (ck_ad G 21 0)]) ++ List.replicate (4 - (lg_sl ([.ref (ck_ad G 0 0), .int a1, .ref (ck_ad G 21 0)])).length) Slot.unset).toArray = ls at hl ⊢
  have hl : lv_has ls 4 [(0, .ref (ck_ad G 0 0)), (1, .int a1), (2, .ref (ck_ad G 21 0))] := hl
  exact wk_L_tick_0 ⟨B.exec, B.bytes, B.returns, hml, findClass_of_methodNamed B.named, atoms_spec (ws := wsL_tick) B.pre, B.notSynchronized⟩ hlt hE htab hO21 hC h hw hl
def sp_L_reset_15 (nc nb : Nat) (post : Int32 → ck_S → Prop) (σ : ck_S) (s0 : Int64) (s1 : Int32) : Prop := (vp_in s1 1) ∧ ∀ σ2, σ2 = ck_uj σ 21 0 (Int32.toNatClampNeg s1) s0 → post 0 σ2
def sp_L_reset (nc nb : Nat) (σ : ck_S) (a1 : Int32) (post : Int32 → ck_S → Prop) : Prop := sp_X6_reset nc nb σ a1 (fun x_2 σ1 => ((x_2 = 0 → (sp_L_reset_15 nc nb post σ1 0 0)) ∧ (¬ x_2 = 0 → (sp_L_reset_15 nc nb post σ1 1 0)))) (fun E σ1x => (E = ck_IOB ∧ (post 1 σ1x)) ∨ (E = ck_ISE ∧ (post 2 σ1x)))
set_option maxHeartbeats 4000000 in
set_option maxRecDepth 100000 in
theorem wk_L_reset_15 {p : Program} {l : Launch} {e : Env} {s : State} {m : MethodId} {args : Array Value} {below : List Frame} {meth : Method} {c : Code} {G : ck_G} (X : ck_X p s m meth c args cL_reset 4 (some .int) RL wsL_reset) (hlt : l.stackTraces = false) (hE : ck_E (ck_A G s.heap.size) s) (htab : c.exceptionTable.toList = tableOf [(0, 16, 19, 13), (0, 16, 22, 15)]) (hO21 : (21, 0) ∈ ck_Ls G) (hC : ck_inC G) {post : Int32 → ck_S → Prop} {σ : ck_S} {s0 : Int64} {s1 : Int32} {H : Heap} {locs : List Loc} {ls : Array Slot} (h : sp_L_reset_15 (ck_nc G) (ck_nb G) post σ s0 s1) (hw : ck_H G s H locs σ) (hl : lv_has ls 4 []) : W p l e ({ frames := 8, cells := 2, slots := 12, locals := 124 } : Room) s m args below meth c H locs 2 12 (MQ below (va_Qi post (ck_Q G) (ck_A G s.heap.size)) args s 2 12 (ck_A G s.heap.size)) (F0 m 15 ls [.long s0, .int s1, .ref (ck_ad G 21 0)]) := by
  obtain ⟨hx, hb, hr, hml, hown, hts, hlocks⟩ := id X
  unfold sp_L_reset_15 at h
  obtain ⟨n1, h⟩ := h
  refine ck_last hx hb hw hO21 (fun _ => rfl) n1 dL_reset_15 (fun H locs hw => ?_)
  obtain ⟨σ2, eσ2⟩ : ∃ z : ck_S, z = ck_uj σ 21 0 (Int32.toNatClampNeg s1) s0 := ⟨_, rfl⟩
  rw [← eσ2] at hw
  have h := h σ2 eσ2
  refine lv_goto (tgt := 25) hx hb dL_reset_16 (by decide) ?_
  refine lv_iconst (v := 0) hx hb dL_reset_25 (by decide) ?_
  exact ck_iret X hw h dL_reset_26
set_option maxHeartbeats 4000000 in
set_option maxRecDepth 100000 in
theorem wk_L_reset_0 {p : Program} {l : Launch} {e : Env} {s : State} {m : MethodId} {args : Array Value} {below : List Frame} {meth : Method} {c : Code} {G : ck_G} (X : ck_X p s m meth c args cL_reset 4 (some .int) RL wsL_reset) (hlt : l.stackTraces = false) (hE : ck_E (ck_A G s.heap.size) s) (htab : c.exceptionTable.toList = tableOf [(0, 16, 19, 13), (0, 16, 22, 15)]) (hO21 : (21, 0) ∈ ck_Ls G) (hC : ck_inC G) {post : Int32 → ck_S → Prop} {σ : ck_S} {a1 : Int32} {H : Heap} {locs : List Loc} {ls : Array Slot} (h : sp_L_reset (ck_nc G) (ck_nb G) σ a1 post) (hw : ck_H G s H locs σ) (hl : lv_has ls 4 [(0, .ref (ck_ad G 0 0)), (1, .int a1), (2, .ref (ck_ad G 21 0))]) : W p l e ({ frames := 8, cells := 2, slots := 12, locals := 124 } : Room) s m args below meth c H locs 0 0 (MQ below (va_Qi post (ck_Q G) (ck_A G s.heap.size)) args s 2 12 (ck_A G s.heap.size)) (F0 m 0 ls []) := by
  obtain ⟨hx, hb, hr, hml, hown, hts, hlocks⟩ := id X
  unfold sp_L_reset at h
  refine lv_aload_n hx hb dL_reset_0 rfl (lv_at hl 2 rfl) ?_
  refine lv_iconst (v := 0) hx hb dL_reset_1 (by decide) ?_
  refine lv_aload_n hx hb dL_reset_2 rfl (lv_at hl 0 rfl) ?_
  refine lv_iload_n hx hb dL_reset_3 rfl (lv_at hl 1 rfl) ?_
  refine ck_xcallVi (rest := [.int 0, .ref (ck_ad G 21 0)]) ⟨hx, hb, hml, hown, hts⟩ hw hE (hC.1 0 (by decide)) rfl rfl (ct_X6_reset l hlt G hC h) (cwV 1 hts gL_reset_X6_reset rfl rfl rfl (by decide +kernel) ⟨(Nat.le_of_ble_eq_true rfl), (Nat.le_of_ble_eq_true rfl)⟩) rfl hl.1 rfl (Nat.le_of_ble_eq_true rfl) dL_reset_4 ⟨(Nat.le_of_ble_eq_true rfl), (Nat.le_of_ble_eq_true rfl)⟩ ?_ ?_
  · intro E ce q9 σ1x H locs hp hw h1 h2 h3
    rcases hp with ⟨rfl, h⟩ | ⟨rfl, h⟩
    · refine vx_catch (name := ck_IOB) hown [] ⟨0, 16, 19, 13⟩ [⟨0, 16, 22, 15⟩] (htab.trans rfl) (fun z hz => by cases hz) rfl (by decide) (hts _ (List.mem_of_getElem? (i := 1) rfl)) (va_Nw.use rfl hE.2.2.1.2.1) h1 h2 h3 ?_
      refine lv_astore_n (lv' := [(3, .ref q9), (0, .ref (ck_ad G 0 0)), (1, .int a1), (2, .ref (ck_ad G 21 0))]) hx hb dL_reset_19 rfl hl (by decide) rfl (fun ls hl => ?_)
      refine lv_iconst (v := 1) hx hb dL_reset_20 (by decide) ?_
      exact ck_iret X hw h dL_reset_21
    · refine vx_catch (name := ck_ISE) hown [⟨0, 16, 19, 13⟩] ⟨0, 16, 22, 15⟩ [] (htab.trans rfl) (fun z hz => by
        simp only [List.mem_cons, List.not_mem_nil, or_false] at hz
        rcases hz with rfl
        · exact Or.inr ⟨by decide, ck_IOB, hts _ (List.mem_of_getElem? (i := 1) rfl), hE.2.2.2.1.1⟩) rfl (by decide) (hts _ (List.mem_of_getElem? (i := 2) rfl)) (va_Nw.use rfl hE.2.2.1.1) h1 h2 h3 ?_
      refine lv_astore_n (lv' := [(3, .ref q9), (0, .ref (ck_ad G 0 0)), (1, .int a1), (2, .ref (ck_ad G 21 0))]) hx hb dL_reset_22 rfl hl (by decide) rfl (fun ls hl => ?_)
      refine lv_iconst (v := 2) hx hb dL_reset_23 (by decide) ?_
      exact ck_iret X hw h dL_reset_24
  · intro x_2 σ1 H locs h hw
    obtain ⟨hA, hB⟩ := h
    refine lv_if_eq (tgt := 14) hx hb dL_reset_7 (by decide) (fun c3 => ?_) (fun c3 => ?_)
    · have h := hA c3
      refine lv_lconst (v := 0) hx hb dL_reset_14 (by decide) ?_
      exact wk_L_reset_15 X hlt hE htab hO21 hC h hw (lv_sub hl [] rfl)
    · have h := hB c3
      refine lv_lconst (v := 1) hx hb dL_reset_10 (by decide) ?_
      refine lv_goto (tgt := 15) hx hb dL_reset_11 (by decide) ?_
      exact wk_L_reset_15 X hlt hE htab hO21 hC h hw (lv_sub hl [] rfl)
set_option maxHeartbeats 4000000 in
set_option maxRecDepth 100000 in
theorem ct_L_reset (l : Launch) (hlt : l.stackTraces = false) (G : ck_G) (hO21 : (21, 0) ∈ ck_Ls G) (hC : ck_inC G) {a1 : Int32} {σ : ck_S} {post : Int32 → ck_S → Prop} (h : sp_L_reset (ck_nc G) (ck_nb G) σ a1 post) : ck_MEi l yL_reset wsL_reset ({ frames := 8, cells := 2, slots := 12, locals := 124 } : Room) G σ [.ref (ck_ad G 0 0), .int a1, .ref (ck_ad G 21 0)] post 2 12 := by
  intro sz
  refine va_MetW (cc := cL_reset) (maxL := 4) (ret := (some .int)) (by decide) rfl ?_
  intro p e s m args below meth c s₁ B hml hv
  obtain ⟨rfl, rfl, hw, hE⟩ := ck_enterE hv
  have htab := vx_table (x := yL_reset) B (atoms_spec (ws := wsL_reset) B.pre _ List.mem_cons_self)
  have hl := lv_entry ([.ref (ck_ad G 0 0), .int a1, .ref (ck_ad G 21 0)]) (n := 4) (Nat.le_of_ble_eq_true rfl)
  rw [lg_entry_eq]
  generalize (lg_sl ([.ref (ck_ad G 0 0), .int a1, .ref (ck_ad G 21 0)]) ++ List.replicate (4 - (lg_sl ([.ref (ck_ad G 0 0), .int a1, .ref (ck_ad G 21 0)])).length) Slot.unset).toArray = ls at hl ⊢
  have hl : lv_has ls 4 [(0, .ref (ck_ad G 0 0)), (1, .int a1), (2, .ref (ck_ad G 21 0))] := hl
  exact wk_L_reset_0 ⟨B.exec, B.bytes, B.returns, hml, findClass_of_methodNamed B.named, atoms_spec (ws := wsL_reset) B.pre, B.notSynchronized⟩ hlt hE htab hO21 hC h hw hl
def sp_L_time (nc nb : Nat) (σ : ck_S) (post : Int32 → ck_S → Prop) : Prop := sp_X6_time nc nb σ (fun x_2 σ1 => (vp_in 0 1) ∧ ∀ σ4, σ4 = ck_uj σ1 21 0 (Int32.toNatClampNeg 0) (x_2.toInt64) → post 0 σ4) (fun E σ1x => (E = ck_ISE ∧ (post 1 σ1x)))
set_option maxHeartbeats 4000000 in
set_option maxRecDepth 100000 in
theorem wk_L_time_0 {p : Program} {l : Launch} {e : Env} {s : State} {m : MethodId} {args : Array Value} {below : List Frame} {meth : Method} {c : Code} {G : ck_G} (X : ck_X p s m meth c args cL_time 3 (some .int) RL wsL_time) (hlt : l.stackTraces = false) (hE : ck_E (ck_A G s.heap.size) s) (htab : c.exceptionTable.toList = tableOf [(0, 8, 11, 15)]) (hO21 : (21, 0) ∈ ck_Ls G) (hC : ck_inC G) {post : Int32 → ck_S → Prop} {σ : ck_S} {H : Heap} {locs : List Loc} {ls : Array Slot} (h : sp_L_time (ck_nc G) (ck_nb G) σ post) (hw : ck_H G s H locs σ) (hl : lv_has ls 3 [(0, .ref (ck_ad G 0 0)), (1, .ref (ck_ad G 21 0))]) : W p l e ({ frames := 8, cells := 1, slots := 6, locals := 122 } : Room) s m args below meth c H locs 0 0 (MQ below (va_Qi post (ck_Q G) (ck_A G s.heap.size)) args s 1 6 (ck_A G s.heap.size)) (F0 m 0 ls []) := by
  obtain ⟨hx, hb, hr, hml, hown, hts, hlocks⟩ := id X
  unfold sp_L_time at h
  refine lv_aload_n hx hb dL_time_0 rfl (lv_at hl 1 rfl) ?_
  refine lv_iconst (v := 0) hx hb dL_time_1 (by decide) ?_
  refine lv_aload_n hx hb dL_time_2 rfl (lv_at hl 0 rfl) ?_
  refine ck_xcallVi (rest := [.int 0, .ref (ck_ad G 21 0)]) ⟨hx, hb, hml, hown, hts⟩ hw hE (hC.1 0 (by decide)) rfl rfl (ct_X6_time l hlt G hC h) (cwV 0 hts gL_time_X6_time rfl rfl rfl (by decide +kernel) ⟨(Nat.le_of_ble_eq_true rfl), (Nat.le_of_ble_eq_true rfl)⟩) rfl hl.1 rfl (Nat.le_of_ble_eq_true rfl) dL_time_3 ⟨(Nat.le_of_ble_eq_true rfl), (Nat.le_of_ble_eq_true rfl)⟩ ?_ ?_
  · intro E ce q9 σ1x H locs hp hw h1 h2 h3
    rcases hp with ⟨rfl, h⟩
    · refine vx_catch (name := ck_ISE) hown [] ⟨0, 8, 11, 15⟩ [] (htab.trans rfl) (fun z hz => by cases hz) rfl (by decide) (hts _ (List.mem_of_getElem? (i := 1) rfl)) (va_Nw.use rfl hE.2.2.1.1) h1 h2 h3 ?_
      refine lv_astore_n (lv' := [(2, .ref q9), (0, .ref (ck_ad G 0 0)), (1, .ref (ck_ad G 21 0))]) hx hb dL_time_11 rfl hl (by decide) rfl (fun ls hl => ?_)
      refine lv_iconst (v := 1) hx hb dL_time_12 (by decide) ?_
      exact ck_iret X hw h dL_time_13
  · intro x_2 σ1 H locs h hw
    refine lv_i2l hx hb dL_time_6 rfl ?_
    obtain ⟨n3, h⟩ := h
    refine ck_last hx hb hw hO21 (fun _ => rfl) n3 dL_time_7 (fun H locs hw => ?_)
    obtain ⟨σ4, eσ4⟩ : ∃ z : ck_S, z = ck_uj σ1 21 0 (Int32.toNatClampNeg 0) (x_2.toInt64) := ⟨_, rfl⟩
    rw [← eσ4] at hw
    have h := h σ4 eσ4
    refine lv_goto (tgt := 14) hx hb dL_time_8 (by decide) ?_
    refine lv_iconst (v := 0) hx hb dL_time_14 (by decide) ?_
    exact ck_iret X hw h dL_time_15
set_option maxHeartbeats 4000000 in
set_option maxRecDepth 100000 in
theorem ct_L_time (l : Launch) (hlt : l.stackTraces = false) (G : ck_G) (hO21 : (21, 0) ∈ ck_Ls G) (hC : ck_inC G) {σ : ck_S} {post : Int32 → ck_S → Prop} (h : sp_L_time (ck_nc G) (ck_nb G) σ post) : ck_MEi l yL_time wsL_time ({ frames := 8, cells := 1, slots := 6, locals := 122 } : Room) G σ [.ref (ck_ad G 0 0), .ref (ck_ad G 21 0)] post 1 6 := by
  intro sz
  refine va_MetW (cc := cL_time) (maxL := 3) (ret := (some .int)) (by decide) rfl ?_
  intro p e s m args below meth c s₁ B hml hv
  obtain ⟨rfl, rfl, hw, hE⟩ := ck_enterE hv
  have htab := vx_table (x := yL_time) B (atoms_spec (ws := wsL_time) B.pre _ List.mem_cons_self)
  have hl := lv_entry ([.ref (ck_ad G 0 0), .ref (ck_ad G 21 0)]) (n := 3) (Nat.le_of_ble_eq_true rfl)
  rw [lg_entry_eq]
  generalize (lg_sl ([.ref (ck_ad G 0 0), .ref (ck_ad G 21 0)]) ++ List.replicate (3 - (lg_sl ([.ref (ck_ad G 0 0), .ref (ck_ad G 21 0)])).length) Slot.unset).toArray = ls at hl ⊢
  have hl : lv_has ls 3 [(0, .ref (ck_ad G 0 0)), (1, .ref (ck_ad G 21 0))] := hl
  exact wk_L_time_0 ⟨B.exec, B.bytes, B.returns, hml, findClass_of_methodNamed B.named, atoms_spec (ws := wsL_time) B.pre, B.notSynchronized⟩ hlt hE htab hO21 hC h hw hl
def sp_L_charge (nc nb : Nat) (σ : ck_S) (post : Int32 → ck_S → Prop) : Prop := sp_X6_charge nc nb σ (fun z_2 σ1 => (vp_in 0 1) ∧ ∀ σ4, σ4 = ck_ud σ1 22 0 (Int32.toNatClampNeg 0) z_2 → post 0 σ4) (fun E σ1x => (E = ck_ISE ∧ (post 1 σ1x)))
set_option maxHeartbeats 4000000 in
set_option maxRecDepth 100000 in
theorem wk_L_charge_0 {p : Program} {l : Launch} {e : Env} {s : State} {m : MethodId} {args : Array Value} {below : List Frame} {meth : Method} {c : Code} {G : ck_G} (X : ck_X p s m meth c args cL_charge 3 (some .int) RL wsL_charge) (hlt : l.stackTraces = false) (hE : ck_E (ck_A G s.heap.size) s) (htab : c.exceptionTable.toList = tableOf [(0, 7, 10, 15)]) (hO22 : (22, 0) ∈ ck_Ls G) (hC : ck_inC G) {post : Int32 → ck_S → Prop} {σ : ck_S} {H : Heap} {locs : List Loc} {ls : Array Slot} (h : sp_L_charge (ck_nc G) (ck_nb G) σ post) (hw : ck_H G s H locs σ) (hl : lv_has ls 3 [(0, .ref (ck_ad G 0 0)), (1, .ref (ck_ad G 22 0))]) : W p l e ({ frames := 8, cells := 1, slots := 6, locals := 122 } : Room) s m args below meth c H locs 0 0 (MQ below (va_Qi post (ck_Q G) (ck_A G s.heap.size)) args s 1 6 (ck_A G s.heap.size)) (F0 m 0 ls []) := by
  obtain ⟨hx, hb, hr, hml, hown, hts, hlocks⟩ := id X
  unfold sp_L_charge at h
  refine lv_aload_n hx hb dL_charge_0 rfl (lv_at hl 1 rfl) ?_
  refine lv_iconst (v := 0) hx hb dL_charge_1 (by decide) ?_
  refine lv_aload_n hx hb dL_charge_2 rfl (lv_at hl 0 rfl) ?_
  refine ck_xcallVd (rest := [.int 0, .ref (ck_ad G 22 0)]) ⟨hx, hb, hml, hown, hts⟩ hw hE (hC.1 0 (by decide)) rfl rfl (ct_X6_charge l hlt G hC h) (cwV 0 hts gL_charge_X6_charge rfl rfl rfl (by decide +kernel) ⟨(Nat.le_of_ble_eq_true rfl), (Nat.le_of_ble_eq_true rfl)⟩) rfl hl.1 rfl (Nat.le_of_ble_eq_true rfl) dL_charge_3 ⟨(Nat.le_of_ble_eq_true rfl), (Nat.le_of_ble_eq_true rfl)⟩ ?_ ?_
  · intro E ce q9 σ1x H locs hp hw h1 h2 h3
    rcases hp with ⟨rfl, h⟩
    · refine vx_catch (name := ck_ISE) hown [] ⟨0, 7, 10, 15⟩ [] (htab.trans rfl) (fun z hz => by cases hz) rfl (by decide) (hts _ (List.mem_of_getElem? (i := 1) rfl)) (va_Nw.use rfl hE.2.2.1.1) h1 h2 h3 ?_
      refine lv_astore_n (lv' := [(2, .ref q9), (0, .ref (ck_ad G 0 0)), (1, .ref (ck_ad G 22 0))]) hx hb dL_charge_10 rfl hl (by decide) rfl (fun ls hl => ?_)
      refine lv_iconst (v := 1) hx hb dL_charge_11 (by decide) ?_
      exact ck_iret X hw h dL_charge_12
  · intro z_2 σ1 H locs h hw
    obtain ⟨n3, h⟩ := h
    refine ck_dast hx hb hw hO22 (fun _ => rfl) n3 dL_charge_6 (fun H locs hw => ?_)
    obtain ⟨σ4, eσ4⟩ : ∃ z : ck_S, z = ck_ud σ1 22 0 (Int32.toNatClampNeg 0) z_2 := ⟨_, rfl⟩
    rw [← eσ4] at hw
    have h := h σ4 eσ4
    refine lv_goto (tgt := 13) hx hb dL_charge_7 (by decide) ?_
    refine lv_iconst (v := 0) hx hb dL_charge_13 (by decide) ?_
    exact ck_iret X hw h dL_charge_14
set_option maxHeartbeats 4000000 in
set_option maxRecDepth 100000 in
theorem ct_L_charge (l : Launch) (hlt : l.stackTraces = false) (G : ck_G) (hO22 : (22, 0) ∈ ck_Ls G) (hC : ck_inC G) {σ : ck_S} {post : Int32 → ck_S → Prop} (h : sp_L_charge (ck_nc G) (ck_nb G) σ post) : ck_MEi l yL_charge wsL_charge ({ frames := 8, cells := 1, slots := 6, locals := 122 } : Room) G σ [.ref (ck_ad G 0 0), .ref (ck_ad G 22 0)] post 1 6 := by
  intro sz
  refine va_MetW (cc := cL_charge) (maxL := 3) (ret := (some .int)) (by decide) rfl ?_
  intro p e s m args below meth c s₁ B hml hv
  obtain ⟨rfl, rfl, hw, hE⟩ := ck_enterE hv
  have htab := vx_table (x := yL_charge) B (atoms_spec (ws := wsL_charge) B.pre _ List.mem_cons_self)
  have hl := lv_entry ([.ref (ck_ad G 0 0), .ref (ck_ad G 22 0)]) (n := 3) (Nat.le_of_ble_eq_true rfl)
  rw [lg_entry_eq]
  generalize (lg_sl ([.ref (ck_ad G 0 0), .ref (ck_ad G 22 0)]) ++ List.replicate (3 - (lg_sl ([.ref (ck_ad G 0 0), .ref (ck_ad G 22 0)])).length) Slot.unset).toArray = ls at hl ⊢
  have hl : lv_has ls 3 [(0, .ref (ck_ad G 0 0)), (1, .ref (ck_ad G 22 0))] := hl
  exact wk_L_charge_0 ⟨B.exec, B.bytes, B.returns, hml, findClass_of_methodNamed B.named, atoms_spec (ws := wsL_charge) B.pre, B.notSynchronized⟩ hlt hE htab hO22 hC h hw hl
def sp_L_percent (nc nb : Nat) (σ : ck_S) (post : Int32 → ck_S → Prop) : Prop := sp_X6_percent nc nb σ (fun x_2 σ1 => (vp_in 0 1) ∧ ∀ σ4, σ4 = ck_uj σ1 21 0 (Int32.toNatClampNeg 0) (x_2.toInt64) → post 0 σ4) (fun E σ1x => (E = ck_ISE ∧ (post 1 σ1x)))
set_option maxHeartbeats 4000000 in
set_option maxRecDepth 100000 in
theorem wk_L_percent_0 {p : Program} {l : Launch} {e : Env} {s : State} {m : MethodId} {args : Array Value} {below : List Frame} {meth : Method} {c : Code} {G : ck_G} (X : ck_X p s m meth c args cL_percent 3 (some .int) RL wsL_percent) (hlt : l.stackTraces = false) (hE : ck_E (ck_A G s.heap.size) s) (htab : c.exceptionTable.toList = tableOf [(0, 8, 11, 15)]) (hO21 : (21, 0) ∈ ck_Ls G) (hC : ck_inC G) {post : Int32 → ck_S → Prop} {σ : ck_S} {H : Heap} {locs : List Loc} {ls : Array Slot} (h : sp_L_percent (ck_nc G) (ck_nb G) σ post) (hw : ck_H G s H locs σ) (hl : lv_has ls 3 [(0, .ref (ck_ad G 0 0)), (1, .ref (ck_ad G 21 0))]) : W p l e ({ frames := 8, cells := 1, slots := 6, locals := 122 } : Room) s m args below meth c H locs 0 0 (MQ below (va_Qi post (ck_Q G) (ck_A G s.heap.size)) args s 1 6 (ck_A G s.heap.size)) (F0 m 0 ls []) := by
  obtain ⟨hx, hb, hr, hml, hown, hts, hlocks⟩ := id X
  unfold sp_L_percent at h
  refine lv_aload_n hx hb dL_percent_0 rfl (lv_at hl 1 rfl) ?_
  refine lv_iconst (v := 0) hx hb dL_percent_1 (by decide) ?_
  refine lv_aload_n hx hb dL_percent_2 rfl (lv_at hl 0 rfl) ?_
  refine ck_xcallVi (rest := [.int 0, .ref (ck_ad G 21 0)]) ⟨hx, hb, hml, hown, hts⟩ hw hE (hC.1 0 (by decide)) rfl rfl (ct_X6_percent l hlt G hC h) (cwV 0 hts gL_percent_X6_percent rfl rfl rfl (by decide +kernel) ⟨(Nat.le_of_ble_eq_true rfl), (Nat.le_of_ble_eq_true rfl)⟩) rfl hl.1 rfl (Nat.le_of_ble_eq_true rfl) dL_percent_3 ⟨(Nat.le_of_ble_eq_true rfl), (Nat.le_of_ble_eq_true rfl)⟩ ?_ ?_
  · intro E ce q9 σ1x H locs hp hw h1 h2 h3
    rcases hp with ⟨rfl, h⟩
    · refine vx_catch (name := ck_ISE) hown [] ⟨0, 8, 11, 15⟩ [] (htab.trans rfl) (fun z hz => by cases hz) rfl (by decide) (hts _ (List.mem_of_getElem? (i := 1) rfl)) (va_Nw.use rfl hE.2.2.1.1) h1 h2 h3 ?_
      refine lv_astore_n (lv' := [(2, .ref q9), (0, .ref (ck_ad G 0 0)), (1, .ref (ck_ad G 21 0))]) hx hb dL_percent_11 rfl hl (by decide) rfl (fun ls hl => ?_)
      refine lv_iconst (v := 1) hx hb dL_percent_12 (by decide) ?_
      exact ck_iret X hw h dL_percent_13
  · intro x_2 σ1 H locs h hw
    refine lv_i2l hx hb dL_percent_6 rfl ?_
    obtain ⟨n3, h⟩ := h
    refine ck_last hx hb hw hO21 (fun _ => rfl) n3 dL_percent_7 (fun H locs hw => ?_)
    obtain ⟨σ4, eσ4⟩ : ∃ z : ck_S, z = ck_uj σ1 21 0 (Int32.toNatClampNeg 0) (x_2.toInt64) := ⟨_, rfl⟩
    rw [← eσ4] at hw
    have h := h σ4 eσ4
    refine lv_goto (tgt := 14) hx hb dL_percent_8 (by decide) ?_
    refine lv_iconst (v := 0) hx hb dL_percent_14 (by decide) ?_
    exact ck_iret X hw h dL_percent_15
set_option maxHeartbeats 4000000 in
set_option maxRecDepth 100000 in
theorem ct_L_percent (l : Launch) (hlt : l.stackTraces = false) (G : ck_G) (hO21 : (21, 0) ∈ ck_Ls G) (hC : ck_inC G) {σ : ck_S} {post : Int32 → ck_S → Prop} (h : sp_L_percent (ck_nc G) (ck_nb G) σ post) : ck_MEi l yL_percent wsL_percent ({ frames := 8, cells := 1, slots := 6, locals := 122 } : Room) G σ [.ref (ck_ad G 0 0), .ref (ck_ad G 21 0)] post 1 6 := by
  intro sz
  refine va_MetW (cc := cL_percent) (maxL := 3) (ret := (some .int)) (by decide) rfl ?_
  intro p e s m args below meth c s₁ B hml hv
  obtain ⟨rfl, rfl, hw, hE⟩ := ck_enterE hv
  have htab := vx_table (x := yL_percent) B (atoms_spec (ws := wsL_percent) B.pre _ List.mem_cons_self)
  have hl := lv_entry ([.ref (ck_ad G 0 0), .ref (ck_ad G 21 0)]) (n := 3) (Nat.le_of_ble_eq_true rfl)
  rw [lg_entry_eq]
  generalize (lg_sl ([.ref (ck_ad G 0 0), .ref (ck_ad G 21 0)]) ++ List.replicate (3 - (lg_sl ([.ref (ck_ad G 0 0), .ref (ck_ad G 21 0)])).length) Slot.unset).toArray = ls at hl ⊢
  have hl : lv_has ls 3 [(0, .ref (ck_ad G 0 0)), (1, .ref (ck_ad G 21 0))] := hl
  exact wk_L_percent_0 ⟨B.exec, B.bytes, B.returns, hml, findClass_of_methodNamed B.named, atoms_spec (ws := wsL_percent) B.pre, B.notSynchronized⟩ hlt hE htab hO21 hC h hw hl
def sp_L_through (nc nb : Nat) (σ : ck_S) (post : Int32 → ck_S → Prop) : Prop := sp_X6_through nc nb σ (fun z_2 σ1 => (vp_in 0 1) ∧ ∀ σ4, σ4 = ck_ud σ1 22 0 (Int32.toNatClampNeg 0) z_2 → post 0 σ4) (fun E σ1x => (E = ck_ISE ∧ (post 1 σ1x)))
set_option maxHeartbeats 4000000 in
set_option maxRecDepth 100000 in
theorem wk_L_through_0 {p : Program} {l : Launch} {e : Env} {s : State} {m : MethodId} {args : Array Value} {below : List Frame} {meth : Method} {c : Code} {G : ck_G} (X : ck_X p s m meth c args cL_through 3 (some .int) RL wsL_through) (hlt : l.stackTraces = false) (hE : ck_E (ck_A G s.heap.size) s) (htab : c.exceptionTable.toList = tableOf [(0, 7, 10, 15)]) (hO22 : (22, 0) ∈ ck_Ls G) (hC : ck_inC G) {post : Int32 → ck_S → Prop} {σ : ck_S} {H : Heap} {locs : List Loc} {ls : Array Slot} (h : sp_L_through (ck_nc G) (ck_nb G) σ post) (hw : ck_H G s H locs σ) (hl : lv_has ls 3 [(0, .ref (ck_ad G 0 0)), (1, .ref (ck_ad G 22 0))]) : W p l e ({ frames := 8, cells := 1, slots := 6, locals := 122 } : Room) s m args below meth c H locs 0 0 (MQ below (va_Qi post (ck_Q G) (ck_A G s.heap.size)) args s 1 6 (ck_A G s.heap.size)) (F0 m 0 ls []) := by
  obtain ⟨hx, hb, hr, hml, hown, hts, hlocks⟩ := id X
  unfold sp_L_through at h
  refine lv_aload_n hx hb dL_through_0 rfl (lv_at hl 1 rfl) ?_
  refine lv_iconst (v := 0) hx hb dL_through_1 (by decide) ?_
  refine lv_aload_n hx hb dL_through_2 rfl (lv_at hl 0 rfl) ?_
  refine ck_xcallVd (rest := [.int 0, .ref (ck_ad G 22 0)]) ⟨hx, hb, hml, hown, hts⟩ hw hE (hC.1 0 (by decide)) rfl rfl (ct_X6_through l hlt G hC h) (cwV 0 hts gL_through_X6_through rfl rfl rfl (by decide +kernel) ⟨(Nat.le_of_ble_eq_true rfl), (Nat.le_of_ble_eq_true rfl)⟩) rfl hl.1 rfl (Nat.le_of_ble_eq_true rfl) dL_through_3 ⟨(Nat.le_of_ble_eq_true rfl), (Nat.le_of_ble_eq_true rfl)⟩ ?_ ?_
  · intro E ce q9 σ1x H locs hp hw h1 h2 h3
    rcases hp with ⟨rfl, h⟩
    · refine vx_catch (name := ck_ISE) hown [] ⟨0, 7, 10, 15⟩ [] (htab.trans rfl) (fun z hz => by cases hz) rfl (by decide) (hts _ (List.mem_of_getElem? (i := 1) rfl)) (va_Nw.use rfl hE.2.2.1.1) h1 h2 h3 ?_
      refine lv_astore_n (lv' := [(2, .ref q9), (0, .ref (ck_ad G 0 0)), (1, .ref (ck_ad G 22 0))]) hx hb dL_through_10 rfl hl (by decide) rfl (fun ls hl => ?_)
      refine lv_iconst (v := 1) hx hb dL_through_11 (by decide) ?_
      exact ck_iret X hw h dL_through_12
  · intro z_2 σ1 H locs h hw
    obtain ⟨n3, h⟩ := h
    refine ck_dast hx hb hw hO22 (fun _ => rfl) n3 dL_through_6 (fun H locs hw => ?_)
    obtain ⟨σ4, eσ4⟩ : ∃ z : ck_S, z = ck_ud σ1 22 0 (Int32.toNatClampNeg 0) z_2 := ⟨_, rfl⟩
    rw [← eσ4] at hw
    have h := h σ4 eσ4
    refine lv_goto (tgt := 13) hx hb dL_through_7 (by decide) ?_
    refine lv_iconst (v := 0) hx hb dL_through_13 (by decide) ?_
    exact ck_iret X hw h dL_through_14
set_option maxHeartbeats 4000000 in
set_option maxRecDepth 100000 in
theorem ct_L_through (l : Launch) (hlt : l.stackTraces = false) (G : ck_G) (hO22 : (22, 0) ∈ ck_Ls G) (hC : ck_inC G) {σ : ck_S} {post : Int32 → ck_S → Prop} (h : sp_L_through (ck_nc G) (ck_nb G) σ post) : ck_MEi l yL_through wsL_through ({ frames := 8, cells := 1, slots := 6, locals := 122 } : Room) G σ [.ref (ck_ad G 0 0), .ref (ck_ad G 22 0)] post 1 6 := by
  intro sz
  refine va_MetW (cc := cL_through) (maxL := 3) (ret := (some .int)) (by decide) rfl ?_
  intro p e s m args below meth c s₁ B hml hv
  obtain ⟨rfl, rfl, hw, hE⟩ := ck_enterE hv
  have htab := vx_table (x := yL_through) B (atoms_spec (ws := wsL_through) B.pre _ List.mem_cons_self)
  have hl := lv_entry ([.ref (ck_ad G 0 0), .ref (ck_ad G 22 0)]) (n := 3) (Nat.le_of_ble_eq_true rfl)
  rw [lg_entry_eq]
  generalize (lg_sl ([.ref (ck_ad G 0 0), .ref (ck_ad G 22 0)]) ++ List.replicate (3 - (lg_sl ([.ref (ck_ad G 0 0), .ref (ck_ad G 22 0)])).length) Slot.unset).toArray = ls at hl ⊢
  have hl : lv_has ls 3 [(0, .ref (ck_ad G 0 0)), (1, .ref (ck_ad G 22 0))] := hl
  exact wk_L_through_0 ⟨B.exec, B.bytes, B.returns, hml, findClass_of_methodNamed B.named, atoms_spec (ws := wsL_through) B.pre, B.notSynchronized⟩ hlt hE htab hO22 hC h hw hl
def sp_L_allowed (nc nb : Nat) (σ : ck_S) (a1 : Int32) (post : Int32 → ck_S → Prop) : Prop := sp_X6_allowed nc nb σ a1 (fun z_2 σ1 => (vp_in 0 1) ∧ ∀ σ4, σ4 = ck_ud σ1 22 0 (Int32.toNatClampNeg 0) z_2 → post 0 σ4) (fun E σ1x => (E = ck_ISE ∧ (post 1 σ1x)))
set_option maxHeartbeats 4000000 in
set_option maxRecDepth 100000 in
theorem wk_L_allowed_0 {p : Program} {l : Launch} {e : Env} {s : State} {m : MethodId} {args : Array Value} {below : List Frame} {meth : Method} {c : Code} {G : ck_G} (X : ck_X p s m meth c args cL_allowed 4 (some .int) RL wsL_allowed) (hlt : l.stackTraces = false) (hE : ck_E (ck_A G s.heap.size) s) (htab : c.exceptionTable.toList = tableOf [(0, 8, 11, 15)]) (hO22 : (22, 0) ∈ ck_Ls G) (hC : ck_inC G) {post : Int32 → ck_S → Prop} {σ : ck_S} {a1 : Int32} {H : Heap} {locs : List Loc} {ls : Array Slot} (h : sp_L_allowed (ck_nc G) (ck_nb G) σ a1 post) (hw : ck_H G s H locs σ) (hl : lv_has ls 4 [(0, .ref (ck_ad G 0 0)), (1, .int a1), (2, .ref (ck_ad G 22 0))]) : W p l e ({ frames := 8, cells := 1, slots := 6, locals := 123 } : Room) s m args below meth c H locs 0 0 (MQ below (va_Qi post (ck_Q G) (ck_A G s.heap.size)) args s 1 6 (ck_A G s.heap.size)) (F0 m 0 ls []) := by
  obtain ⟨hx, hb, hr, hml, hown, hts, hlocks⟩ := id X
  unfold sp_L_allowed at h
  refine lv_aload_n hx hb dL_allowed_0 rfl (lv_at hl 2 rfl) ?_
  refine lv_iconst (v := 0) hx hb dL_allowed_1 (by decide) ?_
  refine lv_aload_n hx hb dL_allowed_2 rfl (lv_at hl 0 rfl) ?_
  refine lv_iload_n hx hb dL_allowed_3 rfl (lv_at hl 1 rfl) ?_
  refine ck_xcallVd (rest := [.int 0, .ref (ck_ad G 22 0)]) ⟨hx, hb, hml, hown, hts⟩ hw hE (hC.1 0 (by decide)) rfl rfl (ct_X6_allowed l hlt G hC h) (cwV 1 hts gL_allowed_X6_allowed rfl rfl rfl (by decide +kernel) ⟨(Nat.le_of_ble_eq_true rfl), (Nat.le_of_ble_eq_true rfl)⟩) rfl hl.1 rfl (Nat.le_of_ble_eq_true rfl) dL_allowed_4 ⟨(Nat.le_of_ble_eq_true rfl), (Nat.le_of_ble_eq_true rfl)⟩ ?_ ?_
  · intro E ce q9 σ1x H locs hp hw h1 h2 h3
    rcases hp with ⟨rfl, h⟩
    · refine vx_catch (name := ck_ISE) hown [] ⟨0, 8, 11, 15⟩ [] (htab.trans rfl) (fun z hz => by cases hz) rfl (by decide) (hts _ (List.mem_of_getElem? (i := 1) rfl)) (va_Nw.use rfl hE.2.2.1.1) h1 h2 h3 ?_
      refine lv_astore_n (lv' := [(3, .ref q9), (0, .ref (ck_ad G 0 0)), (1, .int a1), (2, .ref (ck_ad G 22 0))]) hx hb dL_allowed_11 rfl hl (by decide) rfl (fun ls hl => ?_)
      refine lv_iconst (v := 1) hx hb dL_allowed_12 (by decide) ?_
      exact ck_iret X hw h dL_allowed_13
  · intro z_2 σ1 H locs h hw
    obtain ⟨n3, h⟩ := h
    refine ck_dast hx hb hw hO22 (fun _ => rfl) n3 dL_allowed_7 (fun H locs hw => ?_)
    obtain ⟨σ4, eσ4⟩ : ∃ z : ck_S, z = ck_ud σ1 22 0 (Int32.toNatClampNeg 0) z_2 := ⟨_, rfl⟩
    rw [← eσ4] at hw
    have h := h σ4 eσ4
    refine lv_goto (tgt := 14) hx hb dL_allowed_8 (by decide) ?_
    refine lv_iconst (v := 0) hx hb dL_allowed_14 (by decide) ?_
    exact ck_iret X hw h dL_allowed_15
set_option maxHeartbeats 4000000 in
set_option maxRecDepth 100000 in
theorem ct_L_allowed (l : Launch) (hlt : l.stackTraces = false) (G : ck_G) (hO22 : (22, 0) ∈ ck_Ls G) (hC : ck_inC G) {a1 : Int32} {σ : ck_S} {post : Int32 → ck_S → Prop} (h : sp_L_allowed (ck_nc G) (ck_nb G) σ a1 post) : ck_MEi l yL_allowed wsL_allowed ({ frames := 8, cells := 1, slots := 6, locals := 123 } : Room) G σ [.ref (ck_ad G 0 0), .int a1, .ref (ck_ad G 22 0)] post 1 6 := by
  intro sz
  refine va_MetW (cc := cL_allowed) (maxL := 4) (ret := (some .int)) (by decide) rfl ?_
  intro p e s m args below meth c s₁ B hml hv
  obtain ⟨rfl, rfl, hw, hE⟩ := ck_enterE hv
  have htab := vx_table (x := yL_allowed) B (atoms_spec (ws := wsL_allowed) B.pre _ List.mem_cons_self)
  have hl := lv_entry ([.ref (ck_ad G 0 0), .int a1, .ref (ck_ad G 22 0)]) (n := 4) (Nat.le_of_ble_eq_true rfl)
  rw [lg_entry_eq]
  generalize (lg_sl ([.ref (ck_ad G 0 0), .int a1, .ref (ck_ad G 22 0)]) ++ List.replicate (4 - (lg_sl ([.ref (ck_ad G 0 0), .int a1, .ref (ck_ad G 22 0)])).length) Slot.unset).toArray = ls at hl ⊢
  have hl : lv_has ls 4 [(0, .ref (ck_ad G 0 0)), (1, .int a1), (2, .ref (ck_ad G 22 0))] := hl
  exact wk_L_allowed_0 ⟨B.exec, B.bytes, B.returns, hml, findClass_of_methodNamed B.named, atoms_spec (ws := wsL_allowed) B.pre, B.notSynchronized⟩ hlt hE htab hO22 hC h hw hl
def sp_L_valid_16 (nc nb : Nat) (post : Int32 → ck_S → Prop) (σ : ck_S) (s0 : Int64) (s1 : Int32) : Prop := (vp_in s1 1) ∧ ∀ σ2, σ2 = ck_uj σ 21 0 (Int32.toNatClampNeg s1) s0 → post 0 σ2
def sp_L_valid (nc nb : Nat) (σ : ck_S) (a1 : Int32) (a2 : Int32) (post : Int32 → ck_S → Prop) : Prop := sp_X6_valid nc nb σ a1 a2 (fun x_2 σ1 => ((x_2 = 0 → (sp_L_valid_16 nc nb post σ1 0 0)) ∧ (¬ x_2 = 0 → (sp_L_valid_16 nc nb post σ1 1 0)))) (fun E σ1x => (E = ck_IOB ∧ (post 1 σ1x)) ∨ (E = ck_ISE ∧ (post 2 σ1x)))
set_option maxHeartbeats 4000000 in
set_option maxRecDepth 100000 in
theorem wk_L_valid_16 {p : Program} {l : Launch} {e : Env} {s : State} {m : MethodId} {args : Array Value} {below : List Frame} {meth : Method} {c : Code} {G : ck_G} (X : ck_X p s m meth c args cL_valid 5 (some .int) RL wsL_valid) (hlt : l.stackTraces = false) (hE : ck_E (ck_A G s.heap.size) s) (htab : c.exceptionTable.toList = tableOf [(0, 17, 20, 13), (0, 17, 24, 15)]) (hO21 : (21, 0) ∈ ck_Ls G) (hC : ck_inC G) {post : Int32 → ck_S → Prop} {σ : ck_S} {s0 : Int64} {s1 : Int32} {H : Heap} {locs : List Loc} {ls : Array Slot} (h : sp_L_valid_16 (ck_nc G) (ck_nb G) post σ s0 s1) (hw : ck_H G s H locs σ) (hl : lv_has ls 5 []) : W p l e ({ frames := 9, cells := 3, slots := 18, locals := 146 } : Room) s m args below meth c H locs 3 18 (MQ below (va_Qi post (ck_Q G) (ck_A G s.heap.size)) args s 3 18 (ck_A G s.heap.size)) (F0 m 16 ls [.long s0, .int s1, .ref (ck_ad G 21 0)]) := by
  obtain ⟨hx, hb, hr, hml, hown, hts, hlocks⟩ := id X
  unfold sp_L_valid_16 at h
  obtain ⟨n1, h⟩ := h
  refine ck_last hx hb hw hO21 (fun _ => rfl) n1 dL_valid_16 (fun H locs hw => ?_)
  obtain ⟨σ2, eσ2⟩ : ∃ z : ck_S, z = ck_uj σ 21 0 (Int32.toNatClampNeg s1) s0 := ⟨_, rfl⟩
  rw [← eσ2] at hw
  have h := h σ2 eσ2
  refine lv_goto (tgt := 28) hx hb dL_valid_17 (by decide) ?_
  refine lv_iconst (v := 0) hx hb dL_valid_28 (by decide) ?_
  exact ck_iret X hw h dL_valid_29
set_option maxHeartbeats 4000000 in
set_option maxRecDepth 100000 in
theorem wk_L_valid_0 {p : Program} {l : Launch} {e : Env} {s : State} {m : MethodId} {args : Array Value} {below : List Frame} {meth : Method} {c : Code} {G : ck_G} (X : ck_X p s m meth c args cL_valid 5 (some .int) RL wsL_valid) (hlt : l.stackTraces = false) (hE : ck_E (ck_A G s.heap.size) s) (htab : c.exceptionTable.toList = tableOf [(0, 17, 20, 13), (0, 17, 24, 15)]) (hO21 : (21, 0) ∈ ck_Ls G) (hC : ck_inC G) {post : Int32 → ck_S → Prop} {σ : ck_S} {a1 : Int32} {a2 : Int32} {H : Heap} {locs : List Loc} {ls : Array Slot} (h : sp_L_valid (ck_nc G) (ck_nb G) σ a1 a2 post) (hw : ck_H G s H locs σ) (hl : lv_has ls 5 [(0, .ref (ck_ad G 0 0)), (1, .int a1), (2, .int a2), (3, .ref (ck_ad G 21 0))]) : W p l e ({ frames := 9, cells := 3, slots := 18, locals := 146 } : Room) s m args below meth c H locs 0 0 (MQ below (va_Qi post (ck_Q G) (ck_A G s.heap.size)) args s 3 18 (ck_A G s.heap.size)) (F0 m 0 ls []) := by
  obtain ⟨hx, hb, hr, hml, hown, hts, hlocks⟩ := id X
  unfold sp_L_valid at h
  refine lv_aload_n hx hb dL_valid_0 rfl (lv_at hl 3 rfl) ?_
  refine lv_iconst (v := 0) hx hb dL_valid_1 (by decide) ?_
  refine lv_aload_n hx hb dL_valid_2 rfl (lv_at hl 0 rfl) ?_
  refine lv_iload_n hx hb dL_valid_3 rfl (lv_at hl 1 rfl) ?_
  refine lv_iload_n hx hb dL_valid_4 rfl (lv_at hl 2 rfl) ?_
  refine ck_xcallVi (rest := [.int 0, .ref (ck_ad G 21 0)]) ⟨hx, hb, hml, hown, hts⟩ hw hE (hC.1 0 (by decide)) rfl rfl (ct_X6_valid l hlt G hC h) (cwV 2 hts gL_valid_X6_valid rfl rfl rfl (by decide +kernel) ⟨(Nat.le_of_ble_eq_true rfl), (Nat.le_of_ble_eq_true rfl)⟩) rfl hl.1 rfl (Nat.le_of_ble_eq_true rfl) dL_valid_5 ⟨(Nat.le_of_ble_eq_true rfl), (Nat.le_of_ble_eq_true rfl)⟩ ?_ ?_
  · intro E ce q9 σ1x H locs hp hw h1 h2 h3
    rcases hp with ⟨rfl, h⟩ | ⟨rfl, h⟩
    · refine vx_catch (name := ck_IOB) hown [] ⟨0, 17, 20, 13⟩ [⟨0, 17, 24, 15⟩] (htab.trans rfl) (fun z hz => by cases hz) rfl (by decide) (hts _ (List.mem_of_getElem? (i := 1) rfl)) (va_Nw.use rfl hE.2.2.1.2.1) h1 h2 h3 ?_
      refine lv_astore (lv' := [(4, .ref q9), (0, .ref (ck_ad G 0 0)), (1, .int a1), (2, .int a2), (3, .ref (ck_ad G 21 0))]) hx hb dL_valid_20 hl (by decide) rfl (fun ls hl => ?_)
      refine lv_iconst (v := 1) hx hb dL_valid_22 (by decide) ?_
      exact ck_iret X hw h dL_valid_23
    · refine vx_catch (name := ck_ISE) hown [⟨0, 17, 20, 13⟩] ⟨0, 17, 24, 15⟩ [] (htab.trans rfl) (fun z hz => by
        simp only [List.mem_cons, List.not_mem_nil, or_false] at hz
        rcases hz with rfl
        · exact Or.inr ⟨by decide, ck_IOB, hts _ (List.mem_of_getElem? (i := 1) rfl), hE.2.2.2.1.1⟩) rfl (by decide) (hts _ (List.mem_of_getElem? (i := 2) rfl)) (va_Nw.use rfl hE.2.2.1.1) h1 h2 h3 ?_
      refine lv_astore (lv' := [(4, .ref q9), (0, .ref (ck_ad G 0 0)), (1, .int a1), (2, .int a2), (3, .ref (ck_ad G 21 0))]) hx hb dL_valid_24 hl (by decide) rfl (fun ls hl => ?_)
      refine lv_iconst (v := 2) hx hb dL_valid_26 (by decide) ?_
      exact ck_iret X hw h dL_valid_27
  · intro x_2 σ1 H locs h hw
    obtain ⟨hA, hB⟩ := h
    refine lv_if_eq (tgt := 15) hx hb dL_valid_8 (by decide) (fun c3 => ?_) (fun c3 => ?_)
    · have h := hA c3
      refine lv_lconst (v := 0) hx hb dL_valid_15 (by decide) ?_
      exact wk_L_valid_16 X hlt hE htab hO21 hC h hw (lv_sub hl [] rfl)
    · have h := hB c3
      refine lv_lconst (v := 1) hx hb dL_valid_11 (by decide) ?_
      refine lv_goto (tgt := 16) hx hb dL_valid_12 (by decide) ?_
      exact wk_L_valid_16 X hlt hE htab hO21 hC h hw (lv_sub hl [] rfl)
set_option maxHeartbeats 4000000 in
set_option maxRecDepth 100000 in
theorem ct_L_valid (l : Launch) (hlt : l.stackTraces = false) (G : ck_G) (hO21 : (21, 0) ∈ ck_Ls G) (hC : ck_inC G) {a1 : Int32} {a2 : Int32} {σ : ck_S} {post : Int32 → ck_S → Prop} (h : sp_L_valid (ck_nc G) (ck_nb G) σ a1 a2 post) : ck_MEi l yL_valid wsL_valid ({ frames := 9, cells := 3, slots := 18, locals := 146 } : Room) G σ [.ref (ck_ad G 0 0), .int a1, .int a2, .ref (ck_ad G 21 0)] post 3 18 := by
  intro sz
  refine va_MetW (cc := cL_valid) (maxL := 5) (ret := (some .int)) (by decide) rfl ?_
  intro p e s m args below meth c s₁ B hml hv
  obtain ⟨rfl, rfl, hw, hE⟩ := ck_enterE hv
  have htab := vx_table (x := yL_valid) B (atoms_spec (ws := wsL_valid) B.pre _ List.mem_cons_self)
  have hl := lv_entry ([.ref (ck_ad G 0 0), .int a1, .int a2, .ref (ck_ad G 21 0)]) (n := 5) (Nat.le_of_ble_eq_true rfl)
  rw [lg_entry_eq]
  generalize (lg_sl ([.ref (ck_ad G 0 0), .int a1, .int a2, .ref (ck_ad G 21 0)]) ++ List.replicate (5 - (lg_sl ([.ref (ck_ad G 0 0), .int a1, .int a2, .ref (ck_ad G 21 0)])).length) Slot.unset).toArray = ls at hl ⊢
  have hl : lv_has ls 5 [(0, .ref (ck_ad G 0 0)), (1, .int a1), (2, .int a2), (3, .ref (ck_ad G 21 0))] := hl
  exact wk_L_valid_0 ⟨B.exec, B.bytes, B.returns, hml, findClass_of_methodNamed B.named, atoms_spec (ws := wsL_valid) B.pre, B.notSynchronized⟩ hlt hE htab hO21 hC h hw hl
def sp_L_bleeding (nc nb : Nat) (σ : ck_S) (a1 : Int32) (post : Int32 → ck_S → Prop) : Prop := sp_X6_bleeding nc nb σ a1 (fun x_2 σ1 => (vp_in 0 1) ∧ ∀ σ4, σ4 = ck_uj σ1 21 0 (Int32.toNatClampNeg 0) (x_2.toInt64) → post 0 σ4) (fun E σ1x => (E = ck_IOB ∧ (post 1 σ1x)) ∨ (E = ck_ISE ∧ (post 2 σ1x)))
set_option maxHeartbeats 4000000 in
set_option maxRecDepth 100000 in
theorem wk_L_bleeding_0 {p : Program} {l : Launch} {e : Env} {s : State} {m : MethodId} {args : Array Value} {below : List Frame} {meth : Method} {c : Code} {G : ck_G} (X : ck_X p s m meth c args cL_bleeding 4 (some .int) RL wsL_bleeding) (hlt : l.stackTraces = false) (hE : ck_E (ck_A G s.heap.size) s) (htab : c.exceptionTable.toList = tableOf [(0, 9, 12, 13), (0, 9, 15, 15)]) (hO21 : (21, 0) ∈ ck_Ls G) (hC : ck_inC G) {post : Int32 → ck_S → Prop} {σ : ck_S} {a1 : Int32} {H : Heap} {locs : List Loc} {ls : Array Slot} (h : sp_L_bleeding (ck_nc G) (ck_nb G) σ a1 post) (hw : ck_H G s H locs σ) (hl : lv_has ls 4 [(0, .ref (ck_ad G 0 0)), (1, .int a1), (2, .ref (ck_ad G 21 0))]) : W p l e ({ frames := 9, cells := 2, slots := 12, locals := 145 } : Room) s m args below meth c H locs 0 0 (MQ below (va_Qi post (ck_Q G) (ck_A G s.heap.size)) args s 2 12 (ck_A G s.heap.size)) (F0 m 0 ls []) := by
  obtain ⟨hx, hb, hr, hml, hown, hts, hlocks⟩ := id X
  unfold sp_L_bleeding at h
  refine lv_aload_n hx hb dL_bleeding_0 rfl (lv_at hl 2 rfl) ?_
  refine lv_iconst (v := 0) hx hb dL_bleeding_1 (by decide) ?_
  refine lv_aload_n hx hb dL_bleeding_2 rfl (lv_at hl 0 rfl) ?_
  refine lv_iload_n hx hb dL_bleeding_3 rfl (lv_at hl 1 rfl) ?_
  refine ck_xcallVi (rest := [.int 0, .ref (ck_ad G 21 0)]) ⟨hx, hb, hml, hown, hts⟩ hw hE (hC.1 0 (by decide)) rfl rfl (ct_X6_bleeding l hlt G hC h) (cwV 1 hts gL_bleeding_X6_bleeding rfl rfl rfl (by decide +kernel) ⟨(Nat.le_of_ble_eq_true rfl), (Nat.le_of_ble_eq_true rfl)⟩) rfl hl.1 rfl (Nat.le_of_ble_eq_true rfl) dL_bleeding_4 ⟨(Nat.le_of_ble_eq_true rfl), (Nat.le_of_ble_eq_true rfl)⟩ ?_ ?_
  · intro E ce q9 σ1x H locs hp hw h1 h2 h3
    rcases hp with ⟨rfl, h⟩ | ⟨rfl, h⟩
    · refine vx_catch (name := ck_IOB) hown [] ⟨0, 9, 12, 13⟩ [⟨0, 9, 15, 15⟩] (htab.trans rfl) (fun z hz => by cases hz) rfl (by decide) (hts _ (List.mem_of_getElem? (i := 1) rfl)) (va_Nw.use rfl hE.2.2.1.2.1) h1 h2 h3 ?_
      refine lv_astore_n (lv' := [(3, .ref q9), (0, .ref (ck_ad G 0 0)), (1, .int a1), (2, .ref (ck_ad G 21 0))]) hx hb dL_bleeding_12 rfl hl (by decide) rfl (fun ls hl => ?_)
      refine lv_iconst (v := 1) hx hb dL_bleeding_13 (by decide) ?_
      exact ck_iret X hw h dL_bleeding_14
    · refine vx_catch (name := ck_ISE) hown [⟨0, 9, 12, 13⟩] ⟨0, 9, 15, 15⟩ [] (htab.trans rfl) (fun z hz => by
        simp only [List.mem_cons, List.not_mem_nil, or_false] at hz
        rcases hz with rfl
        · exact Or.inr ⟨by decide, ck_IOB, hts _ (List.mem_of_getElem? (i := 1) rfl), hE.2.2.2.1.1⟩) rfl (by decide) (hts _ (List.mem_of_getElem? (i := 2) rfl)) (va_Nw.use rfl hE.2.2.1.1) h1 h2 h3 ?_
      refine lv_astore_n (lv' := [(3, .ref q9), (0, .ref (ck_ad G 0 0)), (1, .int a1), (2, .ref (ck_ad G 21 0))]) hx hb dL_bleeding_15 rfl hl (by decide) rfl (fun ls hl => ?_)
      refine lv_iconst (v := 2) hx hb dL_bleeding_16 (by decide) ?_
      exact ck_iret X hw h dL_bleeding_17
  · intro x_2 σ1 H locs h hw
    refine lv_i2l hx hb dL_bleeding_7 rfl ?_
    obtain ⟨n3, h⟩ := h
    refine ck_last hx hb hw hO21 (fun _ => rfl) n3 dL_bleeding_8 (fun H locs hw => ?_)
    obtain ⟨σ4, eσ4⟩ : ∃ z : ck_S, z = ck_uj σ1 21 0 (Int32.toNatClampNeg 0) (x_2.toInt64) := ⟨_, rfl⟩
    rw [← eσ4] at hw
    have h := h σ4 eσ4
    refine lv_goto (tgt := 18) hx hb dL_bleeding_9 (by decide) ?_
    refine lv_iconst (v := 0) hx hb dL_bleeding_18 (by decide) ?_
    exact ck_iret X hw h dL_bleeding_19
set_option maxHeartbeats 4000000 in
set_option maxRecDepth 100000 in
theorem ct_L_bleeding (l : Launch) (hlt : l.stackTraces = false) (G : ck_G) (hO21 : (21, 0) ∈ ck_Ls G) (hC : ck_inC G) {a1 : Int32} {σ : ck_S} {post : Int32 → ck_S → Prop} (h : sp_L_bleeding (ck_nc G) (ck_nb G) σ a1 post) : ck_MEi l yL_bleeding wsL_bleeding ({ frames := 9, cells := 2, slots := 12, locals := 145 } : Room) G σ [.ref (ck_ad G 0 0), .int a1, .ref (ck_ad G 21 0)] post 2 12 := by
  intro sz
  refine va_MetW (cc := cL_bleeding) (maxL := 4) (ret := (some .int)) (by decide) rfl ?_
  intro p e s m args below meth c s₁ B hml hv
  obtain ⟨rfl, rfl, hw, hE⟩ := ck_enterE hv
  have htab := vx_table (x := yL_bleeding) B (atoms_spec (ws := wsL_bleeding) B.pre _ List.mem_cons_self)
  have hl := lv_entry ([.ref (ck_ad G 0 0), .int a1, .ref (ck_ad G 21 0)]) (n := 4) (Nat.le_of_ble_eq_true rfl)
  rw [lg_entry_eq]
  generalize (lg_sl ([.ref (ck_ad G 0 0), .int a1, .ref (ck_ad G 21 0)]) ++ List.replicate (4 - (lg_sl ([.ref (ck_ad G 0 0), .int a1, .ref (ck_ad G 21 0)])).length) Slot.unset).toArray = ls at hl ⊢
  have hl : lv_has ls 4 [(0, .ref (ck_ad G 0 0)), (1, .int a1), (2, .ref (ck_ad G 21 0))] := hl
  exact wk_L_bleeding_0 ⟨B.exec, B.bytes, B.returns, hml, findClass_of_methodNamed B.named, atoms_spec (ws := wsL_bleeding) B.pre, B.notSynchronized⟩ hlt hE htab hO21 hC h hw hl
def sp_L_faults (nc nb : Nat) (σ : ck_S) (post : Int32 → ck_S → Prop) : Prop := sp_X6_faults nc nb σ (fun x_2 σ1 => (vp_in 0 1) ∧ ∀ σ4, σ4 = ck_uj σ1 21 0 (Int32.toNatClampNeg 0) (x_2.toInt64) → post 0 σ4) (fun E σ1x => (E = ck_ISE ∧ (post 1 σ1x)))
set_option maxHeartbeats 4000000 in
set_option maxRecDepth 100000 in
theorem wk_L_faults_0 {p : Program} {l : Launch} {e : Env} {s : State} {m : MethodId} {args : Array Value} {below : List Frame} {meth : Method} {c : Code} {G : ck_G} (X : ck_X p s m meth c args cL_faults 3 (some .int) RL wsL_faults) (hlt : l.stackTraces = false) (hE : ck_E (ck_A G s.heap.size) s) (htab : c.exceptionTable.toList = tableOf [(0, 8, 11, 15)]) (hO21 : (21, 0) ∈ ck_Ls G) (hC : ck_inC G) {post : Int32 → ck_S → Prop} {σ : ck_S} {H : Heap} {locs : List Loc} {ls : Array Slot} (h : sp_L_faults (ck_nc G) (ck_nb G) σ post) (hw : ck_H G s H locs σ) (hl : lv_has ls 3 [(0, .ref (ck_ad G 0 0)), (1, .ref (ck_ad G 21 0))]) : W p l e ({ frames := 8, cells := 1, slots := 6, locals := 122 } : Room) s m args below meth c H locs 0 0 (MQ below (va_Qi post (ck_Q G) (ck_A G s.heap.size)) args s 1 6 (ck_A G s.heap.size)) (F0 m 0 ls []) := by
  obtain ⟨hx, hb, hr, hml, hown, hts, hlocks⟩ := id X
  unfold sp_L_faults at h
  refine lv_aload_n hx hb dL_faults_0 rfl (lv_at hl 1 rfl) ?_
  refine lv_iconst (v := 0) hx hb dL_faults_1 (by decide) ?_
  refine lv_aload_n hx hb dL_faults_2 rfl (lv_at hl 0 rfl) ?_
  refine ck_xcallVi (rest := [.int 0, .ref (ck_ad G 21 0)]) ⟨hx, hb, hml, hown, hts⟩ hw hE (hC.1 0 (by decide)) rfl rfl (ct_X6_faults l hlt G hC h) (cwV 0 hts gL_faults_X6_faults rfl rfl rfl (by decide +kernel) ⟨(Nat.le_of_ble_eq_true rfl), (Nat.le_of_ble_eq_true rfl)⟩) rfl hl.1 rfl (Nat.le_of_ble_eq_true rfl) dL_faults_3 ⟨(Nat.le_of_ble_eq_true rfl), (Nat.le_of_ble_eq_true rfl)⟩ ?_ ?_
  · intro E ce q9 σ1x H locs hp hw h1 h2 h3
    rcases hp with ⟨rfl, h⟩
    · refine vx_catch (name := ck_ISE) hown [] ⟨0, 8, 11, 15⟩ [] (htab.trans rfl) (fun z hz => by cases hz) rfl (by decide) (hts _ (List.mem_of_getElem? (i := 1) rfl)) (va_Nw.use rfl hE.2.2.1.1) h1 h2 h3 ?_
      refine lv_astore_n (lv' := [(2, .ref q9), (0, .ref (ck_ad G 0 0)), (1, .ref (ck_ad G 21 0))]) hx hb dL_faults_11 rfl hl (by decide) rfl (fun ls hl => ?_)
      refine lv_iconst (v := 1) hx hb dL_faults_12 (by decide) ?_
      exact ck_iret X hw h dL_faults_13
  · intro x_2 σ1 H locs h hw
    refine lv_i2l hx hb dL_faults_6 rfl ?_
    obtain ⟨n3, h⟩ := h
    refine ck_last hx hb hw hO21 (fun _ => rfl) n3 dL_faults_7 (fun H locs hw => ?_)
    obtain ⟨σ4, eσ4⟩ : ∃ z : ck_S, z = ck_uj σ1 21 0 (Int32.toNatClampNeg 0) (x_2.toInt64) := ⟨_, rfl⟩
    rw [← eσ4] at hw
    have h := h σ4 eσ4
    refine lv_goto (tgt := 14) hx hb dL_faults_8 (by decide) ?_
    refine lv_iconst (v := 0) hx hb dL_faults_14 (by decide) ?_
    exact ck_iret X hw h dL_faults_15
set_option maxHeartbeats 4000000 in
set_option maxRecDepth 100000 in
theorem ct_L_faults (l : Launch) (hlt : l.stackTraces = false) (G : ck_G) (hO21 : (21, 0) ∈ ck_Ls G) (hC : ck_inC G) {σ : ck_S} {post : Int32 → ck_S → Prop} (h : sp_L_faults (ck_nc G) (ck_nb G) σ post) : ck_MEi l yL_faults wsL_faults ({ frames := 8, cells := 1, slots := 6, locals := 122 } : Room) G σ [.ref (ck_ad G 0 0), .ref (ck_ad G 21 0)] post 1 6 := by
  intro sz
  refine va_MetW (cc := cL_faults) (maxL := 3) (ret := (some .int)) (by decide) rfl ?_
  intro p e s m args below meth c s₁ B hml hv
  obtain ⟨rfl, rfl, hw, hE⟩ := ck_enterE hv
  have htab := vx_table (x := yL_faults) B (atoms_spec (ws := wsL_faults) B.pre _ List.mem_cons_self)
  have hl := lv_entry ([.ref (ck_ad G 0 0), .ref (ck_ad G 21 0)]) (n := 3) (Nat.le_of_ble_eq_true rfl)
  rw [lg_entry_eq]
  generalize (lg_sl ([.ref (ck_ad G 0 0), .ref (ck_ad G 21 0)]) ++ List.replicate (3 - (lg_sl ([.ref (ck_ad G 0 0), .ref (ck_ad G 21 0)])).length) Slot.unset).toArray = ls at hl ⊢
  have hl : lv_has ls 3 [(0, .ref (ck_ad G 0 0)), (1, .ref (ck_ad G 21 0))] := hl
  exact wk_L_faults_0 ⟨B.exec, B.bytes, B.returns, hml, findClass_of_methodNamed B.named, atoms_spec (ws := wsL_faults) B.pre, B.notSynchronized⟩ hlt hE htab hO21 hC h hw hl
def sp_L_count (nc nb : Nat) (σ : ck_S) (a1 : Int32) (post : Int32 → ck_S → Prop) : Prop := sp_X6_count nc nb σ a1 (fun x_2 σ1 => (vp_in 0 1) ∧ ∀ σ4, σ4 = ck_uj σ1 21 0 (Int32.toNatClampNeg 0) (x_2.toInt64) → post 0 σ4) (fun E σ1x => (E = ck_IOB ∧ (post 1 σ1x)) ∨ (E = ck_ISE ∧ (post 2 σ1x)))
set_option maxHeartbeats 4000000 in
set_option maxRecDepth 100000 in
theorem wk_L_count_0 {p : Program} {l : Launch} {e : Env} {s : State} {m : MethodId} {args : Array Value} {below : List Frame} {meth : Method} {c : Code} {G : ck_G} (X : ck_X p s m meth c args cL_count 4 (some .int) RL wsL_count) (hlt : l.stackTraces = false) (hE : ck_E (ck_A G s.heap.size) s) (htab : c.exceptionTable.toList = tableOf [(0, 9, 12, 13), (0, 9, 15, 15)]) (hO21 : (21, 0) ∈ ck_Ls G) (hC : ck_inC G) {post : Int32 → ck_S → Prop} {σ : ck_S} {a1 : Int32} {H : Heap} {locs : List Loc} {ls : Array Slot} (h : sp_L_count (ck_nc G) (ck_nb G) σ a1 post) (hw : ck_H G s H locs σ) (hl : lv_has ls 4 [(0, .ref (ck_ad G 0 0)), (1, .int a1), (2, .ref (ck_ad G 21 0))]) : W p l e ({ frames := 8, cells := 2, slots := 12, locals := 124 } : Room) s m args below meth c H locs 0 0 (MQ below (va_Qi post (ck_Q G) (ck_A G s.heap.size)) args s 2 12 (ck_A G s.heap.size)) (F0 m 0 ls []) := by
  obtain ⟨hx, hb, hr, hml, hown, hts, hlocks⟩ := id X
  unfold sp_L_count at h
  refine lv_aload_n hx hb dL_count_0 rfl (lv_at hl 2 rfl) ?_
  refine lv_iconst (v := 0) hx hb dL_count_1 (by decide) ?_
  refine lv_aload_n hx hb dL_count_2 rfl (lv_at hl 0 rfl) ?_
  refine lv_iload_n hx hb dL_count_3 rfl (lv_at hl 1 rfl) ?_
  refine ck_xcallVi (rest := [.int 0, .ref (ck_ad G 21 0)]) ⟨hx, hb, hml, hown, hts⟩ hw hE (hC.1 0 (by decide)) rfl rfl (ct_X6_count l hlt G hC h) (cwV 1 hts gL_count_X6_count rfl rfl rfl (by decide +kernel) ⟨(Nat.le_of_ble_eq_true rfl), (Nat.le_of_ble_eq_true rfl)⟩) rfl hl.1 rfl (Nat.le_of_ble_eq_true rfl) dL_count_4 ⟨(Nat.le_of_ble_eq_true rfl), (Nat.le_of_ble_eq_true rfl)⟩ ?_ ?_
  · intro E ce q9 σ1x H locs hp hw h1 h2 h3
    rcases hp with ⟨rfl, h⟩ | ⟨rfl, h⟩
    · refine vx_catch (name := ck_IOB) hown [] ⟨0, 9, 12, 13⟩ [⟨0, 9, 15, 15⟩] (htab.trans rfl) (fun z hz => by cases hz) rfl (by decide) (hts _ (List.mem_of_getElem? (i := 1) rfl)) (va_Nw.use rfl hE.2.2.1.2.1) h1 h2 h3 ?_
      refine lv_astore_n (lv' := [(3, .ref q9), (0, .ref (ck_ad G 0 0)), (1, .int a1), (2, .ref (ck_ad G 21 0))]) hx hb dL_count_12 rfl hl (by decide) rfl (fun ls hl => ?_)
      refine lv_iconst (v := 1) hx hb dL_count_13 (by decide) ?_
      exact ck_iret X hw h dL_count_14
    · refine vx_catch (name := ck_ISE) hown [⟨0, 9, 12, 13⟩] ⟨0, 9, 15, 15⟩ [] (htab.trans rfl) (fun z hz => by
        simp only [List.mem_cons, List.not_mem_nil, or_false] at hz
        rcases hz with rfl
        · exact Or.inr ⟨by decide, ck_IOB, hts _ (List.mem_of_getElem? (i := 1) rfl), hE.2.2.2.1.1⟩) rfl (by decide) (hts _ (List.mem_of_getElem? (i := 2) rfl)) (va_Nw.use rfl hE.2.2.1.1) h1 h2 h3 ?_
      refine lv_astore_n (lv' := [(3, .ref q9), (0, .ref (ck_ad G 0 0)), (1, .int a1), (2, .ref (ck_ad G 21 0))]) hx hb dL_count_15 rfl hl (by decide) rfl (fun ls hl => ?_)
      refine lv_iconst (v := 2) hx hb dL_count_16 (by decide) ?_
      exact ck_iret X hw h dL_count_17
  · intro x_2 σ1 H locs h hw
    refine lv_i2l hx hb dL_count_7 rfl ?_
    obtain ⟨n3, h⟩ := h
    refine ck_last hx hb hw hO21 (fun _ => rfl) n3 dL_count_8 (fun H locs hw => ?_)
    obtain ⟨σ4, eσ4⟩ : ∃ z : ck_S, z = ck_uj σ1 21 0 (Int32.toNatClampNeg 0) (x_2.toInt64) := ⟨_, rfl⟩
    rw [← eσ4] at hw
    have h := h σ4 eσ4
    refine lv_goto (tgt := 18) hx hb dL_count_9 (by decide) ?_
    refine lv_iconst (v := 0) hx hb dL_count_18 (by decide) ?_
    exact ck_iret X hw h dL_count_19
set_option maxHeartbeats 4000000 in
set_option maxRecDepth 100000 in
theorem ct_L_count (l : Launch) (hlt : l.stackTraces = false) (G : ck_G) (hO21 : (21, 0) ∈ ck_Ls G) (hC : ck_inC G) {a1 : Int32} {σ : ck_S} {post : Int32 → ck_S → Prop} (h : sp_L_count (ck_nc G) (ck_nb G) σ a1 post) : ck_MEi l yL_count wsL_count ({ frames := 8, cells := 2, slots := 12, locals := 124 } : Room) G σ [.ref (ck_ad G 0 0), .int a1, .ref (ck_ad G 21 0)] post 2 12 := by
  intro sz
  refine va_MetW (cc := cL_count) (maxL := 4) (ret := (some .int)) (by decide) rfl ?_
  intro p e s m args below meth c s₁ B hml hv
  obtain ⟨rfl, rfl, hw, hE⟩ := ck_enterE hv
  have htab := vx_table (x := yL_count) B (atoms_spec (ws := wsL_count) B.pre _ List.mem_cons_self)
  have hl := lv_entry ([.ref (ck_ad G 0 0), .int a1, .ref (ck_ad G 21 0)]) (n := 4) (Nat.le_of_ble_eq_true rfl)
  rw [lg_entry_eq]
  generalize (lg_sl ([.ref (ck_ad G 0 0), .int a1, .ref (ck_ad G 21 0)]) ++ List.replicate (4 - (lg_sl ([.ref (ck_ad G 0 0), .int a1, .ref (ck_ad G 21 0)])).length) Slot.unset).toArray = ls at hl ⊢
  have hl : lv_has ls 4 [(0, .ref (ck_ad G 0 0)), (1, .int a1), (2, .ref (ck_ad G 21 0))] := hl
  exact wk_L_count_0 ⟨B.exec, B.bytes, B.returns, hml, findClass_of_methodNamed B.named, atoms_spec (ws := wsL_count) B.pre, B.notSynchronized⟩ hlt hE htab hO21 hC h hw hl
def sp_L_journal (nc nb : Nat) (σ : ck_S) (a1 : Int32) (post : Int32 → ck_S → Prop) : Prop := sp_X6_journal nc nb σ a1 (fun x_2 σ1 => (vp_in 0 1) ∧ ∀ σ4, σ4 = ck_uj σ1 21 0 (Int32.toNatClampNeg 0) (x_2.toInt64) → post 0 σ4) (fun E σ1x => (E = ck_IOB ∧ (post 1 σ1x)))
set_option maxHeartbeats 4000000 in
set_option maxRecDepth 100000 in
theorem wk_L_journal_0 {p : Program} {l : Launch} {e : Env} {s : State} {m : MethodId} {args : Array Value} {below : List Frame} {meth : Method} {c : Code} {G : ck_G} (X : ck_X p s m meth c args cL_journal 4 (some .int) RL wsL_journal) (hlt : l.stackTraces = false) (hE : ck_E (ck_A G s.heap.size) s) (htab : c.exceptionTable.toList = tableOf [(0, 9, 12, 13)]) (hO21 : (21, 0) ∈ ck_Ls G) (hC : ck_inC G) {post : Int32 → ck_S → Prop} {σ : ck_S} {a1 : Int32} {H : Heap} {locs : List Loc} {ls : Array Slot} (h : sp_L_journal (ck_nc G) (ck_nb G) σ a1 post) (hw : ck_H G s H locs σ) (hl : lv_has ls 4 [(0, .ref (ck_ad G 0 0)), (1, .int a1), (2, .ref (ck_ad G 21 0))]) : W p l e ({ frames := 8, cells := 1, slots := 6, locals := 124 } : Room) s m args below meth c H locs 0 0 (MQ below (va_Qi post (ck_Q G) (ck_A G s.heap.size)) args s 1 6 (ck_A G s.heap.size)) (F0 m 0 ls []) := by
  obtain ⟨hx, hb, hr, hml, hown, hts, hlocks⟩ := id X
  unfold sp_L_journal at h
  refine lv_aload_n hx hb dL_journal_0 rfl (lv_at hl 2 rfl) ?_
  refine lv_iconst (v := 0) hx hb dL_journal_1 (by decide) ?_
  refine lv_aload_n hx hb dL_journal_2 rfl (lv_at hl 0 rfl) ?_
  refine lv_iload_n hx hb dL_journal_3 rfl (lv_at hl 1 rfl) ?_
  refine ck_xcallVi (rest := [.int 0, .ref (ck_ad G 21 0)]) ⟨hx, hb, hml, hown, hts⟩ hw hE (hC.1 0 (by decide)) rfl rfl (ct_X6_journal l hlt G hC h) (cwV 1 hts gL_journal_X6_journal rfl rfl rfl (by decide +kernel) ⟨(Nat.le_of_ble_eq_true rfl), (Nat.le_of_ble_eq_true rfl)⟩) rfl hl.1 rfl (Nat.le_of_ble_eq_true rfl) dL_journal_4 ⟨(Nat.le_of_ble_eq_true rfl), (Nat.le_of_ble_eq_true rfl)⟩ ?_ ?_
  · intro E ce q9 σ1x H locs hp hw h1 h2 h3
    rcases hp with ⟨rfl, h⟩
    · refine vx_catch (name := ck_IOB) hown [] ⟨0, 9, 12, 13⟩ [] (htab.trans rfl) (fun z hz => by cases hz) rfl (by decide) (hts _ (List.mem_of_getElem? (i := 1) rfl)) (va_Nw.use rfl hE.2.2.1.2.1) h1 h2 h3 ?_
      refine lv_astore_n (lv' := [(3, .ref q9), (0, .ref (ck_ad G 0 0)), (1, .int a1), (2, .ref (ck_ad G 21 0))]) hx hb dL_journal_12 rfl hl (by decide) rfl (fun ls hl => ?_)
      refine lv_iconst (v := 1) hx hb dL_journal_13 (by decide) ?_
      exact ck_iret X hw h dL_journal_14
  · intro x_2 σ1 H locs h hw
    refine lv_i2l hx hb dL_journal_7 rfl ?_
    obtain ⟨n3, h⟩ := h
    refine ck_last hx hb hw hO21 (fun _ => rfl) n3 dL_journal_8 (fun H locs hw => ?_)
    obtain ⟨σ4, eσ4⟩ : ∃ z : ck_S, z = ck_uj σ1 21 0 (Int32.toNatClampNeg 0) (x_2.toInt64) := ⟨_, rfl⟩
    rw [← eσ4] at hw
    have h := h σ4 eσ4
    refine lv_goto (tgt := 15) hx hb dL_journal_9 (by decide) ?_
    refine lv_iconst (v := 0) hx hb dL_journal_15 (by decide) ?_
    exact ck_iret X hw h dL_journal_16
set_option maxHeartbeats 4000000 in
set_option maxRecDepth 100000 in
theorem ct_L_journal (l : Launch) (hlt : l.stackTraces = false) (G : ck_G) (hO21 : (21, 0) ∈ ck_Ls G) (hC : ck_inC G) {a1 : Int32} {σ : ck_S} {post : Int32 → ck_S → Prop} (h : sp_L_journal (ck_nc G) (ck_nb G) σ a1 post) : ck_MEi l yL_journal wsL_journal ({ frames := 8, cells := 1, slots := 6, locals := 124 } : Room) G σ [.ref (ck_ad G 0 0), .int a1, .ref (ck_ad G 21 0)] post 1 6 := by
  intro sz
  refine va_MetW (cc := cL_journal) (maxL := 4) (ret := (some .int)) (by decide) rfl ?_
  intro p e s m args below meth c s₁ B hml hv
  obtain ⟨rfl, rfl, hw, hE⟩ := ck_enterE hv
  have htab := vx_table (x := yL_journal) B (atoms_spec (ws := wsL_journal) B.pre _ List.mem_cons_self)
  have hl := lv_entry ([.ref (ck_ad G 0 0), .int a1, .ref (ck_ad G 21 0)]) (n := 4) (Nat.le_of_ble_eq_true rfl)
  rw [lg_entry_eq]
  generalize (lg_sl ([.ref (ck_ad G 0 0), .int a1, .ref (ck_ad G 21 0)]) ++ List.replicate (4 - (lg_sl ([.ref (ck_ad G 0 0), .int a1, .ref (ck_ad G 21 0)])).length) Slot.unset).toArray = ls at hl ⊢
  have hl : lv_has ls 4 [(0, .ref (ck_ad G 0 0)), (1, .int a1), (2, .ref (ck_ad G 21 0))] := hl
  exact wk_L_journal_0 ⟨B.exec, B.bytes, B.returns, hml, findClass_of_methodNamed B.named, atoms_spec (ws := wsL_journal) B.pre, B.notSynchronized⟩ hlt hE htab hO21 hC h hw hl
