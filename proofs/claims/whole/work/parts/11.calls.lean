/-! CONTRACTS over the world: a method's postcondition is any 'post' that its own predicate transformer (sp_..) gives. -/
def ck_Q (G : ck_G) : ck_S → State → Prop := fun τ t => va_P (ck_D G) vwCl (ck_W G τ) t.heap ∧ va_K (ck_D G) vwCl (ck_ty G) t
def ck_Pc (G : ck_G) (σ : ck_S) (sz : Nat) (av : List Value) : Array Value → State → Prop := va_Pc av (fun U => U.heap.size = sz ∧ va_K (ck_D G) vwCl (ck_ty G) U ∧ va_P (ck_D G) vwCl (ck_W G σ) U.heap ∧ va_D (fun _ => True) (ck_W G σ))
def ck_Mi (l : Launch) (y : MethodName) (ws : List Cond) (rm : Room) (G : ck_G) (σ : ck_S) (av : List Value) (post : Int32 → ck_S → Prop) : Prop := ∀ sz, Met l y ws rm (ck_Pc G σ sz av) (va_Qi post (ck_Q G) (ck_A G sz)) 0 0 (ck_A G sz)
def ck_Ml (l : Launch) (y : MethodName) (ws : List Cond) (rm : Room) (G : ck_G) (σ : ck_S) (av : List Value) (post : Int64 → ck_S → Prop) : Prop := ∀ sz, Met l y ws rm (ck_Pc G σ sz av) (va_Ql post (ck_Q G) (ck_A G sz)) 0 0 (ck_A G sz)
def ck_Md (l : Launch) (y : MethodName) (ws : List Cond) (rm : Room) (G : ck_G) (σ : ck_S) (av : List Value) (post : UInt64 → ck_S → Prop) : Prop := ∀ sz, Met l y ws rm (ck_Pc G σ sz av) (va_Qd post (ck_Q G) (ck_A G sz)) 0 0 (ck_A G sz)
def ck_Mv (l : Launch) (y : MethodName) (ws : List Cond) (rm : Room) (G : ck_G) (σ : ck_S) (av : List Value) (post : ck_S → Prop) : Prop := ∀ sz, Met l y ws rm (ck_Pc G σ sz av) (va_Qv post (ck_Q G) (ck_A G sz)) 0 0 (ck_A G sz)
theorem ck_enter {G : ck_G} {σ : ck_S} {sz : Nat} {av : List Value} {args : Array Value} {s : State} (h : ck_Pc G σ sz av args s) : args = av.toArray ∧ s.heap.size = sz ∧ ck_H G s s.heap [] σ := by
  obtain ⟨h1, h2, h3, h4, h5⟩ := h
  exact ⟨h1, h2, h3, h4, ck_self _ h5, va_S.rf⟩
theorem ck_blind {G : ck_G} {σ : ck_S} {sz : Nat} {av : List Value} : FrameBlind (ck_Pc G σ sz av) := fun a U g mk h => ⟨h.1, h.2.1, va_K.moved (u := U) (U := U.calling g mk a) (Vm.Alike.refl U.vm) h.2.2.1, h.2.2.2.1, h.2.2.2.2⟩
/-- what every body has at hand -/
def ck_X (p : Program) (s : State) (m : MethodId) (meth : Method) (c : Code) (args : Array Value) (cc : ByteArray) (nL : Nat) (ret : Option FieldType) (own : String) (Ts : List Cond) : Prop :=
  p.tables.exec = Jvm.exec ∧ c.code = cc ∧ meth.sig.returnType = ret ∧ c.maxLocals = nL ∧ s.vm.findClass own = some m.cls ∧ (∀ w ∈ Ts, w.before args s = true) ∧ meth.locks = false
section CKC
variable {p : Program} {l : Launch} {e : Env} {R : Room} {s : State} {m : MethodId} {args : Array Value} {below : List Frame} {meth : Method} {c : Code} {H : Heap} {locs : List Loc} {cells slots : Nat} {Q : State → Prop}
variable {cc bytes : ByteArray} {pc nL maxL n index : Nat} {ls : Array Slot} {rest st As : List Value} {G : ck_G} {σ : ck_S} {f i : Nat} {own C : String} {y : MethodName} {ws Ts : List Cond} {rm : Room} {ret : Option FieldType}
theorem ck_preS (hw : ck_H G s H locs σ) (av : List Value) : PreS s H (ck_Pc G σ H.size av) av := ⟨ck_blind, fun U hU hW => ⟨rfl, by rw [hU], va_K.moved hW.alike hw.1, by rw [hU]; exact hw.2.1, hw.2.2.1.weaken (fun _ _ _ _ => trivial)⟩⟩
theorem ck_recv (hw : ck_H G s H locs σ) (hm : (f, i) ∈ ck_Ls G) {ci : Nat} {fs : List Value} (he : ck_V G σ f i = .inr (ci, fs)) {T : u_T} {N : Nat} (hc : vwCl[ci]? = some (C, T, N)) : ∃ cell : Cell, H[ck_ad G f i]? = some cell ∧ cell.vm.isStatics = false ∧ s.vm.findClass C = some cell.cls := by
  obtain ⟨q, -, hq⟩ := ck_pos (σ := σ) hm
  rw [he] at hq
  exact va_recv hw.1 hw.2.1 hc hq
theorem ck_back (hw : ck_H G s H locs σ) {τ : ck_S} {t : State} {H1 : Heap} {locs1 : List Loc} (ht : t.heap = H1) (hB : ck_Q G τ t) (hS : va_S (ck_A G s.heap.size) s.heap H1 locs1) : ck_H G s H1 locs1 τ :=
  ⟨hw.1, by rw [← ht]; exact hB.1, ck_addr hw.2.2.1, hS⟩
theorem ck_callVi (S : CallFix p m c cc nL s args Ts own) (hw : ck_H G s H locs σ) (hm : (f, i) ∈ ck_Ls G) {ci : Nat} {fs : List Value} (he : ck_V G σ f i = .inr (ci, fs)) {T : u_T} {N : Nat} (hc : vwCl[ci]? = some (C, T, N)) {post : Int32 → ck_S → Prop} (hM : ck_Mi l y ws rm G σ (.ref (ck_ad G f i) :: As) post) (cw : CallW R s args own C index y bytes maxL ret ws rm 0 0 n)
    (hn : As.length = n) (hsize : ls.size = nL) (hst : st = As.reverse ++ .ref (ck_ad G f i) :: rest) (hW : (rest.map fun v => v.category).sum ≤ 8) (hdg : decode cc pc = .ok (.invokevirtual index, 3)) (hf : cells ≤ R.cells ∧ slots ≤ R.slots)
    (kk : ∀ (r : Int32) (τ : ck_S) (H1 : Heap) (locs1 : List Loc), post r τ → ck_H G s H1 locs1 τ → W p l e R s m args below meth c H1 locs1 cells slots Q (F0 m (pc + 3) ls (.int r :: rest))) : W p l e R s m args below meth c H locs cells slots Q (F0 m pc ls st) :=
  va_calli (va_runV (As := As) (rest := rest) S (hM H.size) cw ⟨(ck_preS hw _).1, ck_recv hw hm he hc, (ck_preS hw _).2⟩ rfl hn hsize hst (by show 2 * 0 + _ ≤ 8; omega) hdg hf) hw.2.2.2 (fun q _ h => ck_grow hw q h) (ck_grow hw) (fun r u t H1 locs1 ht hvm hp hB hz hk hS => kk r u H1 locs1 hp (ck_back hw ht hB hS))
theorem ck_callVl (S : CallFix p m c cc nL s args Ts own) (hw : ck_H G s H locs σ) (hm : (f, i) ∈ ck_Ls G) {ci : Nat} {fs : List Value} (he : ck_V G σ f i = .inr (ci, fs)) {T : u_T} {N : Nat} (hc : vwCl[ci]? = some (C, T, N)) {post : Int64 → ck_S → Prop} (hM : ck_Ml l y ws rm G σ (.ref (ck_ad G f i) :: As) post) (cw : CallW R s args own C index y bytes maxL ret ws rm 0 0 n)
    (hn : As.length = n) (hsize : ls.size = nL) (hst : st = As.reverse ++ .ref (ck_ad G f i) :: rest) (hW : (rest.map fun v => v.category).sum ≤ 8) (hdg : decode cc pc = .ok (.invokevirtual index, 3)) (hf : cells ≤ R.cells ∧ slots ≤ R.slots)
    (kk : ∀ (r : Int64) (τ : ck_S) (H1 : Heap) (locs1 : List Loc), post r τ → ck_H G s H1 locs1 τ → W p l e R s m args below meth c H1 locs1 cells slots Q (F0 m (pc + 3) ls (.long r :: rest))) : W p l e R s m args below meth c H locs cells slots Q (F0 m pc ls st) :=
  va_calll (va_runV (As := As) (rest := rest) S (hM H.size) cw ⟨(ck_preS hw _).1, ck_recv hw hm he hc, (ck_preS hw _).2⟩ rfl hn hsize hst (by show 2 * 0 + _ ≤ 8; omega) hdg hf) hw.2.2.2 (fun q _ h => ck_grow hw q h) (ck_grow hw) (fun r u t H1 locs1 ht hvm hp hB hz hk hS => kk r u H1 locs1 hp (ck_back hw ht hB hS))
theorem ck_callVd (S : CallFix p m c cc nL s args Ts own) (hw : ck_H G s H locs σ) (hm : (f, i) ∈ ck_Ls G) {ci : Nat} {fs : List Value} (he : ck_V G σ f i = .inr (ci, fs)) {T : u_T} {N : Nat} (hc : vwCl[ci]? = some (C, T, N)) {post : UInt64 → ck_S → Prop} (hM : ck_Md l y ws rm G σ (.ref (ck_ad G f i) :: As) post) (cw : CallW R s args own C index y bytes maxL ret ws rm 0 0 n)
    (hn : As.length = n) (hsize : ls.size = nL) (hst : st = As.reverse ++ .ref (ck_ad G f i) :: rest) (hW : (rest.map fun v => v.category).sum ≤ 8) (hdg : decode cc pc = .ok (.invokevirtual index, 3)) (hf : cells ≤ R.cells ∧ slots ≤ R.slots)
    (kk : ∀ (r : UInt64) (τ : ck_S) (H1 : Heap) (locs1 : List Loc), post r τ → ck_H G s H1 locs1 τ → W p l e R s m args below meth c H1 locs1 cells slots Q (F0 m (pc + 3) ls (.double r :: rest))) : W p l e R s m args below meth c H locs cells slots Q (F0 m pc ls st) :=
  va_calld (va_runV (As := As) (rest := rest) S (hM H.size) cw ⟨(ck_preS hw _).1, ck_recv hw hm he hc, (ck_preS hw _).2⟩ rfl hn hsize hst (by show 2 * 0 + _ ≤ 8; omega) hdg hf) hw.2.2.2 (fun q _ h => ck_grow hw q h) (ck_grow hw) (fun r u t H1 locs1 ht hvm hp hB hz hk hS => kk r u H1 locs1 hp (ck_back hw ht hB hS))
theorem ck_callVv (S : CallFix p m c cc nL s args Ts own) (hw : ck_H G s H locs σ) (hm : (f, i) ∈ ck_Ls G) {ci : Nat} {fs : List Value} (he : ck_V G σ f i = .inr (ci, fs)) {T : u_T} {N : Nat} (hc : vwCl[ci]? = some (C, T, N)) {post : ck_S → Prop} (hM : ck_Mv l y ws rm G σ (.ref (ck_ad G f i) :: As) post) (cw : CallW R s args own C index y bytes maxL ret ws rm 0 0 n)
    (hn : As.length = n) (hsize : ls.size = nL) (hst : st = As.reverse ++ .ref (ck_ad G f i) :: rest) (hW : (rest.map fun v => v.category).sum ≤ 8) (hdg : decode cc pc = .ok (.invokevirtual index, 3)) (hf : cells ≤ R.cells ∧ slots ≤ R.slots)
    (kk : ∀ (τ : ck_S) (H1 : Heap) (locs1 : List Loc), post τ → ck_H G s H1 locs1 τ → W p l e R s m args below meth c H1 locs1 cells slots Q (F0 m (pc + 3) ls rest)) : W p l e R s m args below meth c H locs cells slots Q (F0 m pc ls st) :=
  va_callv (va_runV (As := As) (rest := rest) S (hM H.size) cw ⟨(ck_preS hw _).1, ck_recv hw hm he hc, (ck_preS hw _).2⟩ rfl hn hsize hst (by show 2 * 0 + _ ≤ 8; omega) hdg hf) hw.2.2.2 (fun q _ h => ck_grow hw q h) (ck_grow hw) (fun u t H1 locs1 ht hvm hp hB hz hk hS => kk u H1 locs1 hp (ck_back hw ht hB hS))
theorem ck_callSi (S : CallFix p m c cc nL s args Ts own) (hw : ck_H G s H locs σ) {post : Int32 → ck_S → Prop} (hM : ck_Mi l y ws rm G σ As post) (cw : CallB R s args own index y bytes maxL ret ws rm 0 0 n ∧ (Cond.static y).before args s = true)
    (hn : As.length = n) (hsize : ls.size = nL) (hst : st = As.reverse ++ rest) (hW : (rest.map fun v => v.category).sum ≤ 8) (hdg : decode cc pc = .ok (.invokestatic index, 3)) (hf : cells ≤ R.cells ∧ slots ≤ R.slots)
    (kk : ∀ (r : Int32) (τ : ck_S) (H1 : Heap) (locs1 : List Loc), post r τ → ck_H G s H1 locs1 τ → W p l e R s m args below meth c H1 locs1 cells slots Q (F0 m (pc + 3) ls (.int r :: rest))) : W p l e R s m args below meth c H locs cells slots Q (F0 m pc ls st) :=
  va_calli (va_runS (As := As) (rest := rest) S (hM H.size) cw (ck_preS hw _) rfl hn hsize hst (by show 2 * 0 + _ ≤ 8; omega) hdg hf) hw.2.2.2 (fun q _ h => ck_grow hw q h) (ck_grow hw) (fun r u t H1 locs1 ht hvm hp hB hz hk hS => kk r u H1 locs1 hp (ck_back hw ht hB hS))
theorem ck_callSl (S : CallFix p m c cc nL s args Ts own) (hw : ck_H G s H locs σ) {post : Int64 → ck_S → Prop} (hM : ck_Ml l y ws rm G σ As post) (cw : CallB R s args own index y bytes maxL ret ws rm 0 0 n ∧ (Cond.static y).before args s = true)
    (hn : As.length = n) (hsize : ls.size = nL) (hst : st = As.reverse ++ rest) (hW : (rest.map fun v => v.category).sum ≤ 8) (hdg : decode cc pc = .ok (.invokestatic index, 3)) (hf : cells ≤ R.cells ∧ slots ≤ R.slots)
    (kk : ∀ (r : Int64) (τ : ck_S) (H1 : Heap) (locs1 : List Loc), post r τ → ck_H G s H1 locs1 τ → W p l e R s m args below meth c H1 locs1 cells slots Q (F0 m (pc + 3) ls (.long r :: rest))) : W p l e R s m args below meth c H locs cells slots Q (F0 m pc ls st) :=
  va_calll (va_runS (As := As) (rest := rest) S (hM H.size) cw (ck_preS hw _) rfl hn hsize hst (by show 2 * 0 + _ ≤ 8; omega) hdg hf) hw.2.2.2 (fun q _ h => ck_grow hw q h) (ck_grow hw) (fun r u t H1 locs1 ht hvm hp hB hz hk hS => kk r u H1 locs1 hp (ck_back hw ht hB hS))
theorem ck_iret (hx : ck_X p s m meth c args cc nL (some .int) own Ts) (hw : ck_H G s H locs σ) {post : Int32 → ck_S → Prop} {v : Int32} (hp : post v σ) (hdg : decode cc pc = .ok (.ireturn, 1)) : W p l e R s m args below meth c H locs cells slots (MQ below (va_Qi post (ck_Q G) (ck_A G s.heap.size)) args s cells slots (ck_A G s.heap.size)) (F0 m pc ls [.int v]) :=
  W.iret hx.1 hx.2.1 hx.2.2.1 (fun t ht hW => ⟨⟨v, σ, rfl, hp, by rw [ht]; exact hw.2.1, va_K.moved hW.alike hw.1⟩, hw.2.2.2.F ht⟩) hw.2.2.2.2.2 hdg hx.2.2.2.2.2.2
theorem ck_zret (hx : ck_X p s m meth c args cc nL (some .boolean) own Ts) (hw : ck_H G s H locs σ) {post : Int32 → ck_S → Prop} {v : Int32} (hp : ck_b v ∧ post v σ) (hdg : decode cc pc = .ok (.ireturn, 1)) : W p l e R s m args below meth c H locs cells slots (MQ below (va_Qi post (ck_Q G) (ck_A G s.heap.size)) args s cells slots (ck_A G s.heap.size)) (F0 m pc ls [.int v]) :=
  W.zret hx.1 hx.2.1 hx.2.2.1 (ck_b_n hp.1) (fun t ht hW => ⟨⟨v, σ, rfl, hp.2, by rw [ht]; exact hw.2.1, va_K.moved hW.alike hw.1⟩, hw.2.2.2.F ht⟩) hw.2.2.2.2.2 hdg hx.2.2.2.2.2.2
theorem ck_lret (hx : ck_X p s m meth c args cc nL (some .long) own Ts) (hw : ck_H G s H locs σ) {post : Int64 → ck_S → Prop} {v : Int64} (hp : post v σ) (hdg : decode cc pc = .ok (.lreturn, 1)) : W p l e R s m args below meth c H locs cells slots (MQ below (va_Ql post (ck_Q G) (ck_A G s.heap.size)) args s cells slots (ck_A G s.heap.size)) (F0 m pc ls [.long v]) :=
  W.lret hx.1 hx.2.1 hx.2.2.1 (fun t ht hW => ⟨⟨v, σ, rfl, hp, by rw [ht]; exact hw.2.1, va_K.moved hW.alike hw.1⟩, hw.2.2.2.F ht⟩) hw.2.2.2.2.2 hdg hx.2.2.2.2.2.2
theorem ck_dret (hx : ck_X p s m meth c args cc nL (some .double) own Ts) (hw : ck_H G s H locs σ) {post : UInt64 → ck_S → Prop} {v : UInt64} (hp : post v σ) (hdg : decode cc pc = .ok (.dreturn, 1)) : W p l e R s m args below meth c H locs cells slots (MQ below (va_Qd post (ck_Q G) (ck_A G s.heap.size)) args s cells slots (ck_A G s.heap.size)) (F0 m pc ls [.double v]) :=
  W.dret hx.1 hx.2.1 hx.2.2.1 (fun t ht hW => ⟨⟨v, σ, rfl, hp, by rw [ht]; exact hw.2.1, va_K.moved hW.alike hw.1⟩, hw.2.2.2.F ht⟩) hw.2.2.2.2.2 hdg hx.2.2.2.2.2.2
theorem ck_vret (hx : ck_X p s m meth c args cc nL none own Ts) (hw : ck_H G s H locs σ) {post : ck_S → Prop} (hp : post σ) (hdg : decode cc pc = .ok (.return_, 1)) : W p l e R s m args below meth c H locs cells slots (MQ below (va_Qv post (ck_Q G) (ck_A G s.heap.size)) args s cells slots (ck_A G s.heap.size)) (F0 m pc ls []) :=
  W.vret hx.1 hx.2.1 hx.2.2.1 (fun t ht hW => ⟨⟨σ, rfl, hp, by rw [ht]; exact hw.2.1, va_K.moved hW.alike hw.1⟩, hw.2.2.2.F ht⟩) hw.2.2.2.2.2 hdg hx.2.2.2.2.2.2
end CKC
theorem ck_in {x : Int32} {n : Nat} (h : vp_in x n) : x.toNatClampNeg < n := Nat.not_le.mp fun q => h (Or.inr q)
/-- the contract of a method of java.lang.Math that no table of natives has: as Met.ofW, with 'plainFor' -/
theorem ck_ofWF {l : Launch} {y : MethodName} {ws ws' : List Cond} {rm : Room} {Pc : Array Value → State → Prop} {Qc : Array Value → State → Outcome → State → Prop} {mc ms : Nat} {free : Addr → Prop} {cc : ByteArray} {maxL : Nat} {ret : Option FieldType}
    (hy : plainFor y = true) (hw : ws = Cond.code y cc maxL ret :: ws')
    (body : ∀ p e s m args below meth c s₁, BodyLoose p l y (headSpec ws rm) cc maxL ret e s m args below meth c s₁ → c.maxLocals = maxL → Pc args s →
      W p l e (headSpec ws rm).room s m args below meth c s.heap [] 0 0 (MQ below Qc args s mc ms free) (entryFrame m args maxL)) : Met l y ws rm Pc Qc mc ms free := by
  refine MetFree.of_bodySF (code := cc) (maxLocals := maxL) (ret := ret) hy ?_ ?_
  · intro args s m h hn
    obtain ⟨meth, c, h1, h2, h3, h4, h5, h6, -, -⟩ := Cond.code_spec hn (atoms_spec (ws := ws) h _ (by rw [hw]; exact List.mem_cons_self))
    exact ⟨meth, c, h1, h2, h3, h4, h5, h6⟩
  · intro p e s m args below meth c s₁ B hml hP _
    have hh0 : s₁.heap = s.heap := by rw [B.state]; rfl
    obtain ⟨t, a1, o, b1, b2, b3⟩ := body p e s m args below meth c s₁ B hml hP s₁ hh0 (Stand.of_body B)
    exact ⟨t, o, a1, b1, b2, ⟨b3.1, b3.2⟩⟩
