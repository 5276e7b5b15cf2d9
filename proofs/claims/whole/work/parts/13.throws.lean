/-! WHAT A THROW, and the two static tables, need of the start: it stays true while only the world's own cells change. -/
abbrev ck_ISE : String := "java/lang/IllegalStateException"
abbrev ck_IOB : String := "java/lang/IndexOutOfBoundsException"
abbrev ck_IAE : String := "java/lang/IllegalArgumentException"
abbrev ck_RTE : List String := ["java/lang/RuntimeException", "java/lang/Exception"]
/-- the class's two tables -/
def ck_RM : Nat → Int32 := fun k => match k with | 0 => 3000 | 1 => 3300 | 2 => 3500 | 3 => 3650 | 4 => 3800 | 5 => 4000 | _ => 4150
def ck_RP : Nat → Int32 := fun k => match k with | 0 => 0 | 1 => 102 | 2 => 256 | 3 => 512 | 4 => 717 | 5 => 922 | _ => 1024
def ck_Za (n : String) (xs : Nat → Int32) (A : Nat → Prop) (U : State) : Prop := ∃ z : Nat, va_Z RX6 n "[I" (.ref z) A U U.heap ∧ va_T .int z 7 (fun j => .int (xs j)) A U U.heap
def ck_E (A : Nat → Prop) (U : State) : Prop :=
  (vx_Zq Bundle.tN "UNASSIGNED_STACK" Bundle.steD A U U.heap ∧ vx_Zq Bundle.tN "SUPPRESSED_SENTINEL" Bundle.listD A U U.heap) ∧
  ((∃ a, vk_R RX6 196 "the power is off" a U) ∧ (∃ a, vk_R RX6 203 "there is no such chip, cell, byte, fault or cause" a U) ∧ (∃ a, vk_R RX6 208 "the number is out of its range" a U) ∧ (∃ a, vk_R RX6 213 "the amount is out of its range or no multiple of 0.125" a U)) ∧
  (va_Nw (.castable ck_ISE ck_ISE) U ∧ va_Nw (.castable ck_IOB ck_IOB) U ∧ va_Nw (.castable ck_IAE ck_IAE) U ∧ va_Nw (.declares (Bundle.initS "java/lang/RuntimeException")) U ∧ va_Nw (.declares (Bundle.initS "java/lang/Exception")) U ∧ va_Nw (.declares (Bundle.initS Bundle.tN)) U) ∧
  (va_Nc ck_ISE ck_IOB U ∧ va_Nc ck_ISE ck_IAE U ∧ va_Nc ck_IAE ck_IOB U) ∧
  (ck_Za "REST_MILLIVOLTS" ck_RM A U ∧ ck_Za "REST_PARTS" ck_RP A U)
theorem ck_Za.at {n : String} {xs : Nat → Int32} {A B : Nat → Prop} {s U : State} {H : Heap} (h : ck_Za n xs A s) (hU : U.heap = H) (hvm : s.vm.Alike U.vm) (hz : s.heap.size ≤ H.size) (hq : ∀ a : Nat, a < s.heap.size → ¬ A a → H[a]? = s.heap[a]?) (hAB : ∀ q, B q → A q) : ck_Za n xs B U := by
  obtain ⟨z, h1, h2⟩ := h
  exact ⟨z, va_Z.moved hvm (by rw [hU]; exact va_Z.narrow (va_Z.kept h1 hq) hAB), va_T.moved hvm (by rw [hU]; exact va_T.narrow (va_T.kept h2 hq) hAB)⟩
theorem ck_E.at {A B : Nat → Prop} {s U : State} {H : Heap} (h : ck_E A s) (hU : U.heap = H) (hW : s.WarmedH U.vm) (hz : s.heap.size ≤ H.size) (hq : ∀ a : Nat, a < s.heap.size → ¬ A a → H[a]? = s.heap[a]?) (hAB : ∀ q, B q → A q) : ck_E B U := by
  obtain ⟨⟨h1, h2⟩, ⟨⟨a1, g1⟩, ⟨a2, g2⟩, ⟨a3, g3⟩, ⟨a4, g4⟩⟩, ⟨c1, c2, c3, e1, e2, e3⟩, ⟨n1, n2, n3⟩, z1, z2⟩ := h
  refine ⟨⟨vx_Zq.moved hW.alike (by rw [hU]; exact vx_Zq.narrow (vx_Zq.kept h1 hq) hAB), vx_Zq.moved hW.alike (by rw [hU]; exact vx_Zq.narrow (vx_Zq.kept h2 hq) hAB)⟩, ⟨⟨a1, vk_R.warm hW g1⟩, ⟨a2, vk_R.warm hW g2⟩, ⟨a3, vk_R.warm hW g3⟩, ⟨a4, vk_R.warm hW g4⟩⟩, ⟨va_Nw.warmC hW c1, va_Nw.warmC hW c2, va_Nw.warmC hW c3, va_Nw.warmD hW e1, va_Nw.warmD hW e2, va_Nw.warmD hW e3⟩, ⟨va_Nc.moved hW.alike n1, va_Nc.moved hW.alike n2, va_Nc.moved hW.alike n3⟩, ?_, ?_⟩
  · exact z1.at hU hW.alike hz hq hAB
  · exact z2.at hU hW.alike hz hq hAB
def ck_PcE (G : ck_G) (σ : ck_S) (sz : Nat) (av : List Value) : Array Value → State → Prop := va_Pc av (fun U => (U.heap.size = sz ∧ va_K (ck_D G) vwCl (ck_ty G) U ∧ va_P (ck_D G) vwCl (ck_W G σ) U.heap ∧ va_D (fun _ => True) (ck_W G σ)) ∧ ck_E (ck_A G sz) U)
theorem ck_enterE {G : ck_G} {σ : ck_S} {sz : Nat} {av : List Value} {args : Array Value} {s : State} (h : ck_PcE G σ sz av args s) : args = av.toArray ∧ s.heap.size = sz ∧ ck_H G s s.heap [] σ ∧ ck_E (ck_A G sz) s := by
  obtain ⟨h1, ⟨h2, h3, h4, h5⟩, h6⟩ := h
  exact ⟨h1, h2, ⟨h3, h4, ck_self _ h5, va_S.rf⟩, h6⟩
theorem ck_blindE {G : ck_G} {σ : ck_S} {sz : Nat} {av : List Value} : FrameBlind (ck_PcE G σ sz av) := fun a U g mk h =>
  ⟨h.1, ⟨h.2.1.1, va_K.moved (u := U) (U := U.calling g mk a) (Vm.Alike.refl U.vm) h.2.1.2.1, h.2.1.2.2.1, h.2.1.2.2.2⟩, h.2.2.at (H := U.heap) rfl (State.WarmedH.refl U) (Nat.le_refl _) (fun _ _ _ => rfl) (fun _ h => h)⟩
/-- contracts of methods that return, with what a throw needs -/
def ck_MEi (l : Launch) (y : MethodName) (ws : List Cond) (rm : Room) (G : ck_G) (σ : ck_S) (av : List Value) (post : Int32 → ck_S → Prop) (mc ms : Nat) : Prop := ∀ sz, Met l y ws rm (ck_PcE G σ sz av) (va_Qi post (ck_Q G) (ck_A G sz)) mc ms (ck_A G sz)
def ck_MEv (l : Launch) (y : MethodName) (ws : List Cond) (rm : Room) (G : ck_G) (σ : ck_S) (av : List Value) (post : ck_S → Prop) (mc ms : Nat) : Prop := ∀ sz, Met l y ws rm (ck_PcE G σ sz av) (va_Qv post (ck_Q G) (ck_A G sz)) mc ms (ck_A G sz)
/-- .. of methods that return or throw -/
def ck_XC (G : ck_G) (px : String → ck_S → Prop) (A : Nat → Prop) : String → State → State → Prop := vx_X (fun u : String × ck_S => px u.1 u.2) (fun E u t => E = u.1 ∧ ck_Q G u.2 t) A
def ck_Xi (l : Launch) (y : MethodName) (ws : List Cond) (rm : Room) (G : ck_G) (σ : ck_S) (av : List Value) (post : Int32 → ck_S → Prop) (px : String → ck_S → Prop) (mc ms : Nat) : Prop := ∀ sz, vx_Met l y ws rm (ck_PcE G σ sz av) (va_Qi post (ck_Q G) (ck_A G sz)) (ck_XC G px (ck_A G sz)) mc ms (ck_A G sz)
def ck_Xd (l : Launch) (y : MethodName) (ws : List Cond) (rm : Room) (G : ck_G) (σ : ck_S) (av : List Value) (post : UInt64 → ck_S → Prop) (px : String → ck_S → Prop) (mc ms : Nat) : Prop := ∀ sz, vx_Met l y ws rm (ck_PcE G σ sz av) (va_Qd post (ck_Q G) (ck_A G sz)) (ck_XC G px (ck_A G sz)) mc ms (ck_A G sz)
def ck_Xv (l : Launch) (y : MethodName) (ws : List Cond) (rm : Room) (G : ck_G) (σ : ck_S) (av : List Value) (post : ck_S → Prop) (px : String → ck_S → Prop) (mc ms : Nat) : Prop := ∀ sz, vx_Met l y ws rm (ck_PcE G σ sz av) (va_Qv post (ck_Q G) (ck_A G sz)) (ck_XC G px (ck_A G sz)) mc ms (ck_A G sz)
section CKE
variable {p : Program} {l : Launch} {e : Env} {R : Room} {s : State} {m : MethodId} {args : Array Value} {below : List Frame} {meth : Method} {c : Code} {H : Heap} {locs : List Loc} {cells slots : Nat} {Q : State → Prop}
variable {cc bytes : ByteArray} {pc nL maxL n index mc ms : Nat} {ls : Array Slot} {rest st As : List Value} {G : ck_G} {σ : ck_S} {f i : Nat} {own C : String} {y : MethodName} {ws Ts : List Cond} {rm : Room} {ret : Option FieldType}
theorem ck_preSE (hw : ck_H G s H locs σ) (hE : ck_E (ck_A G s.heap.size) s) (av : List Value) : PreS s H (ck_PcE G σ H.size av) av := ⟨ck_blindE, fun U hU hW => ⟨rfl, ⟨by rw [hU], va_K.moved hW.alike hw.1, by rw [hU]; exact hw.2.1, hw.2.2.1.weaken (fun _ _ _ _ => trivial)⟩, hE.at hU hW hw.2.2.2.1 hw.2.2.2.2.1 (ck_grow hw)⟩⟩
theorem ck_ecallVv (S : CallFix p m c cc nL s args Ts own) (hw : ck_H G s H locs σ) (hE : ck_E (ck_A G s.heap.size) s) (hm : (f, i) ∈ ck_Ls G) {ci : Nat} {fs : List Value} (he : ck_V G σ f i = .inr (ci, fs)) {T : u_T} {N : Nat} (hc : vwCl[ci]? = some (C, T, N)) {post : ck_S → Prop} (hM : ck_MEv l y ws rm G σ (.ref (ck_ad G f i) :: As) post mc ms) (cw : CallW R s args own C index y bytes maxL ret ws rm mc ms n)
    (hn : As.length = n) (hsize : ls.size = nL) (hst : st = As.reverse ++ .ref (ck_ad G f i) :: rest) (hW : (rest.map fun v => v.category).sum ≤ 8) (hdg : decode cc pc = .ok (.invokevirtual index, 3)) (hf : cells + mc ≤ R.cells ∧ slots + ms ≤ R.slots)
    (kk : ∀ (τ : ck_S) (H1 : Heap) (locs1 : List Loc), post τ → ck_H G s H1 locs1 τ → W p l e R s m args below meth c H1 locs1 (cells + mc) (slots + ms) Q (F0 m (pc + 3) ls rest)) : W p l e R s m args below meth c H locs cells slots Q (F0 m pc ls st) :=
  va_callv (va_runV (As := As) (rest := rest) S (hM H.size) cw ⟨(ck_preSE hw hE _).1, ck_recv hw hm he hc, (ck_preSE hw hE _).2⟩ rfl hn hsize hst (by show 2 * 0 + _ ≤ 8; omega) hdg hf) hw.2.2.2 (fun q _ h => ck_grow hw q h) (ck_grow hw) (fun u t H1 locs1 ht hvm hp hB hz hk hS => kk u H1 locs1 hp (ck_back hw ht hB hS))
theorem ck_ecallSi (S : CallFix p m c cc nL s args Ts own) (hw : ck_H G s H locs σ) (hE : ck_E (ck_A G s.heap.size) s) {post : Int32 → ck_S → Prop} (hM : ck_MEi l y ws rm G σ As post mc ms) (cw : CallB R s args own index y bytes maxL ret ws rm mc ms n ∧ (Cond.static y).before args s = true)
    (hn : As.length = n) (hsize : ls.size = nL) (hst : st = As.reverse ++ rest) (hW : (rest.map fun v => v.category).sum ≤ 8) (hdg : decode cc pc = .ok (.invokestatic index, 3)) (hf : cells + mc ≤ R.cells ∧ slots + ms ≤ R.slots)
    (kk : ∀ (r : Int32) (τ : ck_S) (H1 : Heap) (locs1 : List Loc), post r τ → ck_H G s H1 locs1 τ → W p l e R s m args below meth c H1 locs1 (cells + mc) (slots + ms) Q (F0 m (pc + 3) ls (.int r :: rest))) : W p l e R s m args below meth c H locs cells slots Q (F0 m pc ls st) :=
  va_calli (va_runS (As := As) (rest := rest) S (hM H.size) cw (ck_preSE hw hE _) rfl hn hsize hst (by show 2 * 0 + _ ≤ 8; omega) hdg hf) hw.2.2.2 (fun q _ h => ck_grow hw q h) (ck_grow hw) (fun r u t H1 locs1 ht hvm hp hB hz hk hS => kk r u H1 locs1 hp (ck_back hw ht hB hS))
/-- a call that may throw: its exception goes where 'kx' says -/
theorem ck_xcallVv (S : CallFix p m c cc nL s args Ts own) (hw : ck_H G s H locs σ) (hE : ck_E (ck_A G s.heap.size) s) (hm : (f, i) ∈ ck_Ls G) {ci : Nat} {fs : List Value} (he : ck_V G σ f i = .inr (ci, fs)) {T : u_T} {N : Nat} (hc : vwCl[ci]? = some (C, T, N)) {post : ck_S → Prop} {px : String → ck_S → Prop} (hM : ck_Xv l y ws rm G σ (.ref (ck_ad G f i) :: As) post px mc ms) (cw : CallW R s args own C index y bytes maxL ret ws rm mc ms n)
    (hn : As.length = n) (hsize : ls.size = nL) (hst : st = As.reverse ++ .ref (ck_ad G f i) :: rest) (hW : (rest.map fun v => v.category).sum ≤ 8) (hdg : decode cc pc = .ok (.invokevirtual index, 3)) (hf : cells + mc ≤ R.cells ∧ slots + ms ≤ R.slots)
    (kx : ∀ (E : String) (ce : Cell) (q9 : Addr) (τ : ck_S) (H1 : Heap) (locs1 : List Loc), px E τ → ck_H G s H1 locs1 τ → H1[q9]? = some ce → ce.vm = .none → s.vm.findClass E = some ce.cls → vx_W p l e R s m args below meth c H1 locs1 (cells + mc) (slots + ms) Q (F0 m pc ls rest) q9)
    (kk : ∀ (τ : ck_S) (H1 : Heap) (locs1 : List Loc), post τ → ck_H G s H1 locs1 τ → W p l e R s m args below meth c H1 locs1 (cells + mc) (slots + ms) Q (F0 m (pc + 3) ls rest)) : W p l e R s m args below meth c H locs cells slots Q (F0 m pc ls st) :=
  vx_callv (vx_runV (As := As) (rest := rest) S (hM H.size) cw ⟨(ck_preSE hw hE _).1, ck_recv hw hm he hc, (ck_preSE hw hE _).2⟩ rfl hn hsize hst (by show 2 * 0 + _ ≤ 8; omega) hdg hf) hw.2.2.2 (fun q _ h => ck_grow hw q h) (ck_grow hw) (fun q _ h => ck_grow hw q h)
    (fun E ce q9 u t H1 locs1 ht hvm hp hB hz hk hS h1 h2 h3 => by obtain ⟨rfl, hB⟩ := hB; exact kx u.1 ce q9 u.2 H1 locs1 hp (ck_back hw ht hB hS) h1 h2 h3)
    (fun u t H1 locs1 ht hvm hp hB hz hk hS => kk u H1 locs1 hp (ck_back hw ht hB hS))
theorem ck_xcallVi (S : CallFix p m c cc nL s args Ts own) (hw : ck_H G s H locs σ) (hE : ck_E (ck_A G s.heap.size) s) (hm : (f, i) ∈ ck_Ls G) {ci : Nat} {fs : List Value} (he : ck_V G σ f i = .inr (ci, fs)) {T : u_T} {N : Nat} (hc : vwCl[ci]? = some (C, T, N)) {post : Int32 → ck_S → Prop} {px : String → ck_S → Prop} (hM : ck_Xi l y ws rm G σ (.ref (ck_ad G f i) :: As) post px mc ms) (cw : CallW R s args own C index y bytes maxL ret ws rm mc ms n)
    (hn : As.length = n) (hsize : ls.size = nL) (hst : st = As.reverse ++ .ref (ck_ad G f i) :: rest) (hW : (rest.map fun v => v.category).sum ≤ 8) (hdg : decode cc pc = .ok (.invokevirtual index, 3)) (hf : cells + mc ≤ R.cells ∧ slots + ms ≤ R.slots)
    (kx : ∀ (E : String) (ce : Cell) (q9 : Addr) (τ : ck_S) (H1 : Heap) (locs1 : List Loc), px E τ → ck_H G s H1 locs1 τ → H1[q9]? = some ce → ce.vm = .none → s.vm.findClass E = some ce.cls → vx_W p l e R s m args below meth c H1 locs1 (cells + mc) (slots + ms) Q (F0 m pc ls rest) q9)
    (kk : ∀ (r : Int32) (τ : ck_S) (H1 : Heap) (locs1 : List Loc), post r τ → ck_H G s H1 locs1 τ → W p l e R s m args below meth c H1 locs1 (cells + mc) (slots + ms) Q (F0 m (pc + 3) ls (.int r :: rest))) : W p l e R s m args below meth c H locs cells slots Q (F0 m pc ls st) :=
  vx_calli (vx_runV (As := As) (rest := rest) S (hM H.size) cw ⟨(ck_preSE hw hE _).1, ck_recv hw hm he hc, (ck_preSE hw hE _).2⟩ rfl hn hsize hst (by show 2 * 0 + _ ≤ 8; omega) hdg hf) hw.2.2.2 (fun q _ h => ck_grow hw q h) (ck_grow hw) (fun q _ h => ck_grow hw q h)
    (fun E ce q9 u t H1 locs1 ht hvm hp hB hz hk hS h1 h2 h3 => by obtain ⟨rfl, hB⟩ := hB; exact kx u.1 ce q9 u.2 H1 locs1 hp (ck_back hw ht hB hS) h1 h2 h3)
    (fun r u t H1 locs1 ht hvm hp hB hz hk hS => kk r u H1 locs1 hp (ck_back hw ht hB hS))
theorem ck_xcallVd (S : CallFix p m c cc nL s args Ts own) (hw : ck_H G s H locs σ) (hE : ck_E (ck_A G s.heap.size) s) (hm : (f, i) ∈ ck_Ls G) {ci : Nat} {fs : List Value} (he : ck_V G σ f i = .inr (ci, fs)) {T : u_T} {N : Nat} (hc : vwCl[ci]? = some (C, T, N)) {post : UInt64 → ck_S → Prop} {px : String → ck_S → Prop} (hM : ck_Xd l y ws rm G σ (.ref (ck_ad G f i) :: As) post px mc ms) (cw : CallW R s args own C index y bytes maxL ret ws rm mc ms n)
    (hn : As.length = n) (hsize : ls.size = nL) (hst : st = As.reverse ++ .ref (ck_ad G f i) :: rest) (hW : (rest.map fun v => v.category).sum ≤ 8) (hdg : decode cc pc = .ok (.invokevirtual index, 3)) (hf : cells + mc ≤ R.cells ∧ slots + ms ≤ R.slots)
    (kx : ∀ (E : String) (ce : Cell) (q9 : Addr) (τ : ck_S) (H1 : Heap) (locs1 : List Loc), px E τ → ck_H G s H1 locs1 τ → H1[q9]? = some ce → ce.vm = .none → s.vm.findClass E = some ce.cls → vx_W p l e R s m args below meth c H1 locs1 (cells + mc) (slots + ms) Q (F0 m pc ls rest) q9)
    (kk : ∀ (r : UInt64) (τ : ck_S) (H1 : Heap) (locs1 : List Loc), post r τ → ck_H G s H1 locs1 τ → W p l e R s m args below meth c H1 locs1 (cells + mc) (slots + ms) Q (F0 m (pc + 3) ls (.double r :: rest))) : W p l e R s m args below meth c H locs cells slots Q (F0 m pc ls st) :=
  vx_calld (vx_runV (As := As) (rest := rest) S (hM H.size) cw ⟨(ck_preSE hw hE _).1, ck_recv hw hm he hc, (ck_preSE hw hE _).2⟩ rfl hn hsize hst (by show 2 * 0 + _ ≤ 8; omega) hdg hf) hw.2.2.2 (fun q _ h => ck_grow hw q h) (ck_grow hw) (fun q _ h => ck_grow hw q h)
    (fun E ce q9 u t H1 locs1 ht hvm hp hB hz hk hS h1 h2 h3 => by obtain ⟨rfl, hB⟩ := hB; exact kx u.1 ce q9 u.2 H1 locs1 hp (ck_back hw ht hB hS) h1 h2 h3)
    (fun r u t H1 locs1 ht hvm hp hB hz hk hS => kk r u H1 locs1 hp (ck_back hw ht hB hS))
theorem ck_xcallSv (S : CallFix p m c cc nL s args Ts own) (hw : ck_H G s H locs σ) (hE : ck_E (ck_A G s.heap.size) s) {post : ck_S → Prop} {px : String → ck_S → Prop} (hM : ck_Xv l y ws rm G σ As post px mc ms) (cw : CallB R s args own index y bytes maxL ret ws rm mc ms n ∧ (Cond.static y).before args s = true)
    (hn : As.length = n) (hsize : ls.size = nL) (hst : st = As.reverse ++ rest) (hW : (rest.map fun v => v.category).sum ≤ 8) (hdg : decode cc pc = .ok (.invokestatic index, 3)) (hf : cells + mc ≤ R.cells ∧ slots + ms ≤ R.slots)
    (kx : ∀ (E : String) (ce : Cell) (q9 : Addr) (τ : ck_S) (H1 : Heap) (locs1 : List Loc), px E τ → ck_H G s H1 locs1 τ → H1[q9]? = some ce → ce.vm = .none → s.vm.findClass E = some ce.cls → vx_W p l e R s m args below meth c H1 locs1 (cells + mc) (slots + ms) Q (F0 m pc ls rest) q9)
    (kk : ∀ (τ : ck_S) (H1 : Heap) (locs1 : List Loc), post τ → ck_H G s H1 locs1 τ → W p l e R s m args below meth c H1 locs1 (cells + mc) (slots + ms) Q (F0 m (pc + 3) ls rest)) : W p l e R s m args below meth c H locs cells slots Q (F0 m pc ls st) :=
  vx_callv (vx_runS (As := As) (rest := rest) S (hM H.size) cw (ck_preSE hw hE _) rfl hn hsize hst (by show 2 * 0 + _ ≤ 8; omega) hdg hf) hw.2.2.2 (fun q _ h => ck_grow hw q h) (ck_grow hw) (fun q _ h => ck_grow hw q h)
    (fun E ce q9 u t H1 locs1 ht hvm hp hB hz hk hS h1 h2 h3 => by obtain ⟨rfl, hB⟩ := hB; exact kx u.1 ce q9 u.2 H1 locs1 hp (ck_back hw ht hB hS) h1 h2 h3)
    (fun u t H1 locs1 ht hvm hp hB hz hk hS => kk u H1 locs1 hp (ck_back hw ht hB hS))
/-- no handler here: it goes on to the caller -/
theorem ck_xout {Qc : Array Value → State → Outcome → State → Prop} {px : String → ck_S → Prop} {E : String} {ce : Cell} {q9 : Addr} {MC MS : Nat} (hno : ∀ x ∈ c.exceptionTable.toList, False) (hlocks : meth.locks = false) (hw : ck_H G s H locs σ) (hp : px E σ) (h1 : H[q9]? = some ce) (h2 : ce.vm = .none) (h3 : s.vm.findClass E = some ce.cls) (hc : cells ≤ MC) (hs : slots ≤ MS) :
    vx_W p l e R s m args below meth c H locs cells slots (vx_MQ below Qc (ck_XC G px (ck_A G s.heap.size)) args s MC MS (ck_A G s.heap.size)) (F0 m pc ls rest) q9 :=
  vx_out (fun x hx => (hno x hx).elim) hlocks h1 h2 h3 (fun t ht hvm => ⟨(E, σ), hp, ⟨rfl, by rw [ht]; exact hw.2.1, va_K.moved hvm hw.1⟩, hw.2.2.2.F ht⟩) hw.2.2.2.2.2 hc hs
theorem ck_throw {Qc : Array Value → State → Outcome → State → Prop} {px : String → ck_S → Prop} {cls text : String} {ik is ic sa MC MS : Nat} (hx : ck_X p s m meth c args cc nL ret own Ts) (hl : l.stackTraces = false) (hw : ck_H G s H locs σ) (hE : ck_E (ck_A G s.heap.size) s) (hno : ∀ x ∈ c.exceptionTable.toList, False) (hp : px cls σ)
    (hcls : Bundle.fit cls = true) (hk : (Cond.classLink own ik cls).before args s = true) (hini : (Cond.initialized cls).before args s = true) (hstr : vk_R own is text sa s) (hgd : ∀ w ∈ (vx_atS own ic cls ck_RTE).filter goodWord, w ∈ Ts) (hnw : va_Nw (.castable cls cls) s) (hrest : ∀ w ∈ (vx_atS own ic cls ck_RTE).filter (fun w => !goodWord w), w ∈ [Cond.castable cls cls, Cond.declares (Bundle.initS "java/lang/RuntimeException"), Cond.declares (Bundle.initS "java/lang/Exception"), Cond.declares (Bundle.initS Bundle.tN)]) (hgood : ∀ w ∈ Cond.classLink own ik cls :: Cond.initialized cls :: vx_atS own ic cls ck_RTE, vx_ot w = true)
    (hsize : ls.size = nL) (d0 : decode cc pc = .ok (.new ik, 3)) (d3 : decode cc (pc + 3) = .ok (.dup, 1)) (d4 : decode cc (pc + 4) = .ok (.ldc is, 2)) (d6 : decode cc (pc + 6) = .ok (.invokespecial ic, 3)) (d9 : decode cc (pc + 9) = .ok (.athrow, 1))
    (hRframes : 5 < R.frames) (hRlocals : (rest.map fun v => v.category).sum + 82 ≤ R.locals) (hRcells : cells + 1 ≤ R.cells) (hRslots : slots + 6 ≤ R.slots) (hc : cells + 1 ≤ MC) (hs : slots + 6 ≤ MS) :
    W p l e R s m args below meth c H locs cells slots (vx_MQ below Qc (ck_XC G px (ck_A G s.heap.size)) args s MC MS (ck_A G s.heap.size)) (F0 m pc ls rest) := by
  refine vx_throwS (names := ck_RTE) (A := ck_A G s.heap.size) hx.1 hx.2.1 hl hx.2.2.2.2.1 hcls (by decide +kernel) hk hini hstr (vx_hat (fun w h => hx.2.2.2.2.2.1 w (hgd w h)) hrest (vx_c (va_Nw.use rfl hnw) (vx_c (va_Nw.use rfl hE.2.2.1.2.2.2.1) (vx_c (va_Nw.use rfl hE.2.2.1.2.2.2.2.1) (vx_c (va_Nw.use rfl hE.2.2.1.2.2.2.2.2) vx_n))))) hgood hE.1.1 hE.1.2 hw.2.2.2 (by rw [hx.2.2.2.1]; exact hsize) d0 d3 d4 d6 d9 (fun x h => (hno x h).elim) hRframes hRlocals hRcells hRslots hx.2.2.2.2.2.2 ?_ hw.2.2.2.2.2 hc hs
  intro t hvm hz hq
  refine ⟨(cls, σ), hp, ⟨rfl, hw.2.1.kept (fun k q hk => hq q.1 (hw.2.1 k q hk).lt), va_K.moved hvm hw.1⟩, ?_, fun q h1 h2 => ?_⟩
  · exact Nat.le_trans hw.2.2.2.1 hz
  · rw [hq q (Nat.lt_of_lt_of_le h1 hw.2.2.2.1)]
    exact hw.2.2.2.2.1 q h1 h2
theorem ck_gets {nm : String} {xs : Nat → Int32} (hexec : p.tables.exec = Jvm.exec) (hb : c.code = cc) (hw : ck_H G s H locs σ) (hZ : ck_Za nm xs (ck_A G s.heap.size) s) (hown : s.vm.findClass own = some m.cls) (hlink : (Cond.fieldLink own index RX6 nm "[I").before args s = true) (hdg : decode cc pc = .ok (.getstatic index, 3))
    (kk : ∀ z : Nat, va_T .int z 7 (fun j => .int (xs j)) (ck_A G s.heap.size) s s.heap → W p l e R s m args below meth c H locs cells slots Q (F0 m (pc + 3) ls (.ref z :: rest))) : W p l e R s m args below meth c H locs cells slots Q (F0 m pc ls rest) := by
  obtain ⟨z, h1, h2⟩ := hZ
  exact va_gets hexec hb h1 hw.2.2.2 hown hlink (fun _ h => h) hdg (kk z h2)
theorem ck_zald {z : Nat} {xs : Nat → Int32} (hexec : p.tables.exec = Jvm.exec) (hb : c.code = cc) (hw : ck_H G s H locs σ) (hz : va_T .int z 7 (fun j => .int (xs j)) (ck_A G s.heap.size) s s.heap) {x : Int32} (hin : vp_in x 7) (hdg : decode cc pc = .ok (.iaload, 1))
    (kk : W p l e R s m args below meth c H locs cells slots Q (F0 m (pc + 1) ls (.int (xs x.toNatClampNeg) :: rest))) : W p l e R s m args below meth c H locs cells slots Q (F0 m pc ls (.int x :: .ref z :: rest)) :=
  va_ti hexec hb hz hw.2.2.2 hin rfl hdg kk
theorem ck_zlen {z : Nat} {xs : Nat → Int32} (hexec : p.tables.exec = Jvm.exec) (hb : c.code = cc) (hw : ck_H G s H locs σ) (hz : va_T .int z 7 (fun j => .int (xs j)) (ck_A G s.heap.size) s s.heap) (hdg : decode cc pc = .ok (.arraylength, 1))
    (kk : W p l e R s m args below meth c H locs cells slots Q (F0 m (pc + 1) ls (.int (nI 7) :: rest))) : W p l e R s m args below meth c H locs cells slots Q (F0 m pc ls (.ref z :: rest)) :=
  va_tlen hexec hb hz hw.2.2.2 rfl hdg kk
end CKE
