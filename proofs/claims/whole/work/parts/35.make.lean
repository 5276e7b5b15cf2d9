/-! MAKING THE WORLD: rows for the constructors, whose worlds are lists. -/
section CKM
variable {p : Program} {l : Launch} {e : Env} {R : Room} {s : State} {m : MethodId} {args : Array Value} {below : List Frame} {meth : Method} {c : Code} {H : Heap} {locs : List Loc} {cells slots : Nat} {Q : State → Prop}
variable {cc bytes : ByteArray} {pc nL maxL n index : Nat} {ls : Array Slot} {rest st As : List Value} {G : ck_G} {own : String} {y : MethodName} {wsM Ts : List Cond} {rm : Room} {ret : Option FieldType} {A : Nat → Prop} {ws : va_W}
/-- the same classes, an empty world -/
abbrev ck_0 (G : ck_G) : ck_G := (ck_D G, (ck_cB G, ck_cD G, ck_cI G, ck_cJ G, ck_cO G), (0, 0), (fun _ _ => 0), [])
abbrev ck_z : ck_S := (fun _ _ _ => 0, fun _ _ _ => 0, fun _ _ _ => 0)
theorem ck_newaG (hexec : p.tables.exec = Jvm.exec) (hb : c.code = cc) {atype : ArrayType} (harr : (Cond.arrayClass (newarray.typeOf atype)).before args s = true) {ty : FieldType} (hty : newarray.typeOf atype = ty) (hra : ∀ x, va_RA s x ty → s.vm.findClass ("[" ++ ty.toString) = some x) (t0 : Nat) {cT : ClassId} (ht : (ck_ty G)[t0]? = some (cT, ty)) (hK : va_K (ck_D G) vwCl (ck_ty G) s) (hP : va_P (ck_D G) vwCl ws H) (hD : va_D A ws) (hS : va_S A s.heap H locs) (hA : ∀ q, s.heap.size ≤ q → A q)
    {x : Int32} {N' : Nat} {a0 : vp_A} (ha : ∀ cA : ClassId, vp_cell cA a0 = arrV cA N' (fun _ => defaultValue ty)) (hn : ¬ x < 0) (hN : x.toNatClampNeg = N') (hbytes : N' * componentBytes ty ≤ 536870912) (hcells : cells + 1 ≤ R.cells) (hslots : slots + N' ≤ R.slots) (hdg : decode cc pc = .ok (.newarray atype, 2))
    (kk : ∀ (q : Nat) (H1 : Heap), va_P (ck_D G) vwCl (ws ++ [(q, .inl (cT, a0))]) H1 → va_D A (ws ++ [(q, .inl (cT, a0))]) → va_S A s.heap H1 locs →
      W p l e R s m args below meth c H1 locs (cells + 1) (slots + N') Q (F0 m (pc + 2) ls (.ref q :: rest))) : W p l e R s m args below meth c H locs cells slots Q (F0 m pc ls (.int x :: rest)) := by
  refine va_newa hexec hb harr hty hK hP hD hS hA ha hn hN hbytes hcells hslots hdg (fun q cA H1 hK1 hP1 hD1 hS1 => ?_)
  have h1 := (hK1.2 5 (cA, ty) rfl).2
  have h2 := (hK.2 t0 _ ht).2
  have h3 : cA = cT := Option.some.inj ((hra cA h1).symm.trans (hra cT h2))
  subst h3
  exact kk q H1 hP1 hD1 hS1
theorem ck_newqG (hexec : p.tables.exec = Jvm.exec) (hb : c.code = cc) (hown : s.vm.findClass own = some m.cls) (hclink : (Cond.classLink own index RX3).before args s = true) (hover : va_AO RX3 s) (hK : va_K (ck_D G) vwCl (ck_ty G) s) (hP : va_P (ck_D G) vwCl ws H) (hD : va_D A ws) (hS : va_S A s.heap H locs) (hA : ∀ q, s.heap.size ≤ q → A q)
    {x : Int32} {N' : Nat} (hn : ¬ x < 0) (hN : x.toNatClampNeg = N') (hbytes : N' * 4 ≤ 536870912) (hcells : cells + 1 ≤ R.cells) (hslots : slots + N' ≤ R.slots) (hdg : decode cc pc = .ok (.anewarray index, 3))
    (kk : ∀ (q : Nat) (H1 : Heap), va_P (ck_D G) vwCl (ws ++ [(q, .inl (ck_cO G, N', .inr (.inr (.inr (.inr (fun _ => none))))))]) H1 → va_D A (ws ++ [(q, .inl (ck_cO G, N', .inr (.inr (.inr (.inr (fun _ => none))))))]) → va_S A s.heap H1 locs →
      W p l e R s m args below meth c H1 locs (cells + 1) (slots + N') Q (F0 m (pc + 3) ls (.ref q :: rest))) : W p l e R s m args below meth c H locs cells slots Q (F0 m pc ls (.int x :: rest)) := by
  refine va_newq hexec hb hown hclink hover hK hP hD hS hA hn hN hbytes hcells hslots hdg (fun q cA H1 hK1 hP1 hD1 hS1 => ?_)
  obtain ⟨_, _, _, _, _, h1⟩ := (hK1.2 5 (cA, .object RX3) rfl).2
  obtain ⟨_, _, _, _, _, h2⟩ := (hK.2 4 (ck_cO G, .object RX3) rfl).2
  have h3 : cA = ck_cO G := Option.some.inj (h1.symm.trans h2)
  rw [h3] at hP1 hD1
  exact kk q H1 hP1 hD1 hS1
/-- a call of a method that needs no cell, among a list of cells -/
theorem ck_lcallSi (S : CallFix p m c cc nL s args Ts own) (hK : va_K (ck_D G) vwCl (ck_ty G) s) (hP : va_P (ck_D G) vwCl ws H) (hS : va_S A s.heap H locs) (hA : ∀ q, s.heap.size ≤ q → A q) {post : Int32 → ck_S → Prop} (hM : ck_Mi l y wsM rm (ck_0 G) ck_z As post) (cw : CallB R s args own index y bytes maxL ret wsM rm 0 0 n ∧ (Cond.static y).before args s = true)
    (hn : As.length = n) (hsize : ls.size = nL) (hst : st = As.reverse ++ rest) (hW : (rest.map fun v => v.category).sum ≤ 8) (hdg : decode cc pc = .ok (.invokestatic index, 3)) (hf : cells ≤ R.cells ∧ slots ≤ R.slots)
    (kk : ∀ (r : Int32) (τ : ck_S) (H1 : Heap) (locs1 : List Loc), post r τ → va_P (ck_D G) vwCl ws H1 → va_S A s.heap H1 locs1 → W p l e R s m args below meth c H1 locs1 cells slots Q (F0 m (pc + 3) ls (.int r :: rest))) : W p l e R s m args below meth c H locs cells slots Q (F0 m pc ls st) := by
  have hno : ∀ q, ck_A (ck_0 G) H.size q → H.size ≤ q := by
    intro q h
    rcases h with ⟨z, hz, -⟩ | h
    · exact absurd hz List.not_mem_nil
    · exact h
  have hAA : ∀ q, ck_A (ck_0 G) H.size q → A q := fun q h => hA q (Nat.le_trans hS.1 (hno q h))
  refine va_calli (va_runS (As := As) (rest := rest) S (hM H.size) cw ⟨ck_blind, fun U hU hW => ⟨rfl, by rw [hU], va_K.moved hW.alike hK, fun k q h => by rw [show ck_W (ck_0 G) ck_z = [] from rfl] at h; simp at h, ⟨fun i j p q h => by rw [show ck_W (ck_0 G) ck_z = [] from rfl] at h; simp at h, fun k q h => by rw [show ck_W (ck_0 G) ck_z = [] from rfl] at h; simp at h⟩⟩⟩ rfl hn hsize hst (by show 2 * 0 + _ ≤ 8; omega) hdg hf) hS (fun q _ h => hAA q h) hAA (fun r u t H1 locs1 ht hvm hp hB hz hk hS => ?_)
  exact kk r u H1 locs1 hp (hP.kept (fun k x hx => hk x.1 (hP k x hx).lt (fun h => Nat.not_lt.mpr (hno x.1 h) (hP k x hx).lt))) hS
/-- a call of a method of the whole world, begun over a list of cells that is this world -/
theorem ck_lcallVv {C : String} {f i : Nat} {σ : ck_S} (S : CallFix p m c cc nL s args Ts own) (hK : va_K (ck_D G) vwCl (ck_ty G) s) (hP : va_P (ck_D G) vwCl (ck_W G σ) H) (hD : va_D A (ck_W G σ)) (hS : va_S A s.heap H locs) (hA : ∀ q, s.heap.size ≤ q → A q) (hm : (f, i) ∈ ck_Ls G) {ci : Nat} {fs : List Value} (he : ck_V G σ f i = .inr (ci, fs)) {T : u_T} {N : Nat} (hc : vwCl[ci]? = some (C, T, N)) {post : ck_S → Prop} (hM : ck_Mv l y wsM rm G σ (.ref (ck_ad G f i) :: As) post) (cw : CallW R s args own C index y bytes maxL ret wsM rm 0 0 n)
    (hn : As.length = n) (hsize : ls.size = nL) (hst : st = As.reverse ++ .ref (ck_ad G f i) :: rest) (hW : (rest.map fun v => v.category).sum ≤ 8) (hdg : decode cc pc = .ok (.invokevirtual index, 3)) (hf : cells ≤ R.cells ∧ slots ≤ R.slots)
    (kk : ∀ (τ : ck_S) (H1 : Heap) (locs1 : List Loc), post τ → va_P (ck_D G) vwCl (ck_W G τ) H1 → va_D A (ck_W G τ) → va_S A s.heap H1 locs1 → W p l e R s m args below meth c H1 locs1 cells slots Q (F0 m (pc + 3) ls rest)) : W p l e R s m args below meth c H locs cells slots Q (F0 m pc ls st) := by
  have hAA : ∀ q, ck_A G H.size q → A q := by
    intro q h
    rcases h with ⟨z, hz, rfl⟩ | h
    · obtain ⟨k, -, hk⟩ := ck_pos (σ := σ) (f := z.1) (i := z.2) hz
      exact hD.2 k _ hk
    · exact hA q (Nat.le_trans hS.1 h)
  obtain ⟨q, -, hq⟩ := ck_pos (σ := σ) hm
  rw [he] at hq
  exact va_callv (va_runV (As := As) (rest := rest) S (hM H.size) cw ⟨ck_blind, va_recv hK hP hc hq, fun U hU hW => ⟨rfl, by rw [hU], va_K.moved hW.alike hK, by rw [hU]; exact hP, hD.weaken (fun _ _ _ _ => trivial)⟩⟩ rfl hn hsize hst (by show 2 * 0 + _ ≤ 8; omega) hdg hf) hS (fun q _ h => hAA q h) hAA (fun u t H1 locs1 ht hvm hp hB hz hk hS => kk u H1 locs1 hp (by rw [← ht]; exact hB.1) (ck_addr hD) hS)
end CKM
theorem ck_arrV {cA : ClassId} {n : Nat} {f g : Nat → Value} (h : ∀ j, j < n → f j = g j) : arrV cA n f = arrV cA n g := by
  unfold arrV
  congr 1
  apply congrArg
  funext j
  exact h j.val j.isLt
theorem ck_swapq {D : va_G} {cl : List vw_C} {ws : va_W} {H : Heap} {a n k : Nat} {cA : ClassId} {f : Nat → Option Nat} (g : Nat → Option Nat) (hP : va_P D cl ws H) (hk : ws[k]? = some (a, .inl (cA, n, .inr (.inr (.inr (.inr f)))))) (h : ∀ j, j < n → f j = g j) : va_P D cl (ws.set k (a, .inl (cA, n, .inr (.inr (.inr (.inr g)))))) H := by
  intro j q hj
  by_cases e : j = k
  · subst e
    have hl : j < ws.length := (List.getElem?_eq_some_iff.mp hk).1
    rw [List.getElem?_set_self hl] at hj
    cases hj
    have h1 : H[a]? = some (vp_cell cA (n, .inr (.inr (.inr (.inr f))))) := hP j _ hk
    show H[a]? = some (vp_cell cA (n, .inr (.inr (.inr (.inr g)))))
    rw [h1, vp_cell_q, vp_cell_q, ck_arrV (g := fun j => va_rf (g j)) (fun j hj => by rw [h j hj])]
  · rw [List.getElem?_set_ne (fun q => e q.symm)] at hj
    exact hP j q hj
def ck_near (x lo hi : Int32) : Int32 := if lo < (if x < hi then x else hi) then (if x < hi then x else hi) else lo
def ck_nearM (x lo hi : Int32) : Int32 := if lo ≤ x then (if x ≤ hi then x else hi) else lo
/-- what the class's constructor makes, in its order -/
def ck_LC (n : Nat) : List (Nat × Nat) := [(0, 0), (1, 0)] ++ ((List.range n).flatMap (fun i => [(30, i), (31, i), (32, i), (33, i)]) ++ [(2, 0), (3, 0), (4, 0), (5, 0), (6, 0), (8, 0), (7, 0)])
def ck_LM : List (Nat × Nat) := [(10, 0), (11, 0), (12, 0), (13, 0), (14, 0), (15, 0), (16, 0), (17, 0), (18, 0), (19, 0), (20, 0)]
abbrev ck_1 (G : ck_G) (n b : Nat) (ad : Nat → Nat → Nat) : ck_G := (ck_D G, (ck_cB G, ck_cD G, ck_cI G, ck_cJ G, ck_cO G), (n, 32 * b), ad, ck_LC n)
abbrev ck_2 (G : ck_G) (ad : Nat → Nat → Nat) : ck_G := (ck_D G, (ck_cB G, ck_cD G, ck_cI G, ck_cJ G, ck_cO G), (0, 0), ad, ck_LM)
def ck_s1 (pl cap ev deb : Int32) : ck_S := (fun f _ k => if f = 0 ∧ k = 1 then cap else if f = 0 ∧ k = 2 then ev else if f = 3 ∧ k = 0 then deb else if f = 6 ∧ k = 0 then pl else 0, fun _ _ _ => 0, fun _ _ _ => 0)
def ck_s2 (ch bl deb ev : Int32) (cap : Int64) : ck_S := (fun f _ k => if f = 10 ∧ k = 1 then ch else if f = 10 ∧ k = 2 then bl else if f = 10 ∧ k = 4 then deb else if f = 10 ∧ k = 5 then ev else if f = 10 ∧ k = 31 then 32 else 0, fun f _ k => if f = 10 ∧ k = 3 then cap else 0, fun _ _ _ => 0)
theorem ck_LC_in {n : Nat} {G : ck_G} (h : ck_Ls G = ck_LC n) (hn : ck_nc G = n) : ck_inC G := by
  constructor
  · intro f hf
    rw [h]
    rcases (show f = 0 ∨ f = 1 ∨ f = 2 ∨ f = 3 ∨ f = 4 ∨ f = 5 ∨ f = 6 ∨ f = 7 ∨ f = 8 by omega) with rfl | rfl | rfl | rfl | rfl | rfl | rfl | rfl | rfl <;> simp [ck_LC]
  · intro f i h1 h2 hi
    rw [h]
    simp only [ck_LC, List.mem_append, List.mem_flatMap, List.mem_range]
    refine Or.inr (Or.inl ⟨i, by omega, ?_⟩)
    rcases (show f = 30 ∨ f = 31 ∨ f = 32 ∨ f = 33 by omega) with rfl | rfl | rfl | rfl <;> simp
theorem ck_LM_in {G : ck_G} (h : ck_Ls G = ck_LM) : ck_inM G := by
  intro f h1 h2
  rw [h]
  rcases (show f = 10 ∨ f = 11 ∨ f = 12 ∨ f = 13 ∨ f = 14 ∨ f = 15 ∨ f = 16 ∨ f = 17 ∨ f = 18 ∨ f = 19 ∨ f = 20 by omega) with rfl | rfl | rfl | rfl | rfl | rfl | rfl | rfl | rfl | rfl | rfl <;> simp [ck_LM]
/-- what making the class's own objects needs of the tables beside the words -/
def ck_N (U : State) : Prop := va_AO RX3 U ∧ va_Nw (.methodLinkNest RX6 19 yX3_init RX6) U ∧ va_Nw (.methodLinkNest RX6 29 yX5_init RX6) U ∧ va_Nw (.methodLinkNest RX6 45 yX4_init RX6) U
theorem ck_N.at {s U : State} (hW : s.WarmedH U.vm) (h : ck_N s) : ck_N U := ⟨h.1.moved hW.alike, va_Nw.warmM hW h.2.1, va_Nw.warmM hW h.2.2.1, va_Nw.warmM hW h.2.2.2⟩
