/-! THE WORLD: every object and array of the class and of the reference has a family (a number) and, within it, a number; its contents stand in three tables (ints, longs, doubles) by family, number, place. References never change once all is made. -/
abbrev ck_S : Type := (Nat → Nat → Nat → Int32) × (Nat → Nat → Nat → Int64) × (Nat → Nat → Nat → UInt64)
def ck_up {α : Type} (g : Nat → Nat → Nat → α) (f i k : Nat) (v : α) : Nat → Nat → Nat → α := fun a b c => if a = f ∧ b = i ∧ c = k then v else g a b c
abbrev ck_gi (σ : ck_S) (f i k : Nat) : Int32 := σ.1 f i k
abbrev ck_gj (σ : ck_S) (f i k : Nat) : Int64 := σ.2.1 f i k
abbrev ck_gd (σ : ck_S) (f i k : Nat) : UInt64 := σ.2.2 f i k
def ck_ui (σ : ck_S) (f i k : Nat) (v : Int32) : ck_S := (ck_up σ.1 f i k v, σ.2)
def ck_uj (σ : ck_S) (f i k : Nat) (v : Int64) : ck_S := (σ.1, ck_up σ.2.1 f i k v, σ.2.2)
def ck_ud (σ : ck_S) (f i k : Nat) (v : UInt64) : ck_S := (σ.1, σ.2.1, ck_up σ.2.2 f i k v)
/-- classes and slots; the array classes of byte, double, int, long, Chip; how many chips, how long the journal; the addresses; what is there -/
abbrev ck_G : Type := va_G × (ClassId × ClassId × ClassId × ClassId × ClassId) × (Nat × Nat) × (Nat → Nat → Nat) × List (Nat × Nat)
abbrev ck_D (G : ck_G) : va_G := G.1
abbrev ck_cB (G : ck_G) : ClassId := G.2.1.1
abbrev ck_cD (G : ck_G) : ClassId := G.2.1.2.1
abbrev ck_cI (G : ck_G) : ClassId := G.2.1.2.2.1
abbrev ck_cJ (G : ck_G) : ClassId := G.2.1.2.2.2.1
abbrev ck_cO (G : ck_G) : ClassId := G.2.1.2.2.2.2
abbrev ck_nc (G : ck_G) : Nat := G.2.2.1.1
abbrev ck_nb (G : ck_G) : Nat := G.2.2.1.2
abbrev ck_ad (G : ck_G) : Nat → Nat → Nat := G.2.2.2.1
abbrev ck_Ls (G : ck_G) : List (Nat × Nat) := G.2.2.2.2
def ck_ty (G : ck_G) : List (ClassId × FieldType) := [(ck_cB G, .byte), (ck_cD G, .double), (ck_cI G, .int), (ck_cJ G, .long), (ck_cO G, .object RX3)]
/-- what lies at a family and number -/
def ck_C (G : ck_G) (f i : Nat) (I : Nat → Int32) (J : Nat → Int64) (D : Nat → UInt64) : va_E := match f with
  | 0 => .inr (5, [.ref (ck_ad G 1 0), .int (I 1), .int (I 2), .ref (ck_ad G 2 0), .ref (ck_ad G 3 0), .ref (ck_ad G 5 0), .ref (ck_ad G 6 0), .int (I 7), .int (I 8), .double (D 9), .double (D 10), .int (I 11), .double (D 12), .int (I 13), .int (I 14), .double (D 15), .double (D 16)])
  | 1 => .inl (ck_cO G, ck_nc G, .inr (.inr (.inr (.inr (fun k => some (ck_ad G 30 k))))))
  | 2 => .inr (4, [.int (I 0), .int (I 1), .int (I 2), .int (I 3), .int (I 4), .double (D 5), .double (D 6)])
  | 3 => .inr (0, [.int (I 0), .ref (ck_ad G 4 0), .int (I 2), .int (I 3)])
  | 4 => .inl (ck_cI G, 7, .inl I)
  | 5 => .inr (3, [.int (I 0), .int (I 1)])
  | 6 => .inr (1, [.int (I 0), .ref (ck_ad G 7 0), .ref (ck_ad G 8 0), .int (I 3), .int (I 4)])
  | 7 => .inl (ck_cB G, ck_nb G, .inl I)
  | 8 => .inl (ck_cB G, 32, .inl I)
  | 10 => .inr (6, [.int (I 0), .int (I 1), .int (I 2), .long (J 3), .int (I 4), .int (I 5), .ref (ck_ad G 11 0), .ref (ck_ad G 12 0), .int (I 8), .int (I 9), .int (I 10), .long (J 11), .long (J 12), .long (J 13), .ref (ck_ad G 13 0), .int (I 15), .int (I 16), .int (I 17), .ref (ck_ad G 14 0), .ref (ck_ad G 15 0), .ref (ck_ad G 16 0), .ref (ck_ad G 17 0), .ref (ck_ad G 18 0), .long (J 23), .long (J 24), .ref (ck_ad G 19 0), .int (I 26), .int (I 27), .int (I 28), .int (I 29), .ref (ck_ad G 20 0), .int (I 31)])
  | 11 => .inl (ck_cI G, 512, .inl I)
  | 12 => .inl (ck_cI G, 32, .inl I)
  | 13 => .inl (ck_cJ G, 4, .inr (.inl J))
  | 14 => .inl (ck_cI G, 192, .inl I)
  | 15 => .inl (ck_cJ G, 32, .inr (.inl J))
  | 16 => .inl (ck_cI G, 4, .inl I)
  | 17 => .inl (ck_cI G, 4, .inl I)
  | 18 => .inl (ck_cI G, 4, .inl I)
  | 19 => .inl (ck_cI G, 7, .inl I)
  | 20 => .inl (ck_cI G, 4, .inl I)
  | 21 => .inl (ck_cJ G, 1, .inr (.inl J))
  | 22 => .inl (ck_cD G, 1, .inr (.inr (.inr (.inl D))))
  | 30 => .inr (2, [.ref (ck_ad G 31 i), .ref (ck_ad G 32 i), .ref (ck_ad G 33 i), .int (I 3), .int (I 4), .int (I 5), .double (D 6), .int (I 7)])
  | 31 => .inl (ck_cI G, 6, .inl I)
  | 32 => .inl (ck_cI G, 6, .inl I)
  | 33 => .inl (ck_cD G, 8, .inr (.inr (.inr (.inl D))))
  | _ => .inl (ck_cI G, 0, .inl I)
abbrev ck_V (G : ck_G) (σ : ck_S) (f i : Nat) : va_E := ck_C G f i (σ.1 f i) (σ.2.1 f i) (σ.2.2 f i)
def ck_W (G : ck_G) (σ : ck_S) : va_W := (ck_Ls G).map (fun z => (ck_ad G z.1 z.2, ck_V G σ z.1 z.2))
def ck_A (G : ck_G) (sz : Nat) : Nat → Prop := fun q => (∃ z, z ∈ ck_Ls G ∧ q = ck_ad G z.1 z.2) ∨ sz ≤ q
/-- the world in the heap H, since the method began at s -/
def ck_H (G : ck_G) (s : State) (H : Heap) (locs : List Loc) (σ : ck_S) : Prop := va_K (ck_D G) vwCl (ck_ty G) s ∧ va_P (ck_D G) vwCl (ck_W G σ) H ∧ va_D (ck_A G s.heap.size) (ck_W G σ) ∧ va_S (ck_A G s.heap.size) s.heap H locs
/-- the class's own things are there -/
def ck_inC (G : ck_G) : Prop := (∀ f, f ≤ 8 → (f, 0) ∈ ck_Ls G) ∧ ∀ f i, 30 ≤ f → f ≤ 33 → i < ck_nc G → (f, i) ∈ ck_Ls G
/-- the reference's -/
def ck_inM (G : ck_G) : Prop := ∀ f, 10 ≤ f → f ≤ 20 → (f, 0) ∈ ck_Ls G
def ck_b (v : Int32) : Prop := v = 0 ∨ v = 1
theorem ck_b_n {v : Int32} (h : ck_b v) : narrow .boolean (.int v) = .int v := by rcases h with rfl | rfl <;> rfl
theorem ck_b_f {v : Int32} (h : ck_b v) : fits .boolean (.int v) = true := by rcases h with rfl | rfl <;> decide
theorem ck_up_self {α : Type} (g : Nat → Nat → Nat → α) (f i k : Nat) (v : α) : ck_up g f i k v f i = va_up (g f i) k v := by
  funext c
  simp [ck_up, va_up]
theorem ck_up_ne {α : Type} (g : Nat → Nat → Nat → α) {f i a b : Nat} (k : Nat) (v : α) (h : (a, b) ≠ (f, i)) : ck_up g f i k v a b = g a b := by
  funext c
  have : ¬ (a = f ∧ b = i ∧ c = k) := fun q => h (by rw [q.1, q.2.1])
  simp [ck_up, this]
theorem ck_pos {G : ck_G} {σ : ck_S} {f i : Nat} (h : (f, i) ∈ ck_Ls G) : ∃ k : Nat, (ck_Ls G)[k]? = some (f, i) ∧ (ck_W G σ)[k]? = some (ck_ad G f i, ck_V G σ f i) := by
  obtain ⟨k, hk⟩ := List.mem_iff_getElem?.mp h
  exact ⟨k, hk, by simp [ck_W, hk]⟩
theorem ck_set {G : ck_G} {σ τ : ck_S} {A : Nat → Prop} {f i k : Nat} {e : va_E} (hD : va_D A (ck_W G σ)) (hk : (ck_Ls G)[k]? = some (f, i)) (he : ck_V G τ f i = e) (ho : ∀ a b, (a, b) ≠ (f, i) → ck_V G τ a b = ck_V G σ a b) : (ck_W G σ).set k (ck_ad G f i, e) = ck_W G τ := by
  apply List.ext_getElem?
  intro j
  by_cases hj : j = k
  · subst hj
    have hl : j < (ck_Ls G).length := (List.getElem?_eq_some_iff.mp hk).1
    have hl2 : j < (ck_W G σ).length := by simp [ck_W]; exact hl
    rw [List.getElem?_set_self hl2]
    simp [ck_W, hk, he]
  · rw [List.getElem?_set_ne (fun q => hj q.symm)]
    simp only [ck_W, List.getElem?_map]
    cases hz : (ck_Ls G)[j]? with
    | none => rfl
    | some z =>
      obtain ⟨a, b⟩ := z
      have hne : (a, b) ≠ (f, i) := by
        intro q
        apply hj
        refine hD.1 j k (ck_ad G a b, ck_V G σ a b) (ck_ad G f i, ck_V G σ f i) (by simp [ck_W, hz]) (by simp [ck_W, hk]) ?_
        cases q
        rfl
      simp [ho a b hne]
theorem ck_addr {G : ck_G} {σ τ : ck_S} {A : Nat → Prop} (h : va_D A (ck_W G σ)) : va_D A (ck_W G τ) := by
  have key : ∀ (j : Nat) (q : Nat × va_E), (ck_W G τ)[j]? = some q → ∃ q', (ck_W G σ)[j]? = some q' ∧ q'.1 = q.1 := by
    intro j q hq
    simp only [ck_W, List.getElem?_map] at hq ⊢
    cases hz : (ck_Ls G)[j]? with
    | none => rw [hz] at hq; simp at hq
    | some z =>
      rw [hz] at hq
      simp at hq
      refine ⟨_, rfl, ?_⟩
      rw [← hq]
  refine ⟨fun i j p q hp hq hpq => ?_, fun k q hq => ?_⟩
  · obtain ⟨p', hp', ep⟩ := key i p hp
    obtain ⟨q', hq', eq⟩ := key j q hq
    exact h.1 i j p' q' hp' hq' (by rw [ep, eq, hpq])
  · obtain ⟨q', hq', eq⟩ := key k q hq
    rw [← eq]
    exact h.2 k q' hq'
theorem ck_self {G : ck_G} {σ : ck_S} {A : Nat → Prop} (sz : Nat) (h : va_D A (ck_W G σ)) : va_D (ck_A G sz) (ck_W G σ) := by
  refine ⟨h.1, fun k q hq => ?_⟩
  simp only [ck_W, List.getElem?_map] at hq
  cases hz : (ck_Ls G)[k]? with
  | none => rw [hz] at hq; simp at hq
  | some z =>
    rw [hz] at hq
    simp at hq
    rw [← hq]
    exact Or.inl ⟨z, List.mem_of_getElem? hz, rfl⟩
theorem ck_grow {G : ck_G} {σ : ck_S} {s : State} {H : Heap} {locs : List Loc} (hw : ck_H G s H locs σ) : ∀ q, ck_A G H.size q → ck_A G s.heap.size q := by
  intro q hq
  rcases hq with h | h
  · exact Or.inl h
  · exact Or.inr (Nat.le_trans hw.2.2.2.1 h)
section CKR
variable {p : Program} {l : Launch} {e : Env} {R : Room} {s : State} {m : MethodId} {args : Array Value} {below : List Frame} {meth : Method} {c : Code} {H : Heap} {locs : List Loc} {cells slots : Nat} {Q : State → Prop}
variable {cc : ByteArray} {pc : Nat} {ls : Array Slot} {rest : List Value} {G : ck_G} {σ : ck_S} {f i : Nat}
theorem ck_get (hexec : p.tables.exec = Jvm.exec) (hb : c.code = cc) {own C : String} {T : u_T} {N ci index : Nat} {Ts : List Cond} (hts : ∀ w ∈ Ts, w.before args s = true) (hin : ∀ w ∈ u_ws C T N, w ∈ Ts) (hown : s.vm.findClass own = some m.cls) (hw : ck_H G s H locs σ) (hm : (f, i) ∈ ck_Ls G) {fs : List Value} (he : ck_V G σ f i = .inr (ci, fs)) (hc : vwCl[ci]? = some (C, T, N)) (k : Nat) (hk : k < N) (hlink : (Cond.fieldLink own index (T k).1 (T k).2.1 (T k).2.2.1).before args s = true) {v : Value} (hv : fs[k]? = some v) (hdg : decode cc pc = .ok (.getfield index, 3))
    (kk : W p l e R s m args below meth c H locs cells slots Q (F0 m (pc + 3) ls (v :: rest))) : W p l e R s m args below meth c H locs cells slots Q (F0 m pc ls (.ref (ck_ad G f i) :: rest)) := by
  obtain ⟨q, -, hq⟩ := ck_pos (σ := σ) hm
  rw [he] at hq
  exact va_get hexec hb hts hin hown hw.1 hw.2.1 q hq hc k hk hlink (fun _ h => h) hv hdg kk
theorem ck_put0 (hexec : p.tables.exec = Jvm.exec) (hb : c.code = cc) {own C : String} {T : u_T} {N ci index : Nat} {Ts : List Cond} (hts : ∀ w ∈ Ts, w.before args s = true) (hin : ∀ w ∈ u_ws C T N, w ∈ Ts) (ty0 : Nat → FieldType) (hty : ∀ k, k < N → parseFieldDescriptor (T k).2.2.1 = some (ty0 k)) (hnm : ∀ a, a < N → ∀ b, b < N → a ≠ b → (T a).2.1 ≠ (T b).2.1) (hown : s.vm.findClass own = some m.cls) (hw : ck_H G s H locs σ) (hm : (f, i) ∈ ck_Ls G) {fs : List Value} (he : ck_V G σ f i = .inr (ci, fs)) (hc : vwCl[ci]? = some (C, T, N)) (k : Nat) (hk : k < N) (hlink : (Cond.fieldLink own index (T k).1 (T k).2.1 (T k).2.2.1).before args s = true) (hfin : (T k).2.2.2 = false) {v : Value} (hn : narrow (ty0 k) v = v) (hfit : fits (ty0 k) v = true) (hl : k < fs.length) {τ : ck_S} (hset : ck_V G τ f i = .inr (ci, fs.set k v)) (ho : ∀ a b, (a, b) ≠ (f, i) → ck_V G τ a b = ck_V G σ a b) (hdg : decode cc pc = .ok (.putfield index, 3))
    (kk : ∀ (H1 : Heap) (locs1 : List Loc), ck_H G s H1 locs1 τ → W p l e R s m args below meth c H1 locs1 cells slots Q (F0 m (pc + 3) ls rest)) : W p l e R s m args below meth c H locs cells slots Q (F0 m pc ls (v :: .ref (ck_ad G f i) :: rest)) := by
  obtain ⟨q, hq0, hq⟩ := ck_pos (σ := σ) hm
  rw [he] at hq
  refine va_put hexec hb hts hin ty0 hty hnm hown hw.1 hw.2.1 hw.2.2.1 hw.2.2.2 q hq hc k hk hlink (fun _ h => h) hfin (hty k hk) hn hfit hl hdg (fun H1 locs1 hP hD hS => ?_)
  rw [ck_set hw.2.2.1 hq0 hset ho] at hP hD
  exact kk H1 locs1 ⟨hw.1, hP, hD, hS⟩
theorem ck_puti (hexec : p.tables.exec = Jvm.exec) (hb : c.code = cc) {own C : String} {T : u_T} {N ci index : Nat} {Ts : List Cond} (hts : ∀ w ∈ Ts, w.before args s = true) (hin : ∀ w ∈ u_ws C T N, w ∈ Ts) (ty0 : Nat → FieldType) (hty : ∀ k, k < N → parseFieldDescriptor (T k).2.2.1 = some (ty0 k)) (hnm : ∀ a, a < N → ∀ b, b < N → a ≠ b → (T a).2.1 ≠ (T b).2.1) (hown : s.vm.findClass own = some m.cls) (hw : ck_H G s H locs σ) (hm : (f, i) ∈ ck_Ls G) {fs : List Value} (he : ck_V G σ f i = .inr (ci, fs)) (hc : vwCl[ci]? = some (C, T, N)) (k : Nat) (hk : k < N) (hlink : (Cond.fieldLink own index (T k).1 (T k).2.1 (T k).2.2.1).before args s = true) (hfin : (T k).2.2.2 = false) {v : Int32} (hn : narrow (ty0 k) (.int v) = .int v) (hfit : fits (ty0 k) (.int v) = true) (hl : k < fs.length) (hset : ck_C G f i (va_up (σ.1 f i) k v) (σ.2.1 f i) (σ.2.2 f i) = .inr (ci, fs.set k (.int v))) (hdg : decode cc pc = .ok (.putfield index, 3))
    (kk : ∀ (H1 : Heap) (locs1 : List Loc), ck_H G s H1 locs1 (ck_ui σ f i k v) → W p l e R s m args below meth c H1 locs1 cells slots Q (F0 m (pc + 3) ls rest)) : W p l e R s m args below meth c H locs cells slots Q (F0 m pc ls (.int v :: .ref (ck_ad G f i) :: rest)) := by
  refine ck_put0 hexec hb hts hin ty0 hty hnm hown hw hm he hc k hk hlink hfin hn hfit hl (τ := ck_ui σ f i k v) ?_ ?_ hdg kk
  · show ck_C G f i (ck_up σ.1 f i k v f i) (σ.2.1 f i) (σ.2.2 f i) = _
    rw [ck_up_self]; exact hset
  · intro a b h
    show ck_C G a b (ck_up σ.1 f i k v a b) (σ.2.1 a b) (σ.2.2 a b) = _
    rw [ck_up_ne _ _ _ h]
theorem ck_putj (hexec : p.tables.exec = Jvm.exec) (hb : c.code = cc) {own C : String} {T : u_T} {N ci index : Nat} {Ts : List Cond} (hts : ∀ w ∈ Ts, w.before args s = true) (hin : ∀ w ∈ u_ws C T N, w ∈ Ts) (ty0 : Nat → FieldType) (hty : ∀ k, k < N → parseFieldDescriptor (T k).2.2.1 = some (ty0 k)) (hnm : ∀ a, a < N → ∀ b, b < N → a ≠ b → (T a).2.1 ≠ (T b).2.1) (hown : s.vm.findClass own = some m.cls) (hw : ck_H G s H locs σ) (hm : (f, i) ∈ ck_Ls G) {fs : List Value} (he : ck_V G σ f i = .inr (ci, fs)) (hc : vwCl[ci]? = some (C, T, N)) (k : Nat) (hk : k < N) (hlink : (Cond.fieldLink own index (T k).1 (T k).2.1 (T k).2.2.1).before args s = true) (hfin : (T k).2.2.2 = false) {v : Int64} (hn : narrow (ty0 k) (.long v) = .long v) (hfit : fits (ty0 k) (.long v) = true) (hl : k < fs.length) (hset : ck_C G f i (σ.1 f i) (va_up (σ.2.1 f i) k v) (σ.2.2 f i) = .inr (ci, fs.set k (.long v))) (hdg : decode cc pc = .ok (.putfield index, 3))
    (kk : ∀ (H1 : Heap) (locs1 : List Loc), ck_H G s H1 locs1 (ck_uj σ f i k v) → W p l e R s m args below meth c H1 locs1 cells slots Q (F0 m (pc + 3) ls rest)) : W p l e R s m args below meth c H locs cells slots Q (F0 m pc ls (.long v :: .ref (ck_ad G f i) :: rest)) := by
  refine ck_put0 hexec hb hts hin ty0 hty hnm hown hw hm he hc k hk hlink hfin hn hfit hl (τ := ck_uj σ f i k v) ?_ ?_ hdg kk
  · show ck_C G f i (σ.1 f i) (ck_up σ.2.1 f i k v f i) (σ.2.2 f i) = _
    rw [ck_up_self]; exact hset
  · intro a b h
    show ck_C G a b (σ.1 a b) (ck_up σ.2.1 f i k v a b) (σ.2.2 a b) = _
    rw [ck_up_ne _ _ _ h]
theorem ck_putd (hexec : p.tables.exec = Jvm.exec) (hb : c.code = cc) {own C : String} {T : u_T} {N ci index : Nat} {Ts : List Cond} (hts : ∀ w ∈ Ts, w.before args s = true) (hin : ∀ w ∈ u_ws C T N, w ∈ Ts) (ty0 : Nat → FieldType) (hty : ∀ k, k < N → parseFieldDescriptor (T k).2.2.1 = some (ty0 k)) (hnm : ∀ a, a < N → ∀ b, b < N → a ≠ b → (T a).2.1 ≠ (T b).2.1) (hown : s.vm.findClass own = some m.cls) (hw : ck_H G s H locs σ) (hm : (f, i) ∈ ck_Ls G) {fs : List Value} (he : ck_V G σ f i = .inr (ci, fs)) (hc : vwCl[ci]? = some (C, T, N)) (k : Nat) (hk : k < N) (hlink : (Cond.fieldLink own index (T k).1 (T k).2.1 (T k).2.2.1).before args s = true) (hfin : (T k).2.2.2 = false) {v : UInt64} (hn : narrow (ty0 k) (.double v) = .double v) (hfit : fits (ty0 k) (.double v) = true) (hl : k < fs.length) (hset : ck_C G f i (σ.1 f i) (σ.2.1 f i) (va_up (σ.2.2 f i) k v) = .inr (ci, fs.set k (.double v))) (hdg : decode cc pc = .ok (.putfield index, 3))
    (kk : ∀ (H1 : Heap) (locs1 : List Loc), ck_H G s H1 locs1 (ck_ud σ f i k v) → W p l e R s m args below meth c H1 locs1 cells slots Q (F0 m (pc + 3) ls rest)) : W p l e R s m args below meth c H locs cells slots Q (F0 m pc ls (.double v :: .ref (ck_ad G f i) :: rest)) := by
  refine ck_put0 hexec hb hts hin ty0 hty hnm hown hw hm he hc k hk hlink hfin hn hfit hl (τ := ck_ud σ f i k v) ?_ ?_ hdg kk
  · show ck_C G f i (σ.1 f i) (σ.2.1 f i) (ck_up σ.2.2 f i k v f i) = _
    rw [ck_up_self]; exact hset
  · intro a b h
    show ck_C G a b (σ.1 a b) (σ.2.1 a b) (ck_up σ.2.2 f i k v a b) = _
    rw [ck_up_ne _ _ _ h]
theorem ck_iald (hexec : p.tables.exec = Jvm.exec) (hb : c.code = cc) (hw : ck_H G s H locs σ) (hm : (f, i) ∈ ck_Ls G) {n : Nat} (he : ck_V G σ f i = .inl (ck_cI G, n, .inl (σ.1 f i))) {x : Int32} (hin : vp_in x n) (hdg : decode cc pc = .ok (.iaload, 1))
    (kk : W p l e R s m args below meth c H locs cells slots Q (F0 m (pc + 1) ls (.int (ck_gi σ f i x.toNatClampNeg) :: rest))) : W p l e R s m args below meth c H locs cells slots Q (F0 m pc ls (.int x :: .ref (ck_ad G f i) :: rest)) := by
  obtain ⟨q, -, hq⟩ := ck_pos (σ := σ) hm
  rw [he] at hq
  exact va_iald hexec hb hw.1 hw.2.1 q 2 hq rfl hin hdg kk
theorem ck_bald (hexec : p.tables.exec = Jvm.exec) (hb : c.code = cc) (hw : ck_H G s H locs σ) (hm : (f, i) ∈ ck_Ls G) {n : Nat} (he : ck_V G σ f i = .inl (ck_cB G, n, .inl (σ.1 f i))) {x : Int32} (hin : vp_in x n) (hdg : decode cc pc = .ok (.baload, 1))
    (kk : W p l e R s m args below meth c H locs cells slots Q (F0 m (pc + 1) ls (.int (ck_gi σ f i x.toNatClampNeg) :: rest))) : W p l e R s m args below meth c H locs cells slots Q (F0 m pc ls (.int x :: .ref (ck_ad G f i) :: rest)) := by
  obtain ⟨q, -, hq⟩ := ck_pos (σ := σ) hm
  rw [he] at hq
  exact va_bald hexec hb hw.1 hw.2.1 q 0 hq rfl hin hdg kk
theorem ck_lald (hexec : p.tables.exec = Jvm.exec) (hb : c.code = cc) (hw : ck_H G s H locs σ) (hm : (f, i) ∈ ck_Ls G) {n : Nat} (he : ck_V G σ f i = .inl (ck_cJ G, n, .inr (.inl (σ.2.1 f i)))) {x : Int32} (hin : vp_in x n) (hdg : decode cc pc = .ok (.laload, 1))
    (kk : W p l e R s m args below meth c H locs cells slots Q (F0 m (pc + 1) ls (.long (ck_gj σ f i x.toNatClampNeg) :: rest))) : W p l e R s m args below meth c H locs cells slots Q (F0 m pc ls (.int x :: .ref (ck_ad G f i) :: rest)) := by
  obtain ⟨q, -, hq⟩ := ck_pos (σ := σ) hm
  rw [he] at hq
  exact va_lald hexec hb hw.1 hw.2.1 q 3 hq rfl hin hdg kk
theorem ck_dald (hexec : p.tables.exec = Jvm.exec) (hb : c.code = cc) (hw : ck_H G s H locs σ) (hm : (f, i) ∈ ck_Ls G) {n : Nat} (he : ck_V G σ f i = .inl (ck_cD G, n, .inr (.inr (.inr (.inl (σ.2.2 f i)))))) {x : Int32} (hin : vp_in x n) (hdg : decode cc pc = .ok (.daload, 1))
    (kk : W p l e R s m args below meth c H locs cells slots Q (F0 m (pc + 1) ls (.double (ck_gd σ f i x.toNatClampNeg) :: rest))) : W p l e R s m args below meth c H locs cells slots Q (F0 m pc ls (.int x :: .ref (ck_ad G f i) :: rest)) := by
  obtain ⟨q, -, hq⟩ := ck_pos (σ := σ) hm
  rw [he] at hq
  exact va_dald hexec hb hw.1 hw.2.1 q 1 hq rfl hin hdg kk
theorem ck_aald (hexec : p.tables.exec = Jvm.exec) (hb : c.code = cc) (hw : ck_H G s H locs σ) (hm : (1, 0) ∈ ck_Ls G) {x : Int32} (hin : vp_in x (ck_nc G)) (hdg : decode cc pc = .ok (.aaload, 1))
    (kk : W p l e R s m args below meth c H locs cells slots Q (F0 m (pc + 1) ls (.ref (ck_ad G 30 x.toNatClampNeg) :: rest))) : W p l e R s m args below meth c H locs cells slots Q (F0 m pc ls (.int x :: .ref (ck_ad G 1 0) :: rest)) := by
  obtain ⟨q, -, hq⟩ := ck_pos (σ := σ) hm
  exact va_aldq (f := fun k => some (ck_ad G 30 k)) hexec hb hw.1 hw.2.1 q 4 hq rfl hin hdg kk
theorem ck_alen (hexec : p.tables.exec = Jvm.exec) (hb : c.code = cc) (hw : ck_H G s H locs σ) (hm : (f, i) ∈ ck_Ls G) {cA : ClassId} {x : vp_A} (he : ck_V G σ f i = .inl (cA, x)) (t0 : Nat) {ty : FieldType} (ht : (ck_ty G)[t0]? = some (cA, ty)) {v : Int32} (hv : Int32.ofNat x.1 = v) (hdg : decode cc pc = .ok (.arraylength, 1))
    (kk : W p l e R s m args below meth c H locs cells slots Q (F0 m (pc + 1) ls (.int v :: rest))) : W p l e R s m args below meth c H locs cells slots Q (F0 m pc ls (.ref (ck_ad G f i) :: rest)) := by
  obtain ⟨q, -, hq⟩ := ck_pos (σ := σ) hm
  rw [he] at hq
  exact va_alen hexec hb hw.1 hw.2.1 q t0 hq ht hv hdg kk
theorem ck_iast (hexec : p.tables.exec = Jvm.exec) (hb : c.code = cc) (hw : ck_H G s H locs σ) (hm : (f, i) ∈ ck_Ls G) {n : Nat} (he : ∀ g, ck_C G f i g (σ.2.1 f i) (σ.2.2 f i) = .inl (ck_cI G, n, .inl g)) {x y : Int32} (hin : vp_in x n) (hdg : decode cc pc = .ok (.iastore, 1))
    (kk : ∀ (H1 : Heap) (locs1 : List Loc), ck_H G s H1 locs1 (ck_ui σ f i x.toNatClampNeg y) → W p l e R s m args below meth c H1 locs1 cells slots Q (F0 m (pc + 1) ls rest)) : W p l e R s m args below meth c H locs cells slots Q (F0 m pc ls (.int y :: .int x :: .ref (ck_ad G f i) :: rest)) := by
  obtain ⟨q, hq0, hq⟩ := ck_pos (σ := σ) hm
  rw [show ck_V G σ f i = .inl (ck_cI G, n, .inl (σ.1 f i)) from he _] at hq
  refine va_iast hexec hb hw.1 hw.2.1 hw.2.2.1 hw.2.2.2 q 2 hq rfl hin hdg (fun H1 locs1 hP hD hS => ?_)
  have hs := ck_set (τ := ck_ui σ f i x.toNatClampNeg y) (e := .inl (ck_cI G, n, .inl (upd (σ.1 f i) x.toNatClampNeg y))) hw.2.2.1 hq0 (by
    show ck_C G f i (ck_up σ.1 f i x.toNatClampNeg y f i) (σ.2.1 f i) (σ.2.2 f i) = _
    rw [ck_up_self]; exact he _) (by
    intro a b h
    show ck_C G a b (ck_up σ.1 f i x.toNatClampNeg y a b) (σ.2.1 a b) (σ.2.2 a b) = _
    rw [ck_up_ne _ _ _ h])
  rw [hs] at hP hD
  exact kk H1 locs1 ⟨hw.1, hP, hD, hS⟩
theorem ck_bast (hexec : p.tables.exec = Jvm.exec) (hb : c.code = cc) (hw : ck_H G s H locs σ) (hm : (f, i) ∈ ck_Ls G) {n : Nat} (he : ∀ g, ck_C G f i g (σ.2.1 f i) (σ.2.2 f i) = .inl (ck_cB G, n, .inl g)) {x y : Int32} (hin : vp_in x n) (hdg : decode cc pc = .ok (.bastore, 1))
    (kk : ∀ (H1 : Heap) (locs1 : List Loc), ck_H G s H1 locs1 (ck_ui σ f i x.toNatClampNeg (vp_nar .byte y)) → W p l e R s m args below meth c H1 locs1 cells slots Q (F0 m (pc + 1) ls rest)) : W p l e R s m args below meth c H locs cells slots Q (F0 m pc ls (.int y :: .int x :: .ref (ck_ad G f i) :: rest)) := by
  obtain ⟨q, hq0, hq⟩ := ck_pos (σ := σ) hm
  rw [show ck_V G σ f i = .inl (ck_cB G, n, .inl (σ.1 f i)) from he _] at hq
  refine va_bast hexec hb hw.1 hw.2.1 hw.2.2.1 hw.2.2.2 q 0 hq rfl hin hdg (fun H1 locs1 hP hD hS => ?_)
  have hs := ck_set (τ := ck_ui σ f i x.toNatClampNeg (vp_nar .byte y)) (e := .inl (ck_cB G, n, .inl (upd (σ.1 f i) x.toNatClampNeg (vp_nar .byte y)))) hw.2.2.1 hq0 (by
    show ck_C G f i (ck_up σ.1 f i x.toNatClampNeg (vp_nar .byte y) f i) (σ.2.1 f i) (σ.2.2 f i) = _
    rw [ck_up_self]; exact he _) (by
    intro a b h
    show ck_C G a b (ck_up σ.1 f i x.toNatClampNeg (vp_nar .byte y) a b) (σ.2.1 a b) (σ.2.2 a b) = _
    rw [ck_up_ne _ _ _ h])
  rw [hs] at hP hD
  exact kk H1 locs1 ⟨hw.1, hP, hD, hS⟩
theorem ck_last (hexec : p.tables.exec = Jvm.exec) (hb : c.code = cc) (hw : ck_H G s H locs σ) (hm : (f, i) ∈ ck_Ls G) {n : Nat} (he : ∀ g, ck_C G f i (σ.1 f i) g (σ.2.2 f i) = .inl (ck_cJ G, n, .inr (.inl g))) {x : Int32} {y : Int64} (hin : vp_in x n) (hdg : decode cc pc = .ok (.lastore, 1))
    (kk : ∀ (H1 : Heap) (locs1 : List Loc), ck_H G s H1 locs1 (ck_uj σ f i x.toNatClampNeg y) → W p l e R s m args below meth c H1 locs1 cells slots Q (F0 m (pc + 1) ls rest)) : W p l e R s m args below meth c H locs cells slots Q (F0 m pc ls (.long y :: .int x :: .ref (ck_ad G f i) :: rest)) := by
  obtain ⟨q, hq0, hq⟩ := ck_pos (σ := σ) hm
  rw [show ck_V G σ f i = .inl (ck_cJ G, n, .inr (.inl (σ.2.1 f i))) from he _] at hq
  refine va_last hexec hb hw.1 hw.2.1 hw.2.2.1 hw.2.2.2 q 3 hq rfl hin hdg (fun H1 locs1 hP hD hS => ?_)
  have hs := ck_set (τ := ck_uj σ f i x.toNatClampNeg y) (e := .inl (ck_cJ G, n, .inr (.inl (vp_updL (σ.2.1 f i) x.toNatClampNeg y)))) hw.2.2.1 hq0 (by
    show ck_C G f i (σ.1 f i) (ck_up σ.2.1 f i x.toNatClampNeg y f i) (σ.2.2 f i) = _
    rw [ck_up_self]; exact he _) (by
    intro a b h
    show ck_C G a b (σ.1 a b) (ck_up σ.2.1 f i x.toNatClampNeg y a b) (σ.2.2 a b) = _
    rw [ck_up_ne _ _ _ h])
  rw [hs] at hP hD
  exact kk H1 locs1 ⟨hw.1, hP, hD, hS⟩
theorem ck_dast (hexec : p.tables.exec = Jvm.exec) (hb : c.code = cc) (hw : ck_H G s H locs σ) (hm : (f, i) ∈ ck_Ls G) {n : Nat} (he : ∀ g, ck_C G f i (σ.1 f i) (σ.2.1 f i) g = .inl (ck_cD G, n, .inr (.inr (.inr (.inl g))))) {x : Int32} {y : UInt64} (hin : vp_in x n) (hdg : decode cc pc = .ok (.dastore, 1))
    (kk : ∀ (H1 : Heap) (locs1 : List Loc), ck_H G s H1 locs1 (ck_ud σ f i x.toNatClampNeg y) → W p l e R s m args below meth c H1 locs1 cells slots Q (F0 m (pc + 1) ls rest)) : W p l e R s m args below meth c H locs cells slots Q (F0 m pc ls (.double y :: .int x :: .ref (ck_ad G f i) :: rest)) := by
  obtain ⟨q, hq0, hq⟩ := ck_pos (σ := σ) hm
  rw [show ck_V G σ f i = .inl (ck_cD G, n, .inr (.inr (.inr (.inl (σ.2.2 f i))))) from he _] at hq
  refine va_dast hexec hb hw.1 hw.2.1 hw.2.2.1 hw.2.2.2 q 1 hq rfl hin hdg (fun H1 locs1 hP hD hS => ?_)
  have hs := ck_set (τ := ck_ud σ f i x.toNatClampNeg y) (e := .inl (ck_cD G, n, .inr (.inr (.inr (.inl (vf_upd (σ.2.2 f i) x.toNatClampNeg y)))))) hw.2.2.1 hq0 (by
    show ck_C G f i (σ.1 f i) (σ.2.1 f i) (ck_up σ.2.2 f i x.toNatClampNeg y f i) = _
    rw [ck_up_self]; exact he _) (by
    intro a b h
    show ck_C G a b (σ.1 a b) (σ.2.1 a b) (ck_up σ.2.2 f i x.toNatClampNeg y a b) = _
    rw [ck_up_ne _ _ _ h])
  rw [hs] at hP hD
  exact kk H1 locs1 ⟨hw.1, hP, hD, hS⟩
end CKR
