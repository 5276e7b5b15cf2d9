/-! THE PURE PART: basics. ck_mk: the class half of one state and the model half (families 10 to 20) of another. -/
def ck_mk (γ μ : ck_S) : ck_S := (fun f i k => if 10 ≤ f ∧ f ≤ 20 then μ.1 f i k else γ.1 f i k, fun f i k => if 10 ≤ f ∧ f ≤ 20 then μ.2.1 f i k else γ.2.1 f i k, fun f i k => if 10 ≤ f ∧ f ≤ 20 then μ.2.2 f i k else γ.2.2 f i k)
theorem ck_mk_self (σ : ck_S) : ck_mk σ σ = σ := by
  unfold ck_mk
  simp
theorem mk_ui_M (γ μ : ck_S) (f i k : Nat) (v : Int32) (h : 10 ≤ f ∧ f ≤ 20) : ck_ui (ck_mk γ μ) f i k v = ck_mk γ (ck_ui μ f i k v) := by
  unfold ck_ui ck_mk ck_up
  ext <;> grind
theorem mk_ui_C (γ μ : ck_S) (f i k : Nat) (v : Int32) (h : ¬ (10 ≤ f ∧ f ≤ 20)) : ck_ui (ck_mk γ μ) f i k v = ck_mk (ck_ui γ f i k v) μ := by
  unfold ck_ui ck_mk ck_up
  ext <;> grind
theorem mk_uj_M (γ μ : ck_S) (f i k : Nat) (v : Int64) (h : 10 ≤ f ∧ f ≤ 20) : ck_uj (ck_mk γ μ) f i k v = ck_mk γ (ck_uj μ f i k v) := by
  unfold ck_uj ck_mk ck_up
  ext <;> grind
theorem mk_uj_C (γ μ : ck_S) (f i k : Nat) (v : Int64) (h : ¬ (10 ≤ f ∧ f ≤ 20)) : ck_uj (ck_mk γ μ) f i k v = ck_mk (ck_uj γ f i k v) μ := by
  unfold ck_uj ck_mk ck_up
  ext <;> grind
theorem mk_ud_M (γ μ : ck_S) (f i k : Nat) (v : UInt64) (h : 10 ≤ f ∧ f ≤ 20) : ck_ud (ck_mk γ μ) f i k v = ck_mk γ (ck_ud μ f i k v) := by
  unfold ck_ud ck_mk ck_up
  ext <;> grind
theorem mk_ud_C (γ μ : ck_S) (f i k : Nat) (v : UInt64) (h : ¬ (10 ≤ f ∧ f ≤ 20)) : ck_ud (ck_mk γ μ) f i k v = ck_mk (ck_ud γ f i k v) μ := by
  unfold ck_ud ck_mk ck_up
  ext <;> grind
theorem mi_0 (γ μ : ck_S) (i k : Nat) : (ck_mk γ μ).1 0 i k = γ.1 0 i k := rfl
theorem mui_0 (γ μ : ck_S) (i k : Nat) (v : Int32) : ck_ui (ck_mk γ μ) 0 i k v = ck_mk (ck_ui γ 0 i k v) μ := mk_ui_C γ μ _ i k v (by decide)
theorem mi_2 (γ μ : ck_S) (i k : Nat) : (ck_mk γ μ).1 2 i k = γ.1 2 i k := rfl
theorem mui_2 (γ μ : ck_S) (i k : Nat) (v : Int32) : ck_ui (ck_mk γ μ) 2 i k v = ck_mk (ck_ui γ 2 i k v) μ := mk_ui_C γ μ _ i k v (by decide)
theorem mi_3 (γ μ : ck_S) (i k : Nat) : (ck_mk γ μ).1 3 i k = γ.1 3 i k := rfl
theorem mui_3 (γ μ : ck_S) (i k : Nat) (v : Int32) : ck_ui (ck_mk γ μ) 3 i k v = ck_mk (ck_ui γ 3 i k v) μ := mk_ui_C γ μ _ i k v (by decide)
theorem mi_4 (γ μ : ck_S) (i k : Nat) : (ck_mk γ μ).1 4 i k = γ.1 4 i k := rfl
theorem mui_4 (γ μ : ck_S) (i k : Nat) (v : Int32) : ck_ui (ck_mk γ μ) 4 i k v = ck_mk (ck_ui γ 4 i k v) μ := mk_ui_C γ μ _ i k v (by decide)
theorem mi_5 (γ μ : ck_S) (i k : Nat) : (ck_mk γ μ).1 5 i k = γ.1 5 i k := rfl
theorem mui_5 (γ μ : ck_S) (i k : Nat) (v : Int32) : ck_ui (ck_mk γ μ) 5 i k v = ck_mk (ck_ui γ 5 i k v) μ := mk_ui_C γ μ _ i k v (by decide)
theorem mi_6 (γ μ : ck_S) (i k : Nat) : (ck_mk γ μ).1 6 i k = γ.1 6 i k := rfl
theorem mui_6 (γ μ : ck_S) (i k : Nat) (v : Int32) : ck_ui (ck_mk γ μ) 6 i k v = ck_mk (ck_ui γ 6 i k v) μ := mk_ui_C γ μ _ i k v (by decide)
theorem mi_7 (γ μ : ck_S) (i k : Nat) : (ck_mk γ μ).1 7 i k = γ.1 7 i k := rfl
theorem mui_7 (γ μ : ck_S) (i k : Nat) (v : Int32) : ck_ui (ck_mk γ μ) 7 i k v = ck_mk (ck_ui γ 7 i k v) μ := mk_ui_C γ μ _ i k v (by decide)
theorem mi_8 (γ μ : ck_S) (i k : Nat) : (ck_mk γ μ).1 8 i k = γ.1 8 i k := rfl
theorem mui_8 (γ μ : ck_S) (i k : Nat) (v : Int32) : ck_ui (ck_mk γ μ) 8 i k v = ck_mk (ck_ui γ 8 i k v) μ := mk_ui_C γ μ _ i k v (by decide)
theorem mi_30 (γ μ : ck_S) (i k : Nat) : (ck_mk γ μ).1 30 i k = γ.1 30 i k := rfl
theorem mui_30 (γ μ : ck_S) (i k : Nat) (v : Int32) : ck_ui (ck_mk γ μ) 30 i k v = ck_mk (ck_ui γ 30 i k v) μ := mk_ui_C γ μ _ i k v (by decide)
theorem mi_31 (γ μ : ck_S) (i k : Nat) : (ck_mk γ μ).1 31 i k = γ.1 31 i k := rfl
theorem mui_31 (γ μ : ck_S) (i k : Nat) (v : Int32) : ck_ui (ck_mk γ μ) 31 i k v = ck_mk (ck_ui γ 31 i k v) μ := mk_ui_C γ μ _ i k v (by decide)
theorem mi_32 (γ μ : ck_S) (i k : Nat) : (ck_mk γ μ).1 32 i k = γ.1 32 i k := rfl
theorem mui_32 (γ μ : ck_S) (i k : Nat) (v : Int32) : ck_ui (ck_mk γ μ) 32 i k v = ck_mk (ck_ui γ 32 i k v) μ := mk_ui_C γ μ _ i k v (by decide)
theorem mi_10 (γ μ : ck_S) (i k : Nat) : (ck_mk γ μ).1 10 i k = μ.1 10 i k := rfl
theorem mui_10 (γ μ : ck_S) (i k : Nat) (v : Int32) : ck_ui (ck_mk γ μ) 10 i k v = ck_mk γ (ck_ui μ 10 i k v) := mk_ui_M γ μ _ i k v (by decide)
theorem mi_11 (γ μ : ck_S) (i k : Nat) : (ck_mk γ μ).1 11 i k = μ.1 11 i k := rfl
theorem mui_11 (γ μ : ck_S) (i k : Nat) (v : Int32) : ck_ui (ck_mk γ μ) 11 i k v = ck_mk γ (ck_ui μ 11 i k v) := mk_ui_M γ μ _ i k v (by decide)
theorem mi_12 (γ μ : ck_S) (i k : Nat) : (ck_mk γ μ).1 12 i k = μ.1 12 i k := rfl
theorem mui_12 (γ μ : ck_S) (i k : Nat) (v : Int32) : ck_ui (ck_mk γ μ) 12 i k v = ck_mk γ (ck_ui μ 12 i k v) := mk_ui_M γ μ _ i k v (by decide)
theorem mi_14 (γ μ : ck_S) (i k : Nat) : (ck_mk γ μ).1 14 i k = μ.1 14 i k := rfl
theorem mui_14 (γ μ : ck_S) (i k : Nat) (v : Int32) : ck_ui (ck_mk γ μ) 14 i k v = ck_mk γ (ck_ui μ 14 i k v) := mk_ui_M γ μ _ i k v (by decide)
theorem mi_16 (γ μ : ck_S) (i k : Nat) : (ck_mk γ μ).1 16 i k = μ.1 16 i k := rfl
theorem mui_16 (γ μ : ck_S) (i k : Nat) (v : Int32) : ck_ui (ck_mk γ μ) 16 i k v = ck_mk γ (ck_ui μ 16 i k v) := mk_ui_M γ μ _ i k v (by decide)
theorem mi_17 (γ μ : ck_S) (i k : Nat) : (ck_mk γ μ).1 17 i k = μ.1 17 i k := rfl
theorem mui_17 (γ μ : ck_S) (i k : Nat) (v : Int32) : ck_ui (ck_mk γ μ) 17 i k v = ck_mk γ (ck_ui μ 17 i k v) := mk_ui_M γ μ _ i k v (by decide)
theorem mi_18 (γ μ : ck_S) (i k : Nat) : (ck_mk γ μ).1 18 i k = μ.1 18 i k := rfl
theorem mui_18 (γ μ : ck_S) (i k : Nat) (v : Int32) : ck_ui (ck_mk γ μ) 18 i k v = ck_mk γ (ck_ui μ 18 i k v) := mk_ui_M γ μ _ i k v (by decide)
theorem mi_19 (γ μ : ck_S) (i k : Nat) : (ck_mk γ μ).1 19 i k = μ.1 19 i k := rfl
theorem mui_19 (γ μ : ck_S) (i k : Nat) (v : Int32) : ck_ui (ck_mk γ μ) 19 i k v = ck_mk γ (ck_ui μ 19 i k v) := mk_ui_M γ μ _ i k v (by decide)
theorem mi_20 (γ μ : ck_S) (i k : Nat) : (ck_mk γ μ).1 20 i k = μ.1 20 i k := rfl
theorem mui_20 (γ μ : ck_S) (i k : Nat) (v : Int32) : ck_ui (ck_mk γ μ) 20 i k v = ck_mk γ (ck_ui μ 20 i k v) := mk_ui_M γ μ _ i k v (by decide)
theorem mj_21 (γ μ : ck_S) (i k : Nat) : (ck_mk γ μ).2.1 21 i k = γ.2.1 21 i k := rfl
theorem muj_21 (γ μ : ck_S) (i k : Nat) (v : Int64) : ck_uj (ck_mk γ μ) 21 i k v = ck_mk (ck_uj γ 21 i k v) μ := mk_uj_C γ μ _ i k v (by decide)
theorem mj_10 (γ μ : ck_S) (i k : Nat) : (ck_mk γ μ).2.1 10 i k = μ.2.1 10 i k := rfl
theorem muj_10 (γ μ : ck_S) (i k : Nat) (v : Int64) : ck_uj (ck_mk γ μ) 10 i k v = ck_mk γ (ck_uj μ 10 i k v) := mk_uj_M γ μ _ i k v (by decide)
theorem mj_13 (γ μ : ck_S) (i k : Nat) : (ck_mk γ μ).2.1 13 i k = μ.2.1 13 i k := rfl
theorem muj_13 (γ μ : ck_S) (i k : Nat) (v : Int64) : ck_uj (ck_mk γ μ) 13 i k v = ck_mk γ (ck_uj μ 13 i k v) := mk_uj_M γ μ _ i k v (by decide)
theorem mj_15 (γ μ : ck_S) (i k : Nat) : (ck_mk γ μ).2.1 15 i k = μ.2.1 15 i k := rfl
theorem muj_15 (γ μ : ck_S) (i k : Nat) (v : Int64) : ck_uj (ck_mk γ μ) 15 i k v = ck_mk γ (ck_uj μ 15 i k v) := mk_uj_M γ μ _ i k v (by decide)
theorem md_0 (γ μ : ck_S) (i k : Nat) : (ck_mk γ μ).2.2 0 i k = γ.2.2 0 i k := rfl
theorem mud_0 (γ μ : ck_S) (i k : Nat) (v : UInt64) : ck_ud (ck_mk γ μ) 0 i k v = ck_mk (ck_ud γ 0 i k v) μ := mk_ud_C γ μ _ i k v (by decide)
theorem md_2 (γ μ : ck_S) (i k : Nat) : (ck_mk γ μ).2.2 2 i k = γ.2.2 2 i k := rfl
theorem mud_2 (γ μ : ck_S) (i k : Nat) (v : UInt64) : ck_ud (ck_mk γ μ) 2 i k v = ck_mk (ck_ud γ 2 i k v) μ := mk_ud_C γ μ _ i k v (by decide)
theorem md_22 (γ μ : ck_S) (i k : Nat) : (ck_mk γ μ).2.2 22 i k = γ.2.2 22 i k := rfl
theorem mud_22 (γ μ : ck_S) (i k : Nat) (v : UInt64) : ck_ud (ck_mk γ μ) 22 i k v = ck_mk (ck_ud γ 22 i k v) μ := mk_ud_C γ μ _ i k v (by decide)
theorem md_30 (γ μ : ck_S) (i k : Nat) : (ck_mk γ μ).2.2 30 i k = γ.2.2 30 i k := rfl
theorem mud_30 (γ μ : ck_S) (i k : Nat) (v : UInt64) : ck_ud (ck_mk γ μ) 30 i k v = ck_mk (ck_ud γ 30 i k v) μ := mk_ud_C γ μ _ i k v (by decide)
theorem md_33 (γ μ : ck_S) (i k : Nat) : (ck_mk γ μ).2.2 33 i k = γ.2.2 33 i k := rfl
theorem mud_33 (γ μ : ck_S) (i k : Nat) (v : UInt64) : ck_ud (ck_mk γ μ) 33 i k v = ck_mk (ck_ud γ 33 i k v) μ := mk_ud_C γ μ _ i k v (by decide)
theorem ri_ui (σ : ck_S) (f i k : Nat) (v : Int32) (a b c : Nat) : (ck_ui σ f i k v).1 a b c = if a = f ∧ b = i ∧ c = k then v else σ.1 a b c := rfl
theorem rj_ui (σ : ck_S) (f i k : Nat) (v : Int32) : (ck_ui σ f i k v).2.1 = σ.2.1 := rfl
theorem rd_ui (σ : ck_S) (f i k : Nat) (v : Int32) : (ck_ui σ f i k v).2.2 = σ.2.2 := rfl
theorem ri_uj (σ : ck_S) (f i k : Nat) (v : Int64) : (ck_uj σ f i k v).1 = σ.1 := rfl
theorem rj_uj (σ : ck_S) (f i k : Nat) (v : Int64) (a b c : Nat) : (ck_uj σ f i k v).2.1 a b c = if a = f ∧ b = i ∧ c = k then v else σ.2.1 a b c := rfl
theorem rd_uj (σ : ck_S) (f i k : Nat) (v : Int64) : (ck_uj σ f i k v).2.2 = σ.2.2 := rfl
theorem ri_ud (σ : ck_S) (f i k : Nat) (v : UInt64) : (ck_ud σ f i k v).1 = σ.1 := rfl
theorem rj_ud (σ : ck_S) (f i k : Nat) (v : UInt64) : (ck_ud σ f i k v).2.1 = σ.2.1 := rfl
theorem rd_ud (σ : ck_S) (f i k : Nat) (v : UInt64) (a b c : Nat) : (ck_ud σ f i k v).2.2 a b c = if a = f ∧ b = i ∧ c = k then v else σ.2.2 a b c := rfl
theorem kb_t {c A B : Prop} (h : c) (a : A) : (c → A) ∧ (¬ c → B) := ⟨fun _ => a, fun n => absurd h n⟩
theorem kb_f {c A B : Prop} (h : ¬ c) (b : B) : (c → A) ∧ (¬ c → B) := ⟨fun n => absurd n h, fun _ => b⟩
theorem kn_t {c A B : Prop} (h : ¬ c) (a : A) : (¬ c → A) ∧ (c → B) := ⟨fun _ => a, fun n => absurd n h⟩
theorem kn_f {c A B : Prop} (h : c) (b : B) : (¬ c → A) ∧ (c → B) := ⟨fun n => absurd h n, fun _ => b⟩
theorem al_1 {α : Type} {e : α} {P : α → Prop} (h : P e) : ∀ x, x = e → P x := fun _ q => q ▸ h
def b2 (p : Bool) : Int32 := if p then 1 else 0
theorem b2_b (p : Bool) : ck_b (b2 p) := by cases p <;> simp [b2, ck_b]
theorem b2_t : b2 true = 1 := rfl
theorem b2_f : b2 false = 0 := rfl
theorem b2_0 (p : Bool) : b2 p = 0 ↔ p = false := by cases p <;> simp [b2]
theorem b2_n (p : Bool) : ¬ b2 p = 0 ↔ p = true := by cases p <;> simp [b2]
def anyB (p : Nat → Bool) : Nat → Bool
  | 0 => false
  | n + 1 => anyB p n || p n
theorem anyB_iff (p : Nat → Bool) : ∀ n, anyB p n = true ↔ ∃ i, i < n ∧ p i = true
  | 0 => by simp [anyB]
  | n + 1 => by
    rw [anyB, Bool.or_eq_true, anyB_iff p n]
    constructor
    · rintro (⟨i, hi, h⟩ | h)
      · exact ⟨i, by omega, h⟩
      · exact ⟨n, by omega, h⟩
    · rintro ⟨i, hi, h⟩
      rcases Nat.lt_succ_iff_lt_or_eq.mp hi with h2 | h2
      · exact Or.inl ⟨i, h2, h⟩
      · exact Or.inr (h2 ▸ h)
theorem anyB_false (p : Nat → Bool) (n : Nat) : anyB p n = false ↔ ∀ i, i < n → p i = false := by
  rw [← Bool.not_eq_true, anyB_iff]
  constructor
  · intro h i hi
    exact Bool.eq_false_iff.mpr (fun q => h ⟨i, hi, q⟩)
  · rintro h ⟨i, hi, q⟩
    rw [h i hi] at q
    exact absurd q (by decide)
theorem anyB_cong {p q : Nat → Bool} : ∀ {n : Nat}, (∀ i, i < n → p i = q i) → anyB p n = anyB q n
  | 0, _ => rfl
  | n + 1, h => by rw [anyB, anyB, anyB_cong (fun i hi => h i (Nat.lt_succ_of_lt hi)), h n (Nat.lt_succ_self n)]
theorem cv_cases (a b : Int) (m : CmpOp) : (a < b ∧ Op.cmpValue (some (compare a b)) m = -1) ∨ (a = b ∧ Op.cmpValue (some (compare a b)) m = 0) ∨ (b < a ∧ Op.cmpValue (some (compare a b)) m = 1) := by
  rw [FP.Core.compare_ite]
  by_cases h1 : a < b
  · rw [if_pos h1]
    exact Or.inl ⟨h1, rfl⟩
  · rw [if_neg h1]
    by_cases h2 : a = b
    · rw [if_pos h2]
      exact Or.inr (Or.inl ⟨h2, rfl⟩)
    · rw [if_neg h2]
      exact Or.inr (Or.inr ⟨by omega, rfl⟩)
theorem cv_lt (a b : Int) (m : CmpOp) : Op.cmpValue (some (compare a b)) m < 0 ↔ a < b := by
  rcases cv_cases a b m with ⟨h, e⟩ | ⟨h, e⟩ | ⟨h, e⟩ <;> rw [e] <;> simp <;> omega
theorem cv_le (a b : Int) (m : CmpOp) : Op.cmpValue (some (compare a b)) m ≤ 0 ↔ a ≤ b := by
  rcases cv_cases a b m with ⟨h, e⟩ | ⟨h, e⟩ | ⟨h, e⟩ <;> rw [e] <;> simp <;> omega
theorem cv_gt (a b : Int) (m : CmpOp) : 0 < Op.cmpValue (some (compare a b)) m ↔ b < a := by
  rcases cv_cases a b m with ⟨h, e⟩ | ⟨h, e⟩ | ⟨h, e⟩ <;> rw [e] <;> simp <;> omega
theorem cv_ge (a b : Int) (m : CmpOp) : 0 ≤ Op.cmpValue (some (compare a b)) m ↔ b ≤ a := by
  rcases cv_cases a b m with ⟨h, e⟩ | ⟨h, e⟩ | ⟨h, e⟩ <;> rw [e] <;> simp <;> omega
theorem cv_eq (a b : Int) (m : CmpOp) : Op.cmpValue (some (compare a b)) m = 0 ↔ a = b := by
  rcases cv_cases a b m with ⟨h, e⟩ | ⟨h, e⟩ | ⟨h, e⟩ <;> rw [e] <;> simp <;> omega

theorem cu_2 {A1 : Type} {F : (A1 → Int32 → Prop) → A1 → Int32 → Prop} (N : Nat) (cnt : Nat → Int32) (J : Nat → A1 → Prop) (step : ∀ j, j < N → ∀ (a1 : A1), J j a1 → ∀ K : A1 → Int32 → Prop, (∀ (b1 : A1), J (j + 1) b1 → ∀ y, cnt (j + 1) = y → K b1 y) → F K a1 (cnt j)) (fin : ∀ (a1 : A1), J N a1 → ∀ K : A1 → Int32 → Prop, F K a1 (cnt N)) (j : Nat) (hj : j ≤ N) (a1 : A1) (h : J j a1) (x : Int32) (hx : cnt j = x) : lx_2 F a1 x := by
  have key : ∀ (d j : Nat) (a1 : A1), j + d = N → J j a1 → lk_2 F (d + 1) a1 (cnt j) := by
    intro d
    induction d with
    | zero =>
      intro j a1 e h
      have e : j = N := e
      subst e
      exact fin a1 h _
    | succ d ih =>
      intro j a1 e h
      exact step j (by omega) a1 h _ (fun b1 hb y hy => hy ▸ ih (j + 1) b1 (by omega) hb)
  exact hx ▸ ⟨_, key (N - j) j a1 (by omega) h⟩
theorem cu_3 {A1 A2 : Type} {F : (A1 → A2 → Int32 → Prop) → A1 → A2 → Int32 → Prop} (N : Nat) (cnt : Nat → Int32) (J : Nat → A1 → A2 → Prop) (step : ∀ j, j < N → ∀ (a1 : A1) (a2 : A2), J j a1 a2 → ∀ K : A1 → A2 → Int32 → Prop, (∀ (b1 : A1) (b2 : A2), J (j + 1) b1 b2 → ∀ y, cnt (j + 1) = y → K b1 b2 y) → F K a1 a2 (cnt j)) (fin : ∀ (a1 : A1) (a2 : A2), J N a1 a2 → ∀ K : A1 → A2 → Int32 → Prop, F K a1 a2 (cnt N)) (j : Nat) (hj : j ≤ N) (a1 : A1) (a2 : A2) (h : J j a1 a2) (x : Int32) (hx : cnt j = x) : lx_3 F a1 a2 x := by
  have key : ∀ (d j : Nat) (a1 : A1) (a2 : A2), j + d = N → J j a1 a2 → lk_3 F (d + 1) a1 a2 (cnt j) := by
    intro d
    induction d with
    | zero =>
      intro j a1 a2 e h
      have e : j = N := e
      subst e
      exact fin a1 a2 h _
    | succ d ih =>
      intro j a1 a2 e h
      exact step j (by omega) a1 a2 h _ (fun b1 b2 hb y hy => hy ▸ ih (j + 1) b1 b2 (by omega) hb)
  exact hx ▸ ⟨_, key (N - j) j a1 a2 (by omega) h⟩
theorem cu_4 {A1 A2 A3 : Type} {F : (A1 → A2 → A3 → Int32 → Prop) → A1 → A2 → A3 → Int32 → Prop} (N : Nat) (cnt : Nat → Int32) (J : Nat → A1 → A2 → A3 → Prop) (step : ∀ j, j < N → ∀ (a1 : A1) (a2 : A2) (a3 : A3), J j a1 a2 a3 → ∀ K : A1 → A2 → A3 → Int32 → Prop, (∀ (b1 : A1) (b2 : A2) (b3 : A3), J (j + 1) b1 b2 b3 → ∀ y, cnt (j + 1) = y → K b1 b2 b3 y) → F K a1 a2 a3 (cnt j)) (fin : ∀ (a1 : A1) (a2 : A2) (a3 : A3), J N a1 a2 a3 → ∀ K : A1 → A2 → A3 → Int32 → Prop, F K a1 a2 a3 (cnt N)) (j : Nat) (hj : j ≤ N) (a1 : A1) (a2 : A2) (a3 : A3) (h : J j a1 a2 a3) (x : Int32) (hx : cnt j = x) : lx_4 F a1 a2 a3 x := by
  have key : ∀ (d j : Nat) (a1 : A1) (a2 : A2) (a3 : A3), j + d = N → J j a1 a2 a3 → lk_4 F (d + 1) a1 a2 a3 (cnt j) := by
    intro d
    induction d with
    | zero =>
      intro j a1 a2 a3 e h
      have e : j = N := e
      subst e
      exact fin a1 a2 a3 h _
    | succ d ih =>
      intro j a1 a2 a3 e h
      exact step j (by omega) a1 a2 a3 h _ (fun b1 b2 b3 hb y hy => hy ▸ ih (j + 1) b1 b2 b3 (by omega) hb)
  exact hx ▸ ⟨_, key (N - j) j a1 a2 a3 (by omega) h⟩
theorem cu_5 {A1 A2 A3 A4 : Type} {F : (A1 → A2 → A3 → A4 → Int32 → Prop) → A1 → A2 → A3 → A4 → Int32 → Prop} (N : Nat) (cnt : Nat → Int32) (J : Nat → A1 → A2 → A3 → A4 → Prop) (step : ∀ j, j < N → ∀ (a1 : A1) (a2 : A2) (a3 : A3) (a4 : A4), J j a1 a2 a3 a4 → ∀ K : A1 → A2 → A3 → A4 → Int32 → Prop, (∀ (b1 : A1) (b2 : A2) (b3 : A3) (b4 : A4), J (j + 1) b1 b2 b3 b4 → ∀ y, cnt (j + 1) = y → K b1 b2 b3 b4 y) → F K a1 a2 a3 a4 (cnt j)) (fin : ∀ (a1 : A1) (a2 : A2) (a3 : A3) (a4 : A4), J N a1 a2 a3 a4 → ∀ K : A1 → A2 → A3 → A4 → Int32 → Prop, F K a1 a2 a3 a4 (cnt N)) (j : Nat) (hj : j ≤ N) (a1 : A1) (a2 : A2) (a3 : A3) (a4 : A4) (h : J j a1 a2 a3 a4) (x : Int32) (hx : cnt j = x) : lx_5 F a1 a2 a3 a4 x := by
  have key : ∀ (d j : Nat) (a1 : A1) (a2 : A2) (a3 : A3) (a4 : A4), j + d = N → J j a1 a2 a3 a4 → lk_5 F (d + 1) a1 a2 a3 a4 (cnt j) := by
    intro d
    induction d with
    | zero =>
      intro j a1 a2 a3 a4 e h
      have e : j = N := e
      subst e
      exact fin a1 a2 a3 a4 h _
    | succ d ih =>
      intro j a1 a2 a3 a4 e h
      exact step j (by omega) a1 a2 a3 a4 h _ (fun b1 b2 b3 b4 hb y hy => hy ▸ ih (j + 1) b1 b2 b3 b4 (by omega) hb)
  exact hx ▸ ⟨_, key (N - j) j a1 a2 a3 a4 (by omega) h⟩
theorem cu_6 {A1 A2 A3 A4 A5 : Type} {F : (A1 → A2 → A3 → A4 → A5 → Int32 → Prop) → A1 → A2 → A3 → A4 → A5 → Int32 → Prop} (N : Nat) (cnt : Nat → Int32) (J : Nat → A1 → A2 → A3 → A4 → A5 → Prop) (step : ∀ j, j < N → ∀ (a1 : A1) (a2 : A2) (a3 : A3) (a4 : A4) (a5 : A5), J j a1 a2 a3 a4 a5 → ∀ K : A1 → A2 → A3 → A4 → A5 → Int32 → Prop, (∀ (b1 : A1) (b2 : A2) (b3 : A3) (b4 : A4) (b5 : A5), J (j + 1) b1 b2 b3 b4 b5 → ∀ y, cnt (j + 1) = y → K b1 b2 b3 b4 b5 y) → F K a1 a2 a3 a4 a5 (cnt j)) (fin : ∀ (a1 : A1) (a2 : A2) (a3 : A3) (a4 : A4) (a5 : A5), J N a1 a2 a3 a4 a5 → ∀ K : A1 → A2 → A3 → A4 → A5 → Int32 → Prop, F K a1 a2 a3 a4 a5 (cnt N)) (j : Nat) (hj : j ≤ N) (a1 : A1) (a2 : A2) (a3 : A3) (a4 : A4) (a5 : A5) (h : J j a1 a2 a3 a4 a5) (x : Int32) (hx : cnt j = x) : lx_6 F a1 a2 a3 a4 a5 x := by
  have key : ∀ (d j : Nat) (a1 : A1) (a2 : A2) (a3 : A3) (a4 : A4) (a5 : A5), j + d = N → J j a1 a2 a3 a4 a5 → lk_6 F (d + 1) a1 a2 a3 a4 a5 (cnt j) := by
    intro d
    induction d with
    | zero =>
      intro j a1 a2 a3 a4 a5 e h
      have e : j = N := e
      subst e
      exact fin a1 a2 a3 a4 a5 h _
    | succ d ih =>
      intro j a1 a2 a3 a4 a5 e h
      exact step j (by omega) a1 a2 a3 a4 a5 h _ (fun b1 b2 b3 b4 b5 hb y hy => hy ▸ ih (j + 1) b1 b2 b3 b4 b5 (by omega) hb)
  exact hx ▸ ⟨_, key (N - j) j a1 a2 a3 a4 a5 (by omega) h⟩
theorem cu_7 {A1 A2 A3 A4 A5 A6 : Type} {F : (A1 → A2 → A3 → A4 → A5 → A6 → Int32 → Prop) → A1 → A2 → A3 → A4 → A5 → A6 → Int32 → Prop} (N : Nat) (cnt : Nat → Int32) (J : Nat → A1 → A2 → A3 → A4 → A5 → A6 → Prop) (step : ∀ j, j < N → ∀ (a1 : A1) (a2 : A2) (a3 : A3) (a4 : A4) (a5 : A5) (a6 : A6), J j a1 a2 a3 a4 a5 a6 → ∀ K : A1 → A2 → A3 → A4 → A5 → A6 → Int32 → Prop, (∀ (b1 : A1) (b2 : A2) (b3 : A3) (b4 : A4) (b5 : A5) (b6 : A6), J (j + 1) b1 b2 b3 b4 b5 b6 → ∀ y, cnt (j + 1) = y → K b1 b2 b3 b4 b5 b6 y) → F K a1 a2 a3 a4 a5 a6 (cnt j)) (fin : ∀ (a1 : A1) (a2 : A2) (a3 : A3) (a4 : A4) (a5 : A5) (a6 : A6), J N a1 a2 a3 a4 a5 a6 → ∀ K : A1 → A2 → A3 → A4 → A5 → A6 → Int32 → Prop, F K a1 a2 a3 a4 a5 a6 (cnt N)) (j : Nat) (hj : j ≤ N) (a1 : A1) (a2 : A2) (a3 : A3) (a4 : A4) (a5 : A5) (a6 : A6) (h : J j a1 a2 a3 a4 a5 a6) (x : Int32) (hx : cnt j = x) : lx_7 F a1 a2 a3 a4 a5 a6 x := by
  have key : ∀ (d j : Nat) (a1 : A1) (a2 : A2) (a3 : A3) (a4 : A4) (a5 : A5) (a6 : A6), j + d = N → J j a1 a2 a3 a4 a5 a6 → lk_7 F (d + 1) a1 a2 a3 a4 a5 a6 (cnt j) := by
    intro d
    induction d with
    | zero =>
      intro j a1 a2 a3 a4 a5 a6 e h
      have e : j = N := e
      subst e
      exact fin a1 a2 a3 a4 a5 a6 h _
    | succ d ih =>
      intro j a1 a2 a3 a4 a5 a6 e h
      exact step j (by omega) a1 a2 a3 a4 a5 a6 h _ (fun b1 b2 b3 b4 b5 b6 hb y hy => hy ▸ ih (j + 1) b1 b2 b3 b4 b5 b6 (by omega) hb)
  exact hx ▸ ⟨_, key (N - j) j a1 a2 a3 a4 a5 a6 (by omega) h⟩
