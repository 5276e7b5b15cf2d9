def lk_1 {A1 : Type} (F : (A1 → Prop) → A1 → Prop) : Nat → A1 → Prop
  | 0 => fun _ => False
  | n + 1 => fun a1 => F (lk_1 F n) a1
def lx_1 {A1 : Type} (F : (A1 → Prop) → A1 → Prop) (a1 : A1) : Prop := ∃ n, lk_1 F n a1
theorem lr_1 {A1 : Type} {F : (A1 → Prop) → A1 → Prop} (I : A1 → Prop) (μ : A1 → Nat) (hs : ∀ (a1 : A1), I a1 → ∀ K : A1 → Prop, (∀ (b1 : A1), I b1 → μ b1 < μ a1 → K b1) → F K a1) (a1 : A1) (h : I a1) : lx_1 F a1 := by
  have key : ∀ (n : Nat) (a1 : A1), I a1 → μ a1 < n → lk_1 F n a1 := by
    intro n
    induction n with
    | zero => intro a1 _ hn; exact absurd hn (Nat.not_lt_zero _)
    | succ n ih => intro a1 hI hn; exact hs a1 hI _ (fun b1 hb hl => ih b1 hb (Nat.lt_of_lt_of_le hl (Nat.le_of_lt_succ hn)))
  exact ⟨μ a1 + 1, key _ _ h (Nat.lt_succ_self _)⟩
def lk_2 {A1 A2 : Type} (F : (A1 → A2 → Prop) → A1 → A2 → Prop) : Nat → A1 → A2 → Prop
  | 0 => fun _ _ => False
  | n + 1 => fun a1 a2 => F (lk_2 F n) a1 a2
def lx_2 {A1 A2 : Type} (F : (A1 → A2 → Prop) → A1 → A2 → Prop) (a1 : A1) (a2 : A2) : Prop := ∃ n, lk_2 F n a1 a2
theorem lr_2 {A1 A2 : Type} {F : (A1 → A2 → Prop) → A1 → A2 → Prop} (I : A1 → A2 → Prop) (μ : A1 → A2 → Nat) (hs : ∀ (a1 : A1) (a2 : A2), I a1 a2 → ∀ K : A1 → A2 → Prop, (∀ (b1 : A1) (b2 : A2), I b1 b2 → μ b1 b2 < μ a1 a2 → K b1 b2) → F K a1 a2) (a1 : A1) (a2 : A2) (h : I a1 a2) : lx_2 F a1 a2 := by
  have key : ∀ (n : Nat) (a1 : A1) (a2 : A2), I a1 a2 → μ a1 a2 < n → lk_2 F n a1 a2 := by
    intro n
    induction n with
    | zero => intro a1 a2 _ hn; exact absurd hn (Nat.not_lt_zero _)
    | succ n ih => intro a1 a2 hI hn; exact hs a1 a2 hI _ (fun b1 b2 hb hl => ih b1 b2 hb (Nat.lt_of_lt_of_le hl (Nat.le_of_lt_succ hn)))
  exact ⟨μ a1 a2 + 1, key _ _ _ h (Nat.lt_succ_self _)⟩
def lk_3 {A1 A2 A3 : Type} (F : (A1 → A2 → A3 → Prop) → A1 → A2 → A3 → Prop) : Nat → A1 → A2 → A3 → Prop
  | 0 => fun _ _ _ => False
  | n + 1 => fun a1 a2 a3 => F (lk_3 F n) a1 a2 a3
def lx_3 {A1 A2 A3 : Type} (F : (A1 → A2 → A3 → Prop) → A1 → A2 → A3 → Prop) (a1 : A1) (a2 : A2) (a3 : A3) : Prop := ∃ n, lk_3 F n a1 a2 a3
theorem lr_3 {A1 A2 A3 : Type} {F : (A1 → A2 → A3 → Prop) → A1 → A2 → A3 → Prop} (I : A1 → A2 → A3 → Prop) (μ : A1 → A2 → A3 → Nat) (hs : ∀ (a1 : A1) (a2 : A2) (a3 : A3), I a1 a2 a3 → ∀ K : A1 → A2 → A3 → Prop, (∀ (b1 : A1) (b2 : A2) (b3 : A3), I b1 b2 b3 → μ b1 b2 b3 < μ a1 a2 a3 → K b1 b2 b3) → F K a1 a2 a3) (a1 : A1) (a2 : A2) (a3 : A3) (h : I a1 a2 a3) : lx_3 F a1 a2 a3 := by
  have key : ∀ (n : Nat) (a1 : A1) (a2 : A2) (a3 : A3), I a1 a2 a3 → μ a1 a2 a3 < n → lk_3 F n a1 a2 a3 := by
    intro n
    induction n with
    | zero => intro a1 a2 a3 _ hn; exact absurd hn (Nat.not_lt_zero _)
    | succ n ih => intro a1 a2 a3 hI hn; exact hs a1 a2 a3 hI _ (fun b1 b2 b3 hb hl => ih b1 b2 b3 hb (Nat.lt_of_lt_of_le hl (Nat.le_of_lt_succ hn)))
  exact ⟨μ a1 a2 a3 + 1, key _ _ _ _ h (Nat.lt_succ_self _)⟩
def lk_4 {A1 A2 A3 A4 : Type} (F : (A1 → A2 → A3 → A4 → Prop) → A1 → A2 → A3 → A4 → Prop) : Nat → A1 → A2 → A3 → A4 → Prop
  | 0 => fun _ _ _ _ => False
  | n + 1 => fun a1 a2 a3 a4 => F (lk_4 F n) a1 a2 a3 a4
def lx_4 {A1 A2 A3 A4 : Type} (F : (A1 → A2 → A3 → A4 → Prop) → A1 → A2 → A3 → A4 → Prop) (a1 : A1) (a2 : A2) (a3 : A3) (a4 : A4) : Prop := ∃ n, lk_4 F n a1 a2 a3 a4
theorem lr_4 {A1 A2 A3 A4 : Type} {F : (A1 → A2 → A3 → A4 → Prop) → A1 → A2 → A3 → A4 → Prop} (I : A1 → A2 → A3 → A4 → Prop) (μ : A1 → A2 → A3 → A4 → Nat) (hs : ∀ (a1 : A1) (a2 : A2) (a3 : A3) (a4 : A4), I a1 a2 a3 a4 → ∀ K : A1 → A2 → A3 → A4 → Prop, (∀ (b1 : A1) (b2 : A2) (b3 : A3) (b4 : A4), I b1 b2 b3 b4 → μ b1 b2 b3 b4 < μ a1 a2 a3 a4 → K b1 b2 b3 b4) → F K a1 a2 a3 a4) (a1 : A1) (a2 : A2) (a3 : A3) (a4 : A4) (h : I a1 a2 a3 a4) : lx_4 F a1 a2 a3 a4 := by
  have key : ∀ (n : Nat) (a1 : A1) (a2 : A2) (a3 : A3) (a4 : A4), I a1 a2 a3 a4 → μ a1 a2 a3 a4 < n → lk_4 F n a1 a2 a3 a4 := by
    intro n
    induction n with
    | zero => intro a1 a2 a3 a4 _ hn; exact absurd hn (Nat.not_lt_zero _)
    | succ n ih => intro a1 a2 a3 a4 hI hn; exact hs a1 a2 a3 a4 hI _ (fun b1 b2 b3 b4 hb hl => ih b1 b2 b3 b4 hb (Nat.lt_of_lt_of_le hl (Nat.le_of_lt_succ hn)))
  exact ⟨μ a1 a2 a3 a4 + 1, key _ _ _ _ _ h (Nat.lt_succ_self _)⟩
def lk_5 {A1 A2 A3 A4 A5 : Type} (F : (A1 → A2 → A3 → A4 → A5 → Prop) → A1 → A2 → A3 → A4 → A5 → Prop) : Nat → A1 → A2 → A3 → A4 → A5 → Prop
  | 0 => fun _ _ _ _ _ => False
  | n + 1 => fun a1 a2 a3 a4 a5 => F (lk_5 F n) a1 a2 a3 a4 a5
def lx_5 {A1 A2 A3 A4 A5 : Type} (F : (A1 → A2 → A3 → A4 → A5 → Prop) → A1 → A2 → A3 → A4 → A5 → Prop) (a1 : A1) (a2 : A2) (a3 : A3) (a4 : A4) (a5 : A5) : Prop := ∃ n, lk_5 F n a1 a2 a3 a4 a5
theorem lr_5 {A1 A2 A3 A4 A5 : Type} {F : (A1 → A2 → A3 → A4 → A5 → Prop) → A1 → A2 → A3 → A4 → A5 → Prop} (I : A1 → A2 → A3 → A4 → A5 → Prop) (μ : A1 → A2 → A3 → A4 → A5 → Nat) (hs : ∀ (a1 : A1) (a2 : A2) (a3 : A3) (a4 : A4) (a5 : A5), I a1 a2 a3 a4 a5 → ∀ K : A1 → A2 → A3 → A4 → A5 → Prop, (∀ (b1 : A1) (b2 : A2) (b3 : A3) (b4 : A4) (b5 : A5), I b1 b2 b3 b4 b5 → μ b1 b2 b3 b4 b5 < μ a1 a2 a3 a4 a5 → K b1 b2 b3 b4 b5) → F K a1 a2 a3 a4 a5) (a1 : A1) (a2 : A2) (a3 : A3) (a4 : A4) (a5 : A5) (h : I a1 a2 a3 a4 a5) : lx_5 F a1 a2 a3 a4 a5 := by
  have key : ∀ (n : Nat) (a1 : A1) (a2 : A2) (a3 : A3) (a4 : A4) (a5 : A5), I a1 a2 a3 a4 a5 → μ a1 a2 a3 a4 a5 < n → lk_5 F n a1 a2 a3 a4 a5 := by
    intro n
    induction n with
    | zero => intro a1 a2 a3 a4 a5 _ hn; exact absurd hn (Nat.not_lt_zero _)
    | succ n ih => intro a1 a2 a3 a4 a5 hI hn; exact hs a1 a2 a3 a4 a5 hI _ (fun b1 b2 b3 b4 b5 hb hl => ih b1 b2 b3 b4 b5 hb (Nat.lt_of_lt_of_le hl (Nat.le_of_lt_succ hn)))
  exact ⟨μ a1 a2 a3 a4 a5 + 1, key _ _ _ _ _ _ h (Nat.lt_succ_self _)⟩
def lk_6 {A1 A2 A3 A4 A5 A6 : Type} (F : (A1 → A2 → A3 → A4 → A5 → A6 → Prop) → A1 → A2 → A3 → A4 → A5 → A6 → Prop) : Nat → A1 → A2 → A3 → A4 → A5 → A6 → Prop
  | 0 => fun _ _ _ _ _ _ => False
  | n + 1 => fun a1 a2 a3 a4 a5 a6 => F (lk_6 F n) a1 a2 a3 a4 a5 a6
def lx_6 {A1 A2 A3 A4 A5 A6 : Type} (F : (A1 → A2 → A3 → A4 → A5 → A6 → Prop) → A1 → A2 → A3 → A4 → A5 → A6 → Prop) (a1 : A1) (a2 : A2) (a3 : A3) (a4 : A4) (a5 : A5) (a6 : A6) : Prop := ∃ n, lk_6 F n a1 a2 a3 a4 a5 a6
theorem lr_6 {A1 A2 A3 A4 A5 A6 : Type} {F : (A1 → A2 → A3 → A4 → A5 → A6 → Prop) → A1 → A2 → A3 → A4 → A5 → A6 → Prop} (I : A1 → A2 → A3 → A4 → A5 → A6 → Prop) (μ : A1 → A2 → A3 → A4 → A5 → A6 → Nat) (hs : ∀ (a1 : A1) (a2 : A2) (a3 : A3) (a4 : A4) (a5 : A5) (a6 : A6), I a1 a2 a3 a4 a5 a6 → ∀ K : A1 → A2 → A3 → A4 → A5 → A6 → Prop, (∀ (b1 : A1) (b2 : A2) (b3 : A3) (b4 : A4) (b5 : A5) (b6 : A6), I b1 b2 b3 b4 b5 b6 → μ b1 b2 b3 b4 b5 b6 < μ a1 a2 a3 a4 a5 a6 → K b1 b2 b3 b4 b5 b6) → F K a1 a2 a3 a4 a5 a6) (a1 : A1) (a2 : A2) (a3 : A3) (a4 : A4) (a5 : A5) (a6 : A6) (h : I a1 a2 a3 a4 a5 a6) : lx_6 F a1 a2 a3 a4 a5 a6 := by
  have key : ∀ (n : Nat) (a1 : A1) (a2 : A2) (a3 : A3) (a4 : A4) (a5 : A5) (a6 : A6), I a1 a2 a3 a4 a5 a6 → μ a1 a2 a3 a4 a5 a6 < n → lk_6 F n a1 a2 a3 a4 a5 a6 := by
    intro n
    induction n with
    | zero => intro a1 a2 a3 a4 a5 a6 _ hn; exact absurd hn (Nat.not_lt_zero _)
    | succ n ih => intro a1 a2 a3 a4 a5 a6 hI hn; exact hs a1 a2 a3 a4 a5 a6 hI _ (fun b1 b2 b3 b4 b5 b6 hb hl => ih b1 b2 b3 b4 b5 b6 hb (Nat.lt_of_lt_of_le hl (Nat.le_of_lt_succ hn)))
  exact ⟨μ a1 a2 a3 a4 a5 a6 + 1, key _ _ _ _ _ _ _ h (Nat.lt_succ_self _)⟩
def lk_7 {A1 A2 A3 A4 A5 A6 A7 : Type} (F : (A1 → A2 → A3 → A4 → A5 → A6 → A7 → Prop) → A1 → A2 → A3 → A4 → A5 → A6 → A7 → Prop) : Nat → A1 → A2 → A3 → A4 → A5 → A6 → A7 → Prop
  | 0 => fun _ _ _ _ _ _ _ => False
  | n + 1 => fun a1 a2 a3 a4 a5 a6 a7 => F (lk_7 F n) a1 a2 a3 a4 a5 a6 a7
def lx_7 {A1 A2 A3 A4 A5 A6 A7 : Type} (F : (A1 → A2 → A3 → A4 → A5 → A6 → A7 → Prop) → A1 → A2 → A3 → A4 → A5 → A6 → A7 → Prop) (a1 : A1) (a2 : A2) (a3 : A3) (a4 : A4) (a5 : A5) (a6 : A6) (a7 : A7) : Prop := ∃ n, lk_7 F n a1 a2 a3 a4 a5 a6 a7
theorem lr_7 {A1 A2 A3 A4 A5 A6 A7 : Type} {F : (A1 → A2 → A3 → A4 → A5 → A6 → A7 → Prop) → A1 → A2 → A3 → A4 → A5 → A6 → A7 → Prop} (I : A1 → A2 → A3 → A4 → A5 → A6 → A7 → Prop) (μ : A1 → A2 → A3 → A4 → A5 → A6 → A7 → Nat) (hs : ∀ (a1 : A1) (a2 : A2) (a3 : A3) (a4 : A4) (a5 : A5) (a6 : A6) (a7 : A7), I a1 a2 a3 a4 a5 a6 a7 → ∀ K : A1 → A2 → A3 → A4 → A5 → A6 → A7 → Prop, (∀ (b1 : A1) (b2 : A2) (b3 : A3) (b4 : A4) (b5 : A5) (b6 : A6) (b7 : A7), I b1 b2 b3 b4 b5 b6 b7 → μ b1 b2 b3 b4 b5 b6 b7 < μ a1 a2 a3 a4 a5 a6 a7 → K b1 b2 b3 b4 b5 b6 b7) → F K a1 a2 a3 a4 a5 a6 a7) (a1 : A1) (a2 : A2) (a3 : A3) (a4 : A4) (a5 : A5) (a6 : A6) (a7 : A7) (h : I a1 a2 a3 a4 a5 a6 a7) : lx_7 F a1 a2 a3 a4 a5 a6 a7 := by
  have key : ∀ (n : Nat) (a1 : A1) (a2 : A2) (a3 : A3) (a4 : A4) (a5 : A5) (a6 : A6) (a7 : A7), I a1 a2 a3 a4 a5 a6 a7 → μ a1 a2 a3 a4 a5 a6 a7 < n → lk_7 F n a1 a2 a3 a4 a5 a6 a7 := by
    intro n
    induction n with
    | zero => intro a1 a2 a3 a4 a5 a6 a7 _ hn; exact absurd hn (Nat.not_lt_zero _)
    | succ n ih => intro a1 a2 a3 a4 a5 a6 a7 hI hn; exact hs a1 a2 a3 a4 a5 a6 a7 hI _ (fun b1 b2 b3 b4 b5 b6 b7 hb hl => ih b1 b2 b3 b4 b5 b6 b7 hb (Nat.lt_of_lt_of_le hl (Nat.le_of_lt_succ hn)))
  exact ⟨μ a1 a2 a3 a4 a5 a6 a7 + 1, key _ _ _ _ _ _ _ _ h (Nat.lt_succ_self _)⟩
def lk_8 {A1 A2 A3 A4 A5 A6 A7 A8 : Type} (F : (A1 → A2 → A3 → A4 → A5 → A6 → A7 → A8 → Prop) → A1 → A2 → A3 → A4 → A5 → A6 → A7 → A8 → Prop) : Nat → A1 → A2 → A3 → A4 → A5 → A6 → A7 → A8 → Prop
  | 0 => fun _ _ _ _ _ _ _ _ => False
  | n + 1 => fun a1 a2 a3 a4 a5 a6 a7 a8 => F (lk_8 F n) a1 a2 a3 a4 a5 a6 a7 a8
def lx_8 {A1 A2 A3 A4 A5 A6 A7 A8 : Type} (F : (A1 → A2 → A3 → A4 → A5 → A6 → A7 → A8 → Prop) → A1 → A2 → A3 → A4 → A5 → A6 → A7 → A8 → Prop) (a1 : A1) (a2 : A2) (a3 : A3) (a4 : A4) (a5 : A5) (a6 : A6) (a7 : A7) (a8 : A8) : Prop := ∃ n, lk_8 F n a1 a2 a3 a4 a5 a6 a7 a8
theorem lr_8 {A1 A2 A3 A4 A5 A6 A7 A8 : Type} {F : (A1 → A2 → A3 → A4 → A5 → A6 → A7 → A8 → Prop) → A1 → A2 → A3 → A4 → A5 → A6 → A7 → A8 → Prop} (I : A1 → A2 → A3 → A4 → A5 → A6 → A7 → A8 → Prop) (μ : A1 → A2 → A3 → A4 → A5 → A6 → A7 → A8 → Nat) (hs : ∀ (a1 : A1) (a2 : A2) (a3 : A3) (a4 : A4) (a5 : A5) (a6 : A6) (a7 : A7) (a8 : A8), I a1 a2 a3 a4 a5 a6 a7 a8 → ∀ K : A1 → A2 → A3 → A4 → A5 → A6 → A7 → A8 → Prop, (∀ (b1 : A1) (b2 : A2) (b3 : A3) (b4 : A4) (b5 : A5) (b6 : A6) (b7 : A7) (b8 : A8), I b1 b2 b3 b4 b5 b6 b7 b8 → μ b1 b2 b3 b4 b5 b6 b7 b8 < μ a1 a2 a3 a4 a5 a6 a7 a8 → K b1 b2 b3 b4 b5 b6 b7 b8) → F K a1 a2 a3 a4 a5 a6 a7 a8) (a1 : A1) (a2 : A2) (a3 : A3) (a4 : A4) (a5 : A5) (a6 : A6) (a7 : A7) (a8 : A8) (h : I a1 a2 a3 a4 a5 a6 a7 a8) : lx_8 F a1 a2 a3 a4 a5 a6 a7 a8 := by
  have key : ∀ (n : Nat) (a1 : A1) (a2 : A2) (a3 : A3) (a4 : A4) (a5 : A5) (a6 : A6) (a7 : A7) (a8 : A8), I a1 a2 a3 a4 a5 a6 a7 a8 → μ a1 a2 a3 a4 a5 a6 a7 a8 < n → lk_8 F n a1 a2 a3 a4 a5 a6 a7 a8 := by
    intro n
    induction n with
    | zero => intro a1 a2 a3 a4 a5 a6 a7 a8 _ hn; exact absurd hn (Nat.not_lt_zero _)
    | succ n ih => intro a1 a2 a3 a4 a5 a6 a7 a8 hI hn; exact hs a1 a2 a3 a4 a5 a6 a7 a8 hI _ (fun b1 b2 b3 b4 b5 b6 b7 b8 hb hl => ih b1 b2 b3 b4 b5 b6 b7 b8 hb (Nat.lt_of_lt_of_le hl (Nat.le_of_lt_succ hn)))
  exact ⟨μ a1 a2 a3 a4 a5 a6 a7 a8 + 1, key _ _ _ _ _ _ _ _ _ h (Nat.lt_succ_self _)⟩
def lk_9 {A1 A2 A3 A4 A5 A6 A7 A8 A9 : Type} (F : (A1 → A2 → A3 → A4 → A5 → A6 → A7 → A8 → A9 → Prop) → A1 → A2 → A3 → A4 → A5 → A6 → A7 → A8 → A9 → Prop) : Nat → A1 → A2 → A3 → A4 → A5 → A6 → A7 → A8 → A9 → Prop
  | 0 => fun _ _ _ _ _ _ _ _ _ => False
  | n + 1 => fun a1 a2 a3 a4 a5 a6 a7 a8 a9 => F (lk_9 F n) a1 a2 a3 a4 a5 a6 a7 a8 a9
def lx_9 {A1 A2 A3 A4 A5 A6 A7 A8 A9 : Type} (F : (A1 → A2 → A3 → A4 → A5 → A6 → A7 → A8 → A9 → Prop) → A1 → A2 → A3 → A4 → A5 → A6 → A7 → A8 → A9 → Prop) (a1 : A1) (a2 : A2) (a3 : A3) (a4 : A4) (a5 : A5) (a6 : A6) (a7 : A7) (a8 : A8) (a9 : A9) : Prop := ∃ n, lk_9 F n a1 a2 a3 a4 a5 a6 a7 a8 a9
theorem lr_9 {A1 A2 A3 A4 A5 A6 A7 A8 A9 : Type} {F : (A1 → A2 → A3 → A4 → A5 → A6 → A7 → A8 → A9 → Prop) → A1 → A2 → A3 → A4 → A5 → A6 → A7 → A8 → A9 → Prop} (I : A1 → A2 → A3 → A4 → A5 → A6 → A7 → A8 → A9 → Prop) (μ : A1 → A2 → A3 → A4 → A5 → A6 → A7 → A8 → A9 → Nat) (hs : ∀ (a1 : A1) (a2 : A2) (a3 : A3) (a4 : A4) (a5 : A5) (a6 : A6) (a7 : A7) (a8 : A8) (a9 : A9), I a1 a2 a3 a4 a5 a6 a7 a8 a9 → ∀ K : A1 → A2 → A3 → A4 → A5 → A6 → A7 → A8 → A9 → Prop, (∀ (b1 : A1) (b2 : A2) (b3 : A3) (b4 : A4) (b5 : A5) (b6 : A6) (b7 : A7) (b8 : A8) (b9 : A9), I b1 b2 b3 b4 b5 b6 b7 b8 b9 → μ b1 b2 b3 b4 b5 b6 b7 b8 b9 < μ a1 a2 a3 a4 a5 a6 a7 a8 a9 → K b1 b2 b3 b4 b5 b6 b7 b8 b9) → F K a1 a2 a3 a4 a5 a6 a7 a8 a9) (a1 : A1) (a2 : A2) (a3 : A3) (a4 : A4) (a5 : A5) (a6 : A6) (a7 : A7) (a8 : A8) (a9 : A9) (h : I a1 a2 a3 a4 a5 a6 a7 a8 a9) : lx_9 F a1 a2 a3 a4 a5 a6 a7 a8 a9 := by
  have key : ∀ (n : Nat) (a1 : A1) (a2 : A2) (a3 : A3) (a4 : A4) (a5 : A5) (a6 : A6) (a7 : A7) (a8 : A8) (a9 : A9), I a1 a2 a3 a4 a5 a6 a7 a8 a9 → μ a1 a2 a3 a4 a5 a6 a7 a8 a9 < n → lk_9 F n a1 a2 a3 a4 a5 a6 a7 a8 a9 := by
    intro n
    induction n with
    | zero => intro a1 a2 a3 a4 a5 a6 a7 a8 a9 _ hn; exact absurd hn (Nat.not_lt_zero _)
    | succ n ih => intro a1 a2 a3 a4 a5 a6 a7 a8 a9 hI hn; exact hs a1 a2 a3 a4 a5 a6 a7 a8 a9 hI _ (fun b1 b2 b3 b4 b5 b6 b7 b8 b9 hb hl => ih b1 b2 b3 b4 b5 b6 b7 b8 b9 hb (Nat.lt_of_lt_of_le hl (Nat.le_of_lt_succ hn)))
  exact ⟨μ a1 a2 a3 a4 a5 a6 a7 a8 a9 + 1, key _ _ _ _ _ _ _ _ _ _ h (Nat.lt_succ_self _)⟩
def lk_10 {A1 A2 A3 A4 A5 A6 A7 A8 A9 A10 : Type} (F : (A1 → A2 → A3 → A4 → A5 → A6 → A7 → A8 → A9 → A10 → Prop) → A1 → A2 → A3 → A4 → A5 → A6 → A7 → A8 → A9 → A10 → Prop) : Nat → A1 → A2 → A3 → A4 → A5 → A6 → A7 → A8 → A9 → A10 → Prop
  | 0 => fun _ _ _ _ _ _ _ _ _ _ => False
  | n + 1 => fun a1 a2 a3 a4 a5 a6 a7 a8 a9 a10 => F (lk_10 F n) a1 a2 a3 a4 a5 a6 a7 a8 a9 a10
def lx_10 {A1 A2 A3 A4 A5 A6 A7 A8 A9 A10 : Type} (F : (A1 → A2 → A3 → A4 → A5 → A6 → A7 → A8 → A9 → A10 → Prop) → A1 → A2 → A3 → A4 → A5 → A6 → A7 → A8 → A9 → A10 → Prop) (a1 : A1) (a2 : A2) (a3 : A3) (a4 : A4) (a5 : A5) (a6 : A6) (a7 : A7) (a8 : A8) (a9 : A9) (a10 : A10) : Prop := ∃ n, lk_10 F n a1 a2 a3 a4 a5 a6 a7 a8 a9 a10
theorem lr_10 {A1 A2 A3 A4 A5 A6 A7 A8 A9 A10 : Type} {F : (A1 → A2 → A3 → A4 → A5 → A6 → A7 → A8 → A9 → A10 → Prop) → A1 → A2 → A3 → A4 → A5 → A6 → A7 → A8 → A9 → A10 → Prop} (I : A1 → A2 → A3 → A4 → A5 → A6 → A7 → A8 → A9 → A10 → Prop) (μ : A1 → A2 → A3 → A4 → A5 → A6 → A7 → A8 → A9 → A10 → Nat) (hs : ∀ (a1 : A1) (a2 : A2) (a3 : A3) (a4 : A4) (a5 : A5) (a6 : A6) (a7 : A7) (a8 : A8) (a9 : A9) (a10 : A10), I a1 a2 a3 a4 a5 a6 a7 a8 a9 a10 → ∀ K : A1 → A2 → A3 → A4 → A5 → A6 → A7 → A8 → A9 → A10 → Prop, (∀ (b1 : A1) (b2 : A2) (b3 : A3) (b4 : A4) (b5 : A5) (b6 : A6) (b7 : A7) (b8 : A8) (b9 : A9) (b10 : A10), I b1 b2 b3 b4 b5 b6 b7 b8 b9 b10 → μ b1 b2 b3 b4 b5 b6 b7 b8 b9 b10 < μ a1 a2 a3 a4 a5 a6 a7 a8 a9 a10 → K b1 b2 b3 b4 b5 b6 b7 b8 b9 b10) → F K a1 a2 a3 a4 a5 a6 a7 a8 a9 a10) (a1 : A1) (a2 : A2) (a3 : A3) (a4 : A4) (a5 : A5) (a6 : A6) (a7 : A7) (a8 : A8) (a9 : A9) (a10 : A10) (h : I a1 a2 a3 a4 a5 a6 a7 a8 a9 a10) : lx_10 F a1 a2 a3 a4 a5 a6 a7 a8 a9 a10 := by
  have key : ∀ (n : Nat) (a1 : A1) (a2 : A2) (a3 : A3) (a4 : A4) (a5 : A5) (a6 : A6) (a7 : A7) (a8 : A8) (a9 : A9) (a10 : A10), I a1 a2 a3 a4 a5 a6 a7 a8 a9 a10 → μ a1 a2 a3 a4 a5 a6 a7 a8 a9 a10 < n → lk_10 F n a1 a2 a3 a4 a5 a6 a7 a8 a9 a10 := by
    intro n
    induction n with
    | zero => intro a1 a2 a3 a4 a5 a6 a7 a8 a9 a10 _ hn; exact absurd hn (Nat.not_lt_zero _)
    | succ n ih => intro a1 a2 a3 a4 a5 a6 a7 a8 a9 a10 hI hn; exact hs a1 a2 a3 a4 a5 a6 a7 a8 a9 a10 hI _ (fun b1 b2 b3 b4 b5 b6 b7 b8 b9 b10 hb hl => ih b1 b2 b3 b4 b5 b6 b7 b8 b9 b10 hb (Nat.lt_of_lt_of_le hl (Nat.le_of_lt_succ hn)))
  exact ⟨μ a1 a2 a3 a4 a5 a6 a7 a8 a9 a10 + 1, key _ _ _ _ _ _ _ _ _ _ _ h (Nat.lt_succ_self _)⟩
