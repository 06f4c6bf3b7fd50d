/-- x is b or a bridge above b -/
def anc (R : RV) : Nat → Nat → Nat → Prop
  | 0, _, _ => False
  | n + 1, b, x => b < 12 ∧ (b = x ∨ anc R n (bn R b) x)
theorem rt_up {R : RV} : ∀ {n m b : Nat}, rt R n b → n ≤ m → rt R m b := by
  intro n
  induction n with
  | zero =>
    intro m b h hm
    have : b = 12 := h
    subst this
    cases m with
    | zero => rfl
    | succ m => exact Or.inl rfl
  | succ n ih =>
    intro m b h hm
    cases m with
    | zero => omega
    | succ m =>
      rcases h with h | ⟨h1, h2, h3⟩
      · exact Or.inl h
      · exact Or.inr ⟨h1, h2, ih h3 (by omega)⟩
theorem dpt_12 (R : RV) (n : Nat) : dpt R n 12 = 0 := by
  cases n with
  | zero => rfl
  | succ n => rw [dpt_s, if_neg (by omega)]
theorem dpt_up {R : RV} : ∀ {n m b : Nat}, rt R n b → n ≤ m → dpt R m b = dpt R n b := by
  intro n
  induction n with
  | zero =>
    intro m b h hm
    have : b = 12 := h
    subst this
    rw [dpt_12, dpt_12]
  | succ n ih =>
    intro m b h hm
    cases m with
    | zero => omega
    | succ m =>
      rcases h with h | ⟨h1, h2, h3⟩
      · subst h; rw [dpt_12, dpt_12]
      · rw [dpt_s, dpt_s, if_pos ⟨h1, h2⟩, if_pos ⟨h1, h2⟩, ih h3 (by omega)]
theorem dpt_le {R : RV} : ∀ {n b : Nat}, dpt R n b ≤ n := by
  intro n
  induction n with
  | zero => intro b; exact Nat.le_refl _
  | succ n ih =>
    intro b
    rw [dpt_s]
    split
    · have := @ih (bn R b); omega
    · omega
section
variable (d L : Nat) (mu : Nat → Nat → Int32) (p : Nat → Nat)
end
