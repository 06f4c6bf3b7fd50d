/-! more changes of the reference -/
theorem u2_e {α : Type} (m : Nat → Nat → α) {a i a' i' : Nat} (x : α) (h : a' = a ∧ i' = i) : u2 m a i x a' i' = x := by
  obtain ⟨rfl, rfl⟩ := h
  exact u2_s _ _ _ _
def zB (mu : RV) (P k : Nat) : RV := fun a i => if a = 106 ∧ P ≤ i ∧ i < P + k then nI 0 else mu a i
theorem zB_s (mu : RV) (P k : Nat) : u2 (zB mu P k) 106 (P + k) (nI 0) = zB mu P (k + 1) := by
  funext a i
  by_cases h : a = 106 ∧ i = P + k
  · obtain ⟨rfl, rfl⟩ := h
    rw [u2_s]
    unfold zB
    rw [if_pos (by omega)]
  · rw [u2_o _ _ h]
    unfold zB
    by_cases h2 : a = 106 ∧ P ≤ i ∧ i < P + k
    · rw [if_pos h2, if_pos (by omega)]
    · rw [if_neg h2, if_neg (by omega)]
theorem zB_i {mu : RV} {P k a i : Nat} (h : a = 106 ∧ P ≤ i ∧ i < P + k) : zB mu P k a i = nI 0 := if_pos h
theorem zB_o {mu : RV} {P k a i : Nat} (h : ¬(a = 106 ∧ P ≤ i ∧ i < P + k)) : zB mu P k a i = mu a i := if_neg h
/-- a fresh device's numbers -/
def wv (k b s : Int32) (n : Nat) : Int32 := if n = 0 then k else if n = 1 then b else if n = 2 then s else if n = 5 ∨ n = 8 ∨ n = 11 ∨ (12 ≤ n ∧ n < 16) then -5 else nI 0
section
variable (d L : Nat) (mu : RV) (p : Nat → Nat)
end
/-- some devices of the reference lose what numbering and placing gave -/
def taB (mu : RV) (j : Nat) : RV := fun a i => if a = 106 ∧ i / 20 = j ∧ (i % 20 = 5 ∨ i % 20 = 8 ∨ (11 ≤ i % 20 ∧ i % 20 < 16)) then -5 else if a = 106 ∧ i / 20 = j ∧ (i % 20 = 16 ∨ i % 20 = 17) then nI 0 else mu a i
def taS (mu : RV) (f : Nat → Bool) (n : Nat) : RV := fun a i => if a = 106 ∧ (i / 20 < n ∧ f (i / 20) = true) ∧ (i % 20 = 5 ∨ i % 20 = 8 ∨ (11 ≤ i % 20 ∧ i % 20 < 16)) then -5 else if a = 106 ∧ (i / 20 < n ∧ f (i / 20) = true) ∧ (i % 20 = 16 ∨ i % 20 = 17) then nI 0 else mu a i
theorem taS_0 (mu : RV) (f : Nat → Bool) : taS mu f 0 = mu := by
  funext a i
  unfold taS
  rw [if_neg (by omega), if_neg (by omega)]
theorem taS_n (mu : RV) (f : Nat → Bool) (n : Nat) (h : ¬f n = true) : taS mu f (n + 1) = taS mu f n := by
  funext a i
  have e : ∀ k, (k < n + 1 ∧ f k = true) = (k < n ∧ f k = true) := by
    intro k
    by_cases hk : k = n
    · subst hk; simp [h]
    · rw [ltn_s hk]
  unfold taS
  simp only [e]
theorem taS_s (mu : RV) (f : Nat → Bool) (n : Nat) (h : f n = true) : taS mu f (n + 1) = taB (taS mu f n) n := by
  funext a i
  have e : ∀ k, (k < n + 1 ∧ f k = true) = (k = n ∨ (k < n ∧ f k = true)) := by
    intro k
    by_cases hk : k = n
    · subst hk; simp [h]
    · rw [ltn_s hk]; simp [hk]
  unfold taS taB
  simp only [e]
  by_cases h12 : a = 106
  · by_cases hi : i / 20 = n
    · simp [h12, hi]
    · simp [h12, hi]
  · simp [h12]
section
variable (d L : Nat) (mu : RV) (p : Nat → Nat)
end
