/-! looks: the grains of the room -/
def fiB (mu : RV) (w : Nat → Int32) (k : Nat) : RV := fun r t => if r = 114 ∧ t < k then w t else mu r t
theorem fiB_s (mu : RV) (w : Nat → Int32) (k : Nat) : u2 (fiB mu w k) 114 k (w k) = fiB mu w (k + 1) := by
  funext a i
  by_cases h : a = 114 ∧ i = k
  · obtain ⟨rfl, rfl⟩ := h
    rw [u2_s]
    unfold fiB
    rw [if_pos (by omega)]
  · rw [u2_o _ _ h]
    unfold fiB
    by_cases h2 : a = 114 ∧ i < k
    · rw [if_pos h2, if_pos (by omega)]
    · rw [if_neg h2, if_neg (by omega)]
/-- the grain k is in the room of E addresses from A -/
def inR (s A E k : Nat) : Prop := A ≤ k * grn s ∧ k * grn s < A + E
noncomputable def wR (s A E : Nat) (k : Nat) : Int32 := if tb (inR s A E k) = true then nI 1 else nI 0
section
variable (d L : Nat) (mu : RV) (p : Nat → Nat)
end
