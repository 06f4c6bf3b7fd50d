/-! the grains of a bus: reference -/
def fcB (mu : RV) (u k : Nat) : RV := fun r t => if r = 114 ∧ u ≤ t ∧ t < u + k then nI 0 else mu r t
theorem fcB_s (mu : RV) (u k : Nat) : u2 (fcB mu u k) 114 (u + k) (nI 0) = fcB mu u (k + 1) := by
  funext a i
  by_cases h : a = 114 ∧ i = u + k
  · obtain ⟨rfl, rfl⟩ := h
    rw [u2_s]
    unfold fcB
    rw [if_pos (by omega)]
  · rw [u2_o _ _ h]
    unfold fcB
    by_cases h2 : a = 114 ∧ u ≤ i ∧ i < u + k
    · rw [if_pos h2, if_pos (by omega)]
    · rw [if_neg h2, if_neg (by omega)]
theorem fcB_0 (mu : RV) (u : Nat) : fcB mu u 0 = mu := by
  funext a i
  unfold fcB
  rw [if_neg (by omega)]
section
variable (d L : Nat) (mu : RV) (p : Nat → Nat)
end
