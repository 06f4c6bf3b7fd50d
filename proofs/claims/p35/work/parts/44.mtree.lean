/-! the tree: reference -/
theorem n5_le : (nI 12 ≤ (-5 : Int32)) = False := by decide
section
variable (d L : Nat) (mu : Nat → Nat → Int32) (p : Nat → Nat)
end
