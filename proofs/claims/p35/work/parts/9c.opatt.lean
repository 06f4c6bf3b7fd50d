/-! attach -/
section
variable (d L : Nat) (p : Nat → Nat)
def fnk (R : RV) (j n k : Nat) : Prop := ∀ d x y, d < k → bn R d = bn R j → numd R d x y → ¬(x ≤ n ∧ n ≤ y)
theorem fnk_12 {R : RV} {j n : Nat} : fnk R j n 12 ↔ fnum R j n := Iff.rfl
end
