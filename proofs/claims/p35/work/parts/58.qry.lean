/-! questions -/
section
variable (d L : Nat) (mu : RV) (p : Nat → Nat) (h : Rel mu p)
theorem z_sums (v : Int32) (A : AH) : (some (some (Sum.inl v), A) : Option (Option AV × AH)) = some (some (.inl v), A) := rfl
end
