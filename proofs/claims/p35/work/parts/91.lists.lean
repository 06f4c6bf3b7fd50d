/-! items of the reference -/
section
variable (d L : Nat) (p : Nat → Nat)
end
theorem itl_len {sz al : Nat → Nat} : ∀ n, (itl sz al n).length ≤ n := by
  intro n
  induction n with
  | zero => exact Nat.le_refl _
  | succ n ih =>
    rw [itl]
    by_cases h : sz n = 0
    · rw [if_pos h]; omega
    · rw [if_neg h]
      have hlen : ∀ l : List Nat, (insL al n l).length = l.length + 1 := by
        intro l
        induction l with
        | nil => rfl
        | cons y l ih =>
          rw [insL]
          by_cases h : al y < al n
          · rw [if_pos h]; rfl
          · rw [if_neg h, List.length_cons, ih, List.length_cons]
      rw [hlen]
      omega
/-- what an item's numbers are -/
def pv (R : RV) (s b k c : Nat) : Int32 := if c = 0 then R 5 (b * 4 + k / 3) else if c = 1 then (if R 2 (vn (R 5 (b * 4 + k / 3))) = nI 1 then nI (k % 3) else -5) else if c = 2 then nI (SZ R s b k) else nI (AL R s b k)
section
variable (d L : Nat) (p : Nat → Nat)
theorem itl_n {sz al : Nat → Nat} {k : Nat} (h : sz k = 0) : itl sz al (k + 1) = itl sz al k := by rw [itl, if_pos h]
end
