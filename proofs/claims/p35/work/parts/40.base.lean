/-! numbers as nI n, answers as bI p -/
theorem nI_ltc {a b : Nat} (ha : a < 2147483648) (hb : b < 2147483648) : (nI a < nI b) = (a < b) := propext (nI_ltI (by omega) (by omega))
theorem nI_lec {a b : Nat} (ha : a < 2147483648) (hb : b < 2147483648) : (nI a ≤ nI b) = (a ≤ b) := propext (nI_leI (by omega) (by omega))
theorem nI_eqc {a b : Nat} (ha : a < 2147483648) (hb : b < 2147483648) : (nI a = nI b) = (a = b) := propext (nI_eq (by omega) (by omega))
theorem nI_ne5 {a : Nat} (ha : a < 2147483648) : (nI a = -5) = False := by
  apply propext
  constructor
  · intro h
    have h2 := congrArg Int32.toInt h
    rw [nI_toInt (by omega)] at h2
    have : (-5 : Int32).toInt = -5 := by decide
    omega
  · exact False.elim
theorem n5_ne {a : Nat} (ha : a < 2147483648) : ((-5 : Int32) = nI a) = False := by
  rw [eq_comm (a := (-5 : Int32))]; exact nI_ne5 ha
theorem bI_0 (p : Prop) [Decidable p] : (bI p = nI 0) = ¬p := by
  unfold bI
  by_cases h : p
  · rw [if_pos h]; simp only [h, not_true]; exact eq_false (by decide)
  · rw [if_neg h]; simp [h]
theorem bI_1 (p : Prop) [Decidable p] : (bI p = nI 1) = p := by
  unfold bI
  by_cases h : p
  · rw [if_pos h]; simp [h]
  · rw [if_neg h]; simp only [h]; exact eq_false (by decide)
/-- an int is below 0, at least n, or a number below n -/
theorem ix {x : Int32} (n : Nat) (hn : n < 2147483648) : x < nI 0 ∨ nI n ≤ x ∨ ∃ j : Nat, j < n ∧ x = nI j := by
  have := pk_ix x (n := n) (by omega)
  rwa [← nI_0] at this
theorem iteb (c : Prop) [Decidable c] (A : AH) : (if c then some (some (.inl (nI 1)), A) else some (some (.inl (nI 0)), A)) = (some (some (.inl (bI c)), A) : Option (Option AV × AH)) := by
  unfold bI
  by_cases h : c
  · rw [if_pos h, if_pos h]
  · rw [if_neg h, if_neg h]
theorem nI_sub {a b : Nat} (h : b ≤ a) : nI a - nI b = nI (a - b) := pk_sub h
theorem z_isSlot (d L : Nat) (mu : Nat → Nat → Int32) (p : Nat → Nat) (x : Int32) : zsem d 12 0 [.inl x] [] (HH L mu p) = some (some (.inl (bI (¬x < nI 0 ∧ ¬nI 4 ≤ x))), HH L mu p) := by
  simp (disch := first | omega | assumption) only [h12_0, h12_1, h12_4, h12_5, h12_6, h12_9, h12_10, h12_13, h12_14_0, h12_14_1, h12_14_b, Option.bind_some, Option.toList_some, Option.toList_none, List.cons_append, List.nil_append, nI_ltc, nI_lec, nI_eqc, nI_ne5, n5_ne, bI_0, bI_1, nI_add, pk_mul, if_pos, if_neg, ite_not]
  by_cases h1 : x < nI 0 <;> by_cases h2 : nI 4 ≤ x <;> simp [h1, h2, bI]
