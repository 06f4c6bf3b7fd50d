/-! leaves of the class -/
theorem n5_lt : ((-5 : Int32) < nI 0) = True := by decide
theorem m1_lt : ((-1 : Int32) < nI 0) = True := by decide
section
variable (d L : Nat) (mu : Nat → Nat → Int32) (p : Nat → Nat)
theorem z_isRegion (x : Int32) : zsem d 23 0 [.inl x] [] (HH L mu p) = some (some (.inl (bI (¬x < nI 0 ∧ ¬nI 3 ≤ x))), HH L mu p) := by
  simp (disch := first | omega | assumption) only [h23_0, h23_1, h23_4, h23_5, h23_6, h23_9, h23_10, h23_13, h23_14_0, h23_14_1, h23_14_b, Option.bind_some, Option.toList_some, Option.toList_none, List.cons_append, List.nil_append, nI_ltc, nI_lec, nI_eqc, nI_ne5, n5_ne, n5_lt, bI_0, bI_1, nI_add, pk_mul, if_pos, if_neg, ite_not, if_true, if_false, not_true_eq_false, not_false_eq_true]
  by_cases h1 : x < nI 0 <;> by_cases h2 : nI 3 ≤ x <;> simp [h1, h2, bI]
theorem z_isSpace (x : Int32) : zsem d 24 0 [.inl x] [] (HH L mu p) = some (some (.inl (bI (x = nI 0 ∨ x = nI 1))), HH L mu p) := by
  simp (disch := first | omega | assumption) only [h24_0, h24_1, h24_4, h24_5, h24_6, h24_9, h24_10, h24_13, h24_14_0, h24_14_1, h24_14_b, Option.bind_some, Option.toList_some, Option.toList_none, List.cons_append, List.nil_append, nI_ltc, nI_lec, nI_eqc, nI_ne5, n5_ne, n5_lt, bI_0, bI_1, nI_add, pk_mul, if_pos, if_neg, ite_not, if_true, if_false, not_true_eq_false, not_false_eq_true]
  by_cases h1 : x = nI 0 <;> by_cases h2 : x = nI 1 <;> simp [h1, h2, bI]
/-- grain, addresses, largest exponent of a space -/
def grn (sp : Nat) : Nat := if sp = 0 then 16 else 4
def adr (sp : Nat) : Nat := if sp = 0 then 4096 else 256
def lex (sp : Nat) : Nat := if sp = 0 then 6 else 4
theorem z_grainOf (sp : Nat) (h : sp < 2) : zsem d 26 0 [.inl (nI sp)] [] (HH L mu p) = some (some (.inl (nI (grn sp))), HH L mu p) := by
  simp (disch := first | omega | assumption) only [h26_0, h26_1, h26_4, h26_6, h26_9, h26_10, Option.bind_some, Option.toList_some, Option.toList_none, List.cons_append, List.nil_append, nI_ltc, nI_lec, nI_eqc, nI_ne5, n5_ne, n5_lt, bI_0, bI_1, nI_add, pk_mul, if_pos, if_neg, ite_not, if_true, if_false, not_true_eq_false, not_false_eq_true]
  by_cases h1 : sp = 0 <;> simp [h1, grn]
theorem z_addressesOf (sp : Nat) (h : sp < 2) : zsem d 58 0 [.inl (nI sp)] [] (HH L mu p) = some (some (.inl (nI (adr sp))), HH L mu p) := by
  simp (disch := first | omega | assumption) only [h58_0, h58_1, h58_4, h58_7, h58_10, h58_13, Option.bind_some, Option.toList_some, Option.toList_none, List.cons_append, List.nil_append, nI_ltc, nI_lec, nI_eqc, nI_ne5, n5_ne, n5_lt, bI_0, bI_1, nI_add, pk_mul, if_pos, if_neg, ite_not, if_true, if_false, not_true_eq_false, not_false_eq_true]
  by_cases h1 : sp = 0 <;> simp [h1, adr]
theorem z_largestExponentOf (sp : Nat) (h : sp < 2) : zsem d 28 0 [.inl (nI sp)] [] (HH L mu p) = some (some (.inl (nI (lex sp))), HH L mu p) := by
  simp (disch := first | omega | assumption) only [h28_0, h28_1, h28_4, h28_6, h28_9, h28_10, Option.bind_some, Option.toList_some, Option.toList_none, List.cons_append, List.nil_append, nI_ltc, nI_lec, nI_eqc, nI_ne5, n5_ne, n5_lt, bI_0, bI_1, nI_add, pk_mul, if_pos, if_neg, ite_not, if_true, if_false, not_true_eq_false, not_false_eq_true]
  by_cases h1 : sp = 0 <;> simp [h1, lex]
theorem z_regionIndex (a b : Nat) : zsem d 30 0 [.inl (nI a), .inl (nI b)] [] (HH L mu p) = some (some (.inl (nI (a * 3 + b))), HH L mu p) := by
  simp (disch := first | omega | assumption) only [h30_0, h30_1, h30_2, h30_3, h30_4, h30_5, Option.bind_some, Option.toList_some, Option.toList_none, List.cons_append, List.nil_append, nI_ltc, nI_lec, nI_eqc, nI_ne5, n5_ne, n5_lt, bI_0, bI_1, nI_add, pk_mul, if_pos, if_neg, ite_not, if_true, if_false, not_true_eq_false, not_false_eq_true]
theorem z_windowIndex (a b : Nat) : zsem d 35 0 [.inl (nI a), .inl (nI b)] [] (HH L mu p) = some (some (.inl (nI (a * 2 + b))), HH L mu p) := by
  simp (disch := first | omega | assumption) only [h35_0, h35_1, h35_2, h35_3, h35_4, h35_5, Option.bind_some, Option.toList_some, Option.toList_none, List.cons_append, List.nil_append, nI_ltc, nI_lec, nI_eqc, nI_ne5, n5_ne, n5_lt, bI_0, bI_1, nI_add, pk_mul, if_pos, if_neg, ite_not, if_true, if_false, not_true_eq_false, not_false_eq_true]
theorem z_isDevice_n (j : Nat) (hj : j < 12) : zsem d 38 0 [.inr (some 1), .inl (nI j)] [] (HH L mu p) = some (some (.inl (bI (¬mu 2 j = nI 0))), HH L mu p) := by
  simp (disch := first | omega | assumption) only [h38_0, h38_1, h38_4, h38_5, h38_7, h38_10, h38_11, h38_14, h38_15, h38_16, h38_19, h38_20, h38_23, h38_24_0, h38_24_1, h38_24_b, Option.bind_some, Option.toList_some, Option.toList_none, List.cons_append, List.nil_append, nI_ltc, nI_lec, nI_eqc, nI_ne5, n5_ne, n5_lt, bI_0, bI_1, nI_add, pk_mul, if_pos, if_neg, ite_not, if_true, if_false, not_true_eq_false, not_false_eq_true]
  by_cases h : mu 2 j = nI 0 <;> simp [h, bI]
theorem z_isDevice_o (x : Int32) (hx : x < nI 0 ∨ nI 12 ≤ x) : zsem d 38 0 [.inr (some 1), .inl x] [] (HH L mu p) = some (some (.inl (nI 0)), HH L mu p) := by
  by_cases h1 : x < nI 0
  · simp (disch := first | omega | assumption) only [h38_0, h38_1, h38_4, h38_5, h38_7, h38_23, h38_24_0, h38_24_1, h38_24_b, Option.bind_some, Option.toList_some, Option.toList_none, List.cons_append, List.nil_append, nI_ltc, nI_lec, nI_eqc, nI_ne5, n5_ne, n5_lt, bI_0, bI_1, nI_add, pk_mul, if_pos, if_neg, ite_not, if_true, if_false, not_true_eq_false, not_false_eq_true, h1]
  · have h2 : nI 12 ≤ x := hx.resolve_left h1
    simp (disch := first | omega | assumption) only [h38_0, h38_1, h38_4, h38_5, h38_7, h38_23, h38_24_0, h38_24_1, h38_24_b, Option.bind_some, Option.toList_some, Option.toList_none, List.cons_append, List.nil_append, nI_ltc, nI_lec, nI_eqc, nI_ne5, n5_ne, n5_lt, bI_0, bI_1, nI_add, pk_mul, if_pos, if_neg, ite_not, if_true, if_false, not_true_eq_false, not_false_eq_true, h1, h2]
theorem z_isCard_n (j : Nat) (hj : j < 12) : zsem d 22 0 [.inr (some 1), .inl (nI j)] [] (HH L mu p) = some (some (.inl (bI (mu 2 j = nI 1))), HH L mu p) := by
  simp (disch := first | omega | assumption) only [h22_0, h22_1, h22_4, h22_5, h22_7, h22_10, h22_11, h22_14, h22_15, h22_16, h22_17, h22_20, h22_21, h22_24, h22_25_0, h22_25_1, h22_25_b, Option.bind_some, Option.toList_some, Option.toList_none, List.cons_append, List.nil_append, nI_ltc, nI_lec, nI_eqc, nI_ne5, n5_ne, n5_lt, bI_0, bI_1, nI_add, pk_mul, if_pos, if_neg, ite_not, if_true, if_false, not_true_eq_false, not_false_eq_true]
  by_cases h : mu 2 j = nI 1 <;> simp [h, bI]
theorem z_isCard_o (x : Int32) (hx : x < nI 0 ∨ nI 12 ≤ x) : zsem d 22 0 [.inr (some 1), .inl x] [] (HH L mu p) = some (some (.inl (nI 0)), HH L mu p) := by
  by_cases h1 : x < nI 0
  · simp (disch := first | omega | assumption) only [h22_0, h22_1, h22_4, h22_5, h22_7, h22_24, h22_25_0, h22_25_1, h22_25_b, Option.bind_some, Option.toList_some, Option.toList_none, List.cons_append, List.nil_append, nI_ltc, nI_lec, nI_eqc, nI_ne5, n5_ne, n5_lt, bI_0, bI_1, nI_add, pk_mul, if_pos, if_neg, ite_not, if_true, if_false, not_true_eq_false, not_false_eq_true, h1]
  · have h2 : nI 12 ≤ x := hx.resolve_left h1
    simp (disch := first | omega | assumption) only [h22_0, h22_1, h22_4, h22_5, h22_7, h22_24, h22_25_0, h22_25_1, h22_25_b, Option.bind_some, Option.toList_some, Option.toList_none, List.cons_append, List.nil_append, nI_ltc, nI_lec, nI_eqc, nI_ne5, n5_ne, n5_lt, bI_0, bI_1, nI_add, pk_mul, if_pos, if_neg, ite_not, if_true, if_false, not_true_eq_false, not_false_eq_true, h1, h2]
theorem z_isBridge_n (j : Nat) (hj : j < 12) : zsem d 11 0 [.inr (some 1), .inl (nI j)] [] (HH L mu p) = some (some (.inl (bI (mu 2 j = nI 2))), HH L mu p) := by
  simp (disch := first | omega | assumption) only [h11_0, h11_1, h11_4, h11_5, h11_7, h11_10, h11_11, h11_14, h11_15, h11_16, h11_17, h11_20, h11_21, h11_24, h11_25_0, h11_25_1, h11_25_b, Option.bind_some, Option.toList_some, Option.toList_none, List.cons_append, List.nil_append, nI_ltc, nI_lec, nI_eqc, nI_ne5, n5_ne, n5_lt, bI_0, bI_1, nI_add, pk_mul, if_pos, if_neg, ite_not, if_true, if_false, not_true_eq_false, not_false_eq_true]
  by_cases h : mu 2 j = nI 2 <;> simp [h, bI]
theorem z_isBridge_o (x : Int32) (hx : x < nI 0 ∨ nI 12 ≤ x) : zsem d 11 0 [.inr (some 1), .inl x] [] (HH L mu p) = some (some (.inl (nI 0)), HH L mu p) := by
  by_cases h1 : x < nI 0
  · simp (disch := first | omega | assumption) only [h11_0, h11_1, h11_4, h11_5, h11_7, h11_24, h11_25_0, h11_25_1, h11_25_b, Option.bind_some, Option.toList_some, Option.toList_none, List.cons_append, List.nil_append, nI_ltc, nI_lec, nI_eqc, nI_ne5, n5_ne, n5_lt, bI_0, bI_1, nI_add, pk_mul, if_pos, if_neg, ite_not, if_true, if_false, not_true_eq_false, not_false_eq_true, h1]
  · have h2 : nI 12 ≤ x := hx.resolve_left h1
    simp (disch := first | omega | assumption) only [h11_0, h11_1, h11_4, h11_5, h11_7, h11_24, h11_25_0, h11_25_1, h11_25_b, Option.bind_some, Option.toList_some, Option.toList_none, List.cons_append, List.nil_append, nI_ltc, nI_lec, nI_eqc, nI_ne5, n5_ne, n5_lt, bI_0, bI_1, nI_add, pk_mul, if_pos, if_neg, ite_not, if_true, if_false, not_true_eq_false, not_false_eq_true, h1, h2]
theorem z_isNumbered_n (j : Nat) (hj : j < 12) : zsem d 51 0 [.inr (some 1), .inl (nI j)] [] (HH L mu p) = some (some (.inl (bI (¬mu 12 j = -5))), HH L mu p) := by
  simp (disch := first | omega | assumption) only [h51_0, h51_1, h51_4, h51_5, h51_7, h51_10, h51_11, h51_14, h51_15, h51_16, h51_18, h51_21, h51_22, h51_25, h51_26_0, h51_26_1, h51_26_b, Option.bind_some, Option.toList_some, Option.toList_none, List.cons_append, List.nil_append, nI_ltc, nI_lec, nI_eqc, nI_ne5, n5_ne, n5_lt, bI_0, bI_1, nI_add, pk_mul, if_pos, if_neg, ite_not, if_true, if_false, not_true_eq_false, not_false_eq_true]
  by_cases h : mu 12 j = -5 <;> simp [h, bI]
theorem z_isNumbered_o (x : Int32) (hx : x < nI 0 ∨ nI 12 ≤ x) : zsem d 51 0 [.inr (some 1), .inl x] [] (HH L mu p) = some (some (.inl (nI 0)), HH L mu p) := by
  by_cases h1 : x < nI 0
  · simp (disch := first | omega | assumption) only [h51_0, h51_1, h51_4, h51_5, h51_7, h51_25, Option.bind_some, Option.toList_some, Option.toList_none, List.cons_append, List.nil_append, nI_ltc, nI_lec, nI_eqc, nI_ne5, n5_ne, n5_lt, bI_0, bI_1, nI_add, pk_mul, if_pos, if_neg, ite_not, if_true, if_false, not_true_eq_false, not_false_eq_true, h1]
  · have h2 : nI 12 ≤ x := hx.resolve_left h1
    simp (disch := first | omega | assumption) only [h51_0, h51_1, h51_4, h51_5, h51_7, h51_25, Option.bind_some, Option.toList_some, Option.toList_none, List.cons_append, List.nil_append, nI_ltc, nI_lec, nI_eqc, nI_ne5, n5_ne, n5_lt, bI_0, bI_1, nI_add, pk_mul, if_pos, if_neg, ite_not, if_true, if_false, not_true_eq_false, not_false_eq_true, h1, h2]
theorem z_isBus_n (j : Nat) (hj : j < 12) : zsem (d + 1) 10 0 [.inr (some 1), .inl (nI j)] [] (HH L mu p) = some (some (.inl (bI (mu 2 j = nI 2))), HH L mu p) := by
  simp (disch := first | omega | assumption) only [h10_0, h10_1, h10_3, h10_6, h10_7, h10_8, h10_11, h10_14, h10_15, h10_18, h10_19_0, h10_19_1, h10_19_b, Option.bind_some, Option.toList_some, Option.toList_none, List.cons_append, List.nil_append, nI_ltc, nI_lec, nI_eqc, nI_ne5, n5_ne, n5_lt, bI_0, bI_1, nI_add, pk_mul, if_pos, if_neg, ite_not, if_true, if_false, not_true_eq_false, not_false_eq_true, z_isBridge_n]
  by_cases h : mu 2 j = nI 2 <;> simp [h, bI]
theorem z_isBus_r : zsem (d + 1) 10 0 [.inr (some 1), .inl (nI 12)] [] (HH L mu p) = some (some (.inl (nI 1)), HH L mu p) := by
  simp (disch := first | omega | assumption) only [h10_0, h10_1, h10_3, h10_6, h10_7, h10_8, h10_11, h10_14, h10_15, h10_18, h10_19_0, h10_19_1, h10_19_b, Option.bind_some, Option.toList_some, Option.toList_none, List.cons_append, List.nil_append, nI_ltc, nI_lec, nI_eqc, nI_ne5, n5_ne, n5_lt, bI_0, bI_1, nI_add, pk_mul, if_pos, if_neg, ite_not, if_true, if_false, not_true_eq_false, not_false_eq_true]
theorem z_isBus_o (x : Int32) (h12 : ¬x = nI 12) (hx : x < nI 0 ∨ nI 12 ≤ x) : zsem (d + 1) 10 0 [.inr (some 1), .inl x] [] (HH L mu p) = some (some (.inl (nI 0)), HH L mu p) := by
  simp (disch := first | omega | assumption) only [h10_0, h10_1, h10_3, h10_6, h10_7, h10_8, h10_11, h10_14, h10_15, h10_18, h10_19_0, h10_19_1, h10_19_b, Option.bind_some, Option.toList_some, Option.toList_none, List.cons_append, List.nil_append, nI_ltc, nI_lec, nI_eqc, nI_ne5, n5_ne, n5_lt, bI_0, bI_1, nI_add, pk_mul, if_pos, if_neg, ite_not, if_true, if_false, not_true_eq_false, not_false_eq_true, z_isBridge_o, h12]
theorem z_deviceAt_n (b s : Nat) (hb : b < 13) (hs : s < 4) : zsem d 13 0 [.inr (some 1), .inl (nI b), .inl (nI s), .inr none] [] (HH L mu p) = some (some (.inl (mu 5 (b * 4 + s))), HH L mu p) := by
  simp (disch := first | omega | assumption) only [h13_0, h13_1, h13_4, h13_5, h13_7, h13_10, h13_11, h13_14, h13_15, h13_16, h13_19, h13_20, h13_23, h13_24, h13_25, h13_26, h13_29, h13_30, h13_33, h13_34, h13_35, h13_36, h13_37, h13_38, h13_39, h13_42, h13_44, Option.bind_some, Option.toList_some, Option.toList_none, List.cons_append, List.nil_append, nI_ltc, nI_lec, nI_eqc, nI_ne5, n5_ne, n5_lt, bI_0, bI_1, nI_add, pk_mul, if_pos, if_neg, ite_not, if_true, if_false, not_true_eq_false, not_false_eq_true]
theorem z_deviceAt_5 (x : Int32) : zsem d 13 0 [.inr (some 1), .inl (-5), .inl x, .inr none] [] (HH L mu p) = some (some (.inl (-5)), HH L mu p) := by
  simp (disch := first | omega | assumption) only [h13_0, h13_1, h13_23, h13_24, h13_25, h13_26, h13_42, h13_44, Option.bind_some, Option.toList_some, Option.toList_none, List.cons_append, List.nil_append, nI_ltc, nI_lec, nI_eqc, nI_ne5, n5_ne, n5_lt, bI_0, bI_1, nI_add, pk_mul, if_pos, if_neg, ite_not, if_true, if_false, not_true_eq_false, not_false_eq_true]
theorem z_isIn (m x : Int32) : zsem d 41 0 [.inl m, .inl x] [] (HH L mu p) = some (some (.inl (bI ((m >>> (x &&& 31)) &&& nI 1 = nI 1))), HH L mu p) := by
  simp (disch := first | omega | assumption) only [h41_0, h41_1, h41_2, h41_3, h41_4, h41_5, h41_6, h41_9, h41_10, h41_13, h41_14_0, h41_14_1, h41_14_b, Option.bind_some, Option.toList_some, Option.toList_none, List.cons_append, List.nil_append, nI_ltc, nI_lec, nI_eqc, nI_ne5, n5_ne, n5_lt, bI_0, bI_1, nI_add, pk_mul, if_pos, if_neg, ite_not, if_true, if_false, not_true_eq_false, not_false_eq_true]
  by_cases h : (m >>> (x &&& 31)) &&& nI 1 = nI 1 <;> simp [h, bI]
theorem z_roundUp (x a : Int32) : zsem d 34 0 [.inl x, .inl a] [] (HH L mu p) = some (some (.inl ((x + a - nI 1) &&& -a)), HH L mu p) := by
  simp (disch := first | omega | assumption) only [h34_0, h34_1, h34_2, h34_3, h34_4, h34_5, h34_6, h34_7, h34_8, Option.bind_some, Option.toList_some, Option.toList_none, List.cons_append, List.nil_append, nI_ltc, nI_lec, nI_eqc, nI_ne5, n5_ne, n5_lt, bI_0, bI_1, nI_add, pk_mul, if_pos, if_neg, ite_not, if_true, if_false, not_true_eq_false, not_false_eq_true]
theorem z_min (x y : Int32) : zsem d 47 0 [.inl x, .inl y] [] (HH L mu p) = some (some (.inl (if y < x then y else x)), HH L mu p) := by
  simp (disch := first | omega | assumption) only [h47_0, h47_1, h47_2, h47_5, h47_6, h47_9, h47_10, Option.bind_some, Option.toList_some, Option.toList_none, List.cons_append, List.nil_append, nI_ltc, nI_lec, nI_eqc, nI_ne5, n5_ne, n5_lt, bI_0, bI_1, nI_add, pk_mul, if_pos, if_neg, ite_not, if_true, if_false, not_true_eq_false, not_false_eq_true]
  by_cases h : y < x <;> simp [h]
theorem z_max (x y : Int32) : zsem d 54 0 [.inl x, .inl y] [] (HH L mu p) = some (some (.inl (if x < y then y else x)), HH L mu p) := by
  simp (disch := first | omega | assumption) only [h54_0, h54_1, h54_2, h54_5, h54_6, h54_9, h54_10, Option.bind_some, Option.toList_some, Option.toList_none, List.cons_append, List.nil_append, nI_ltc, nI_lec, nI_eqc, nI_ne5, n5_ne, n5_lt, bI_0, bI_1, nI_add, pk_mul, if_pos, if_neg, ite_not, if_true, if_false, not_true_eq_false, not_false_eq_true]
  by_cases h : x < y <;> simp [h]
end
