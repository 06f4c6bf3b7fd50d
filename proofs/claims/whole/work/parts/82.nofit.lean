/-! fitIn on a bus without room -/
theorem n5_ltn {r : Nat} (h : r < 2147483648) : (-5 : Int32) < nI r := by
  rw [Int32.lt_iff_toInt_lt, nI_toInt (by omega)]
  have : (-5 : Int32).toInt = -5 := by decide
  omega
theorem n5_up (kk : Nat) (h : kk = 2 ∨ kk = 3 ∨ kk = 4 ∨ kk = 5 ∨ kk = 6 ∨ kk = 7 ∨ kk = 8 ∨ kk = 9 ∨ kk = 10) : (-5 + nI (2 ^ kk) - nI 1) &&& -nI (2 ^ kk) = -4 ∨ (-5 + nI (2 ^ kk) - nI 1) &&& -nI (2 ^ kk) = nI 0 := by
  rcases h with rfl | rfl | rfl | rfl | rfl | rfl | rfl | rfl | rfl
  · exact Or.inl (by decide)
  all_goals exact Or.inr (by decide)
theorem n4_add {r : Nat} (h : 4 ≤ r) : (-4 : Int32) + nI r = nI (r - 4) := by
  have e : nI r = nI 4 + nI (r - 4) := by rw [nI_add]; congr 1; omega
  have e2 : (-4 : Int32) + nI 4 = 0 := by decide
  rw [e, ← Int32.add_assoc, e2, Int32.zero_add]
section
variable (d L : Nat) (mu : RV) (p : Nat → Nat)
theorem z_fitIn_n (b s size kk : Nat) (hb : b < 12) (hs : s < 2) (hkk : kk = 2 ∨ kk = 3 ∨ kk = 4 ∨ kk = 5 ∨ kk = 6 ∨ kk = 7 ∨ kk = 8 ∨ kk = 9 ∨ kk = 10) (hsz : size ≤ 1000000) (hsz0 : 4 ≤ size) (hk : mu 2 b = nI 2) (h10 : mu 10 (b * 2 + s) = -5) (h11 : mu 11 (b * 2 + s) = nI 0) :
    zsem (d + 3) 64 0 [.inr (some 1), .inl (nI b), .inl (nI s), .inl (nI size), .inl (nI (2 ^ kk)), .inr none, .inr none, .inr none, .inr none] [] (HH L mu p) = some (some (.inl (-5)), HH L mu p) := by
  have e1 := z_startOf_b (d + 1) L mu p b s hb hs hk
  have e2 := z_extentOf_b (d + 1) L mu p b s hb hs hk
  rw [h10] at e1
  rw [h11] at e2
  have e3 : (-5 : Int32) + nI 0 = -5 := by decide
  rcases n5_up kk hkk with q | q
  · have l1 : ¬nI (size - 4) ≤ -5 := by rw [Int32.not_le]; exact n5_ltn (by omega)
    have l2 : (-5 : Int32) < nI (size - 4) := n5_ltn (by omega)
    have l3 := @n4_add size hsz0
    simp (disch := first | omega | assumption) only [h64_0, h64_1, h64_2, h64_3, h64_6, h64_7, h64_8, h64_9, h64_12, h64_13, h64_15, h64_16, h64_17, h64_18, h64_21, h64_23, h64_26, h64_28, h64_29, h64_33, h64_35, h64_38, h64_40, h64_41, h64_42, h64_44, h64_47, h64_48, h64_49, h64_50, h64_52, h64_54, h64_55, h64_56, h64_59, h64_61, h64_63, h64_65, h64_68, h64_70, h64_71, h64_73, h64_75, h64_78, h64_80, h64_83, h64_86, h64_88, Option.bind_some, Option.toList_some, Option.toList_none, List.cons_append, List.nil_append, nI_ltc, nI_lec, nI_eqc, nI_ne5, n5_ne, n5_lt, bI_0, bI_1, nI_add, pk_mul, if_pos, if_neg, ite_not, if_true, if_false, not_true_eq_false, not_false_eq_true, true_and, false_and, and_true, and_false, Nat.reduceAdd, Nat.reduceMul, e1, e2, e3, z_roundUp, q]
    rw [h64_31]
    simp (disch := first | omega | assumption) only [h64_0, h64_1, h64_2, h64_3, h64_6, h64_7, h64_8, h64_9, h64_12, h64_13, h64_15, h64_16, h64_17, h64_18, h64_21, h64_23, h64_26, h64_28, h64_29, h64_33, h64_35, h64_38, h64_40, h64_41, h64_42, h64_44, h64_47, h64_48, h64_49, h64_50, h64_52, h64_54, h64_55, h64_56, h64_59, h64_61, h64_63, h64_65, h64_68, h64_70, h64_71, h64_73, h64_75, h64_78, h64_80, h64_83, h64_86, h64_88, Option.bind_some, Option.toList_some, Option.toList_none, List.cons_append, List.nil_append, nI_ltc, nI_lec, nI_eqc, nI_ne5, n5_ne, n5_lt, bI_0, bI_1, nI_add, pk_mul, if_pos, if_neg, ite_not, if_true, if_false, not_true_eq_false, not_false_eq_true, true_and, false_and, and_true, and_false, Nat.reduceAdd, Nat.reduceMul, l3, l1, l2]
  · have l1 : ¬nI size ≤ -5 := by rw [Int32.not_le]; exact n5_ltn (by omega)
    have l2 : (-5 : Int32) < nI size := n5_ltn (by omega)
    have l3 : nI 0 + nI size = nI size := by rw [nI_add, Nat.zero_add]
    simp (disch := first | omega | assumption) only [h64_0, h64_1, h64_2, h64_3, h64_6, h64_7, h64_8, h64_9, h64_12, h64_13, h64_15, h64_16, h64_17, h64_18, h64_21, h64_23, h64_26, h64_28, h64_29, h64_33, h64_35, h64_38, h64_40, h64_41, h64_42, h64_44, h64_47, h64_48, h64_49, h64_50, h64_52, h64_54, h64_55, h64_56, h64_59, h64_61, h64_63, h64_65, h64_68, h64_70, h64_71, h64_73, h64_75, h64_78, h64_80, h64_83, h64_86, h64_88, Option.bind_some, Option.toList_some, Option.toList_none, List.cons_append, List.nil_append, nI_ltc, nI_lec, nI_eqc, nI_ne5, n5_ne, n5_lt, bI_0, bI_1, nI_add, pk_mul, if_pos, if_neg, ite_not, if_true, if_false, not_true_eq_false, not_false_eq_true, true_and, false_and, and_true, and_false, Nat.reduceAdd, Nat.reduceMul, e1, e2, e3, z_roundUp, q]
    rw [h64_31]
    simp (disch := first | omega | assumption) only [h64_0, h64_1, h64_2, h64_3, h64_6, h64_7, h64_8, h64_9, h64_12, h64_13, h64_15, h64_16, h64_17, h64_18, h64_21, h64_23, h64_26, h64_28, h64_29, h64_33, h64_35, h64_38, h64_40, h64_41, h64_42, h64_44, h64_47, h64_48, h64_49, h64_50, h64_52, h64_54, h64_55, h64_56, h64_59, h64_61, h64_63, h64_65, h64_68, h64_70, h64_71, h64_73, h64_75, h64_78, h64_80, h64_83, h64_86, h64_88, Option.bind_some, Option.toList_some, Option.toList_none, List.cons_append, List.nil_append, nI_ltc, nI_lec, nI_eqc, nI_ne5, n5_ne, n5_lt, bI_0, bI_1, nI_add, pk_mul, if_pos, if_neg, ite_not, if_true, if_false, not_true_eq_false, not_false_eq_true, true_and, false_and, and_true, and_false, Nat.reduceAdd, Nat.reduceMul, l3, l1, l2, Nat.zero_add]
end
