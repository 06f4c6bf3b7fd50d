/-! fitIn on a bus without room -/
theorem n5_ltn {r : Nat} (h : r < 2147483648) : (-5 : Int32) < nI r := by
  rw [Int32.lt_iff_toInt_lt, nI_toInt (by omega)]
  have : (-5 : Int32).toInt = -5 := by decide
  omega
theorem n5_up (kk : Nat) (h : kk = 2 ∨ kk = 3 ∨ kk = 4 ∨ kk = 5 ∨ kk = 6 ∨ kk = 7 ∨ kk = 8 ∨ kk = 9 ∨ kk = 10) : (-5 + nI (2 ^ kk) - nI 1) &&& -nI (2 ^ kk) = -4 ∨ (-5 + nI (2 ^ kk) - nI 1) &&& -nI (2 ^ kk) = nI 0 := by
  rcases h with rfl | rfl | rfl | rfl | rfl | rfl | rfl | rfl | rfl
  · exact Or.inl (by decide)
  all_goals exact Or.inr (by decide)
theorem n4_add {r : Nat} (h : 4 ≤ r) : (-4 : Int32) + nI r = nI (r - 4) := by
  have e : nI r = nI 4 + nI (r - 4) := by rw [nI_add]; congr 1; omega
  have e2 : (-4 : Int32) + nI 4 = 0 := by decide
  rw [e, ← Int32.add_assoc, e2, Int32.zero_add]
section
variable (d L : Nat) (mu : RV) (p : Nat → Nat)
theorem z_fitIn_n (b s size kk : Nat) (hb : b < 12) (hs : s < 2) (hkk : kk = 2 ∨ kk = 3 ∨ kk = 4 ∨ kk = 5 ∨ kk = 6 ∨ kk = 7 ∨ kk = 8 ∨ kk = 9 ∨ kk = 10) (hsz : size ≤ 1000000) (hsz0 : 4 ≤ size) (hk : mu 2 b = nI 2) (h10 : mu 10 (b * 2 + s) = -5) (h11 : mu 11 (b * 2 + s) = nI 0) :
    zsem (d + 3) 66 0 [.inr (.inl (some 1)), .inl (nI b), .inl (nI s), .inl (nI size), .inl (nI (2 ^ kk)), .inr (.inl none), .inr (.inl none), .inr (.inl none), .inr (.inl none)] [] (HH L mu p) = some (some (.inl (-5)), HH L mu p) := by
  have e1 := z_startOf_b (d + 1) L mu p b s hb hs hk
  have e2 := z_extentOf_b (d + 1) L mu p b s hb hs hk
  rw [h10] at e1
  rw [h11] at e2
  have e3 : (-5 : Int32) + nI 0 = -5 := by decide
  rcases n5_up kk hkk with q | q
  · have l1 : ¬nI (size - 4) ≤ -5 := by rw [Int32.not_le]; exact n5_ltn (by omega)
    have l2 : (-5 : Int32) < nI (size - 4) := n5_ltn (by omega)
    have l3 := @n4_add size hsz0
    simp (disch := first | omega | assumption) only [h66_0, h66_1, h66_2, h66_3, h66_6, h66_7, h66_8, h66_9, h66_12, h66_13, h66_15, h66_16, h66_17, h66_18, h66_21, h66_23, h66_26, h66_28, h66_29, h66_33, h66_35, h66_38, h66_40, h66_41, h66_42, h66_44, h66_47, h66_48, h66_49, h66_50, h66_52, h66_54, h66_55, h66_56, h66_59, h66_61, h66_63, h66_65, h66_68, h66_70, h66_71, h66_73, h66_75, h66_78, h66_80, h66_83, h66_86, h66_88, Option.bind_some, Option.toList_some, Option.toList_none, List.cons_append, List.nil_append, nI_ltc, nI_lec, nI_eqc, nI_ne5, n5_ne, n5_lt, bI_0, bI_1, nI_add, pk_mul, if_pos, if_neg, ite_not, if_true, if_false, not_true_eq_false, not_false_eq_true, true_and, false_and, and_true, and_false, Nat.reduceAdd, Nat.reduceMul, e1, e2, e3, z_roundUp, q]
    rw [h66_31]
    simp (disch := first | omega | assumption) only [h66_0, h66_1, h66_2, h66_3, h66_6, h66_7, h66_8, h66_9, h66_12, h66_13, h66_15, h66_16, h66_17, h66_18, h66_21, h66_23, h66_26, h66_28, h66_29, h66_33, h66_35, h66_38, h66_40, h66_41, h66_42, h66_44, h66_47, h66_48, h66_49, h66_50, h66_52, h66_54, h66_55, h66_56, h66_59, h66_61, h66_63, h66_65, h66_68, h66_70, h66_71, h66_73, h66_75, h66_78, h66_80, h66_83, h66_86, h66_88, Option.bind_some, Option.toList_some, Option.toList_none, List.cons_append, List.nil_append, nI_ltc, nI_lec, nI_eqc, nI_ne5, n5_ne, n5_lt, bI_0, bI_1, nI_add, pk_mul, if_pos, if_neg, ite_not, if_true, if_false, not_true_eq_false, not_false_eq_true, true_and, false_and, and_true, and_false, Nat.reduceAdd, Nat.reduceMul, l3, l1, l2]
  · have l1 : ¬nI size ≤ -5 := by rw [Int32.not_le]; exact n5_ltn (by omega)
    have l2 : (-5 : Int32) < nI size := n5_ltn (by omega)
    have l3 : nI 0 + nI size = nI size := by rw [nI_add, Nat.zero_add]
    simp (disch := first | omega | assumption) only [h66_0, h66_1, h66_2, h66_3, h66_6, h66_7, h66_8, h66_9, h66_12, h66_13, h66_15, h66_16, h66_17, h66_18, h66_21, h66_23, h66_26, h66_28, h66_29, h66_33, h66_35, h66_38, h66_40, h66_41, h66_42, h66_44, h66_47, h66_48, h66_49, h66_50, h66_52, h66_54, h66_55, h66_56, h66_59, h66_61, h66_63, h66_65, h66_68, h66_70, h66_71, h66_73, h66_75, h66_78, h66_80, h66_83, h66_86, h66_88, Option.bind_some, Option.toList_some, Option.toList_none, List.cons_append, List.nil_append, nI_ltc, nI_lec, nI_eqc, nI_ne5, n5_ne, n5_lt, bI_0, bI_1, nI_add, pk_mul, if_pos, if_neg, ite_not, if_true, if_false, not_true_eq_false, not_false_eq_true, true_and, false_and, and_true, and_false, Nat.reduceAdd, Nat.reduceMul, e1, e2, e3, z_roundUp, q]
    rw [h66_31]
    simp (disch := first | omega | assumption) only [h66_0, h66_1, h66_2, h66_3, h66_6, h66_7, h66_8, h66_9, h66_12, h66_13, h66_15, h66_16, h66_17, h66_18, h66_21, h66_23, h66_26, h66_28, h66_29, h66_33, h66_35, h66_38, h66_40, h66_41, h66_42, h66_44, h66_47, h66_48, h66_49, h66_50, h66_52, h66_54, h66_55, h66_56, h66_59, h66_61, h66_63, h66_65, h66_68, h66_70, h66_71, h66_73, h66_75, h66_78, h66_80, h66_83, h66_86, h66_88, Option.bind_some, Option.toList_some, Option.toList_none, List.cons_append, List.nil_append, nI_ltc, nI_lec, nI_eqc, nI_ne5, n5_ne, n5_lt, bI_0, bI_1, nI_add, pk_mul, if_pos, if_neg, ite_not, if_true, if_false, not_true_eq_false, not_false_eq_true, true_and, false_and, and_true, and_false, Nat.reduceAdd, Nat.reduceMul, l3, l1, l2, Nat.zero_add]
end
