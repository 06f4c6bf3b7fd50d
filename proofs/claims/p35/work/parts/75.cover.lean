/-! what the parts of a bus cover: class -/
theorem part_div {t q : Nat} (ht : t < 4) (hq : q < 3) : nI (t * 3 + q) / nI 3 = nI t := by
  rw [nI_div (by omega) (by omega) (by omega)]
  congr 1
  omega
theorem part_mod {t q : Nat} : nI (t * 3 + q) - nI (t * 3) = nI q := by
  rw [nI_sub (by omega)]
  congr 1
  omega
theorem n3_0 : ¬nI 3 = nI 0 := by decide
section
variable (d L : Nat) (mu : RV) (p : Nat → Nat)
theorem z_cst_n (b s t q : Nat) (hb : b < 13) (ht : t < 4) (hq : q < 3) (hv : mu 5 (b * 4 + t) = -5) (w w' : AV) : zsem (d + 1) 57 0 [.inr (.inl (some 1)), .inl (nI b), .inl (nI s), .inl (nI (t * 3 + q)), w, w'] [] (HH L mu p) = some (some (.inl (-5)), HH L mu p) := by
  have e1 := part_div ht hq
  have e2 := @part_mod t q
  have e3 := n3_0
  have c1 := z_isCard_o d L mu p (-5) (Or.inl (by decide))
  have c2 := z_isBridge_o d L mu p (-5) (Or.inl (by decide))
  simp (disch := first | omega | assumption) only [h57_0, h57_1, h57_2, h57_3, h57_4, h57_5, h57_8, h57_10, h57_11, h57_12, h57_13, h57_15, h57_16, h57_18, h57_21, h57_24, h57_25, h57_28, h57_30, h57_32, h57_35, h57_36, h57_37, h57_40, h57_41, h57_44, h57_46, h57_48, h57_51, h57_52, h57_53, h57_54, h57_56, h57_59, h57_62, h57_64, h57_67, h57_68, h57_71, h57_73, h57_74, h57_77, h57_78, h57_79, h57_81, Option.bind_some, Option.toList_some, Option.toList_none, List.cons_append, List.nil_append, nI_ltc, nI_lec, nI_eqc, nI_ne5, n5_ne, n5_lt, bI_0, bI_1, nI_add, pk_mul, if_pos, if_neg, ite_not, if_true, if_false, not_true_eq_false, not_false_eq_true, true_and, false_and, and_true, and_false, Nat.reduceAdd, Nat.reduceMul, e1, e2, z_deviceAt_n, hv, c1, c2]
theorem z_cst_c (b s t q j : Nat) (hb : b < 13) (ht : t < 4) (hq : q < 3) (hj : j < 12) (hv : mu 5 (b * 4 + t) = nI j) (hk : mu 2 j = nI 1) (w w' : AV) : zsem (d + 1) 57 0 [.inr (.inl (some 1)), .inl (nI b), .inl (nI s), .inl (nI (t * 3 + q)), w, w'] [] (HH L mu p) = some (some (.inl (if mu 6 (j * 3 + q) = nI s then mu 8 (j * 3 + q) else -5)), HH L mu p) := by
  have e1 := part_div ht hq
  have e2 := @part_mod t q
  have e3 := n3_0
  by_cases h6 : mu 6 (j * 3 + q) = nI s
  · simp (disch := first | omega | assumption) only [h57_0, h57_1, h57_2, h57_3, h57_4, h57_5, h57_8, h57_10, h57_11, h57_12, h57_13, h57_15, h57_16, h57_18, h57_21, h57_24, h57_25, h57_28, h57_30, h57_32, h57_35, h57_36, h57_37, h57_40, h57_41, h57_44, h57_46, h57_48, h57_51, h57_52, h57_53, h57_54, h57_56, h57_59, h57_62, h57_64, h57_67, h57_68, h57_71, h57_73, h57_74, h57_77, h57_78, h57_79, h57_81, Option.bind_some, Option.toList_some, Option.toList_none, List.cons_append, List.nil_append, nI_ltc, nI_lec, nI_eqc, nI_ne5, n5_ne, n5_lt, bI_0, bI_1, nI_add, pk_mul, if_pos, if_neg, ite_not, if_true, if_false, not_true_eq_false, not_false_eq_true, true_and, false_and, and_true, and_false, Nat.reduceAdd, Nat.reduceMul, e1, e2, z_deviceAt_n, hv, z_isCard_n, hk, z_regionIndex, h6]
  · simp (disch := first | omega | assumption) only [h57_0, h57_1, h57_2, h57_3, h57_4, h57_5, h57_8, h57_10, h57_11, h57_12, h57_13, h57_15, h57_16, h57_18, h57_21, h57_24, h57_25, h57_28, h57_30, h57_32, h57_35, h57_36, h57_37, h57_40, h57_41, h57_44, h57_46, h57_48, h57_51, h57_52, h57_53, h57_54, h57_56, h57_59, h57_62, h57_64, h57_67, h57_68, h57_71, h57_73, h57_74, h57_77, h57_78, h57_79, h57_81, Option.bind_some, Option.toList_some, Option.toList_none, List.cons_append, List.nil_append, nI_ltc, nI_lec, nI_eqc, nI_ne5, n5_ne, n5_lt, bI_0, bI_1, nI_add, pk_mul, if_pos, if_neg, ite_not, if_true, if_false, not_true_eq_false, not_false_eq_true, true_and, false_and, and_true, and_false, Nat.reduceAdd, Nat.reduceMul, e1, e2, z_deviceAt_n, hv, z_isCard_n, z_isBridge_n, hk, z_regionIndex, h6]
theorem z_cst_b (b s t q j : Nat) (hb : b < 13) (hs : s < 2) (ht : t < 4) (hq : q < 3) (hj : j < 12) (hv : mu 5 (b * 4 + t) = nI j) (hk : mu 2 j = nI 2) (w w' : AV) : zsem (d + 1) 57 0 [.inr (.inl (some 1)), .inl (nI b), .inl (nI s), .inl (nI (t * 3 + q)), w, w'] [] (HH L mu p) = some (some (.inl (if q = 0 then mu 10 (j * 2 + s) else -5)), HH L mu p) := by
  have e1 := part_div ht hq
  have e2 := @part_mod t q
  have e3 := n3_0
  by_cases h0 : q = 0
  · subst h0
    simp (disch := first | omega | assumption) only [h57_0, h57_1, h57_2, h57_3, h57_4, h57_5, h57_8, h57_10, h57_11, h57_12, h57_13, h57_15, h57_16, h57_18, h57_21, h57_24, h57_25, h57_28, h57_30, h57_32, h57_35, h57_36, h57_37, h57_40, h57_41, h57_44, h57_46, h57_48, h57_51, h57_52, h57_53, h57_54, h57_56, h57_59, h57_62, h57_64, h57_67, h57_68, h57_71, h57_73, h57_74, h57_77, h57_78, h57_79, h57_81, Option.bind_some, Option.toList_some, Option.toList_none, List.cons_append, List.nil_append, nI_ltc, nI_lec, nI_eqc, nI_ne5, n5_ne, n5_lt, bI_0, bI_1, nI_add, pk_mul, if_pos, if_neg, ite_not, if_true, if_false, not_true_eq_false, not_false_eq_true, true_and, false_and, and_true, and_false, Nat.reduceAdd, Nat.reduceMul, e1, e2, z_deviceAt_n, hv, z_isCard_n, z_isBridge_n, hk, z_windowIndex]
  · simp (disch := first | omega | assumption) only [h57_0, h57_1, h57_2, h57_3, h57_4, h57_5, h57_8, h57_10, h57_11, h57_12, h57_13, h57_15, h57_16, h57_18, h57_21, h57_24, h57_25, h57_28, h57_30, h57_32, h57_35, h57_36, h57_37, h57_40, h57_41, h57_44, h57_46, h57_48, h57_51, h57_52, h57_53, h57_54, h57_56, h57_59, h57_62, h57_64, h57_67, h57_68, h57_71, h57_73, h57_74, h57_77, h57_78, h57_79, h57_81, Option.bind_some, Option.toList_some, Option.toList_none, List.cons_append, List.nil_append, nI_ltc, nI_lec, nI_eqc, nI_ne5, n5_ne, n5_lt, bI_0, bI_1, nI_add, pk_mul, if_pos, if_neg, ite_not, if_true, if_false, not_true_eq_false, not_false_eq_true, true_and, false_and, and_true, and_false, Nat.reduceAdd, Nat.reduceMul, e1, e2, z_deviceAt_n, hv, z_isCard_n, z_isBridge_n, hk, h0]
theorem z_csz_n (b s t q : Nat) (hb : b < 13) (ht : t < 4) (hq : q < 3) (hv : mu 5 (b * 4 + t) = -5) (w : AV) : zsem (d + 1) 58 0 [.inr (.inl (some 1)), .inl (nI b), .inl (nI s), .inl (nI (t * 3 + q)), w] [] (HH L mu p) = some (some (.inl (nI 0)), HH L mu p) := by
  have e1 := part_div ht hq
  have e2 := @part_mod t q
  have e3 := n3_0
  have c1 := z_isCard_o d L mu p (-5) (Or.inl (by decide))
  have c2 := z_isBridge_o d L mu p (-5) (Or.inl (by decide))
  simp (disch := first | omega | assumption) only [h58_0, h58_1, h58_2, h58_3, h58_4, h58_5, h58_8, h58_10, h58_11, h58_13, h58_16, h58_19, h58_20, h58_23, h58_25, h58_26, h58_27, h58_28, h58_31, h58_32, h58_33, h58_34, h58_36, h58_39, h58_42, h58_43, h58_46, h58_48, h58_49, h58_52, h58_53, h58_56, h58_57, Option.bind_some, Option.toList_some, Option.toList_none, List.cons_append, List.nil_append, nI_ltc, nI_lec, nI_eqc, nI_ne5, n5_ne, n5_lt, bI_0, bI_1, nI_add, pk_mul, if_pos, if_neg, ite_not, if_true, if_false, not_true_eq_false, not_false_eq_true, true_and, false_and, and_true, and_false, Nat.reduceAdd, Nat.reduceMul, e1, e2, z_deviceAt_n, hv, c1, c2]
theorem z_csz_c (b s t q j : Nat) (hb : b < 13) (ht : t < 4) (hq : q < 3) (hj : j < 12) (hv : mu 5 (b * 4 + t) = nI j) (hk : mu 2 j = nI 1) (w : AV) : zsem (d + 1) 58 0 [.inr (.inl (some 1)), .inl (nI b), .inl (nI s), .inl (nI (t * 3 + q)), w] [] (HH L mu p) = some (some (.inl (mu 7 (j * 3 + q))), HH L mu p) := by
  have e1 := part_div ht hq
  have e2 := @part_mod t q
  have e3 := n3_0
  simp (disch := first | omega | assumption) only [h58_0, h58_1, h58_2, h58_3, h58_4, h58_5, h58_8, h58_10, h58_11, h58_13, h58_16, h58_19, h58_20, h58_23, h58_25, h58_26, h58_27, h58_28, h58_31, h58_32, h58_33, h58_34, h58_36, h58_39, h58_42, h58_43, h58_46, h58_48, h58_49, h58_52, h58_53, h58_56, h58_57, Option.bind_some, Option.toList_some, Option.toList_none, List.cons_append, List.nil_append, nI_ltc, nI_lec, nI_eqc, nI_ne5, n5_ne, n5_lt, bI_0, bI_1, nI_add, pk_mul, if_pos, if_neg, ite_not, if_true, if_false, not_true_eq_false, not_false_eq_true, true_and, false_and, and_true, and_false, Nat.reduceAdd, Nat.reduceMul, e1, e2, z_deviceAt_n, hv, z_isCard_n, hk, z_regionIndex]
theorem z_csz_b (b s t q j : Nat) (hb : b < 13) (hs : s < 2) (ht : t < 4) (hq : q < 3) (hj : j < 12) (hv : mu 5 (b * 4 + t) = nI j) (hk : mu 2 j = nI 2) (w : AV) : zsem (d + 1) 58 0 [.inr (.inl (some 1)), .inl (nI b), .inl (nI s), .inl (nI (t * 3 + q)), w] [] (HH L mu p) = some (some (.inl (mu 11 (j * 2 + s))), HH L mu p) := by
  have e1 := part_div ht hq
  have e2 := @part_mod t q
  have e3 := n3_0
  simp (disch := first | omega | assumption) only [h58_0, h58_1, h58_2, h58_3, h58_4, h58_5, h58_8, h58_10, h58_11, h58_13, h58_16, h58_19, h58_20, h58_23, h58_25, h58_26, h58_27, h58_28, h58_31, h58_32, h58_33, h58_34, h58_36, h58_39, h58_42, h58_43, h58_46, h58_48, h58_49, h58_52, h58_53, h58_56, h58_57, Option.bind_some, Option.toList_some, Option.toList_none, List.cons_append, List.nil_append, nI_ltc, nI_lec, nI_eqc, nI_ne5, n5_ne, n5_lt, bI_0, bI_1, nI_add, pk_mul, if_pos, if_neg, ite_not, if_true, if_false, not_true_eq_false, not_false_eq_true, true_and, false_and, and_true, and_false, Nat.reduceAdd, Nat.reduceMul, e1, e2, z_deviceAt_n, hv, z_isCard_n, z_isBridge_n, hk, z_windowIndex]
end
