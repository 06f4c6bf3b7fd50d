/-! what the parts of a bus cover: class -/
theorem part_div {t q : Nat} (ht : t < 4) (hq : q < 3) : nI (t * 3 + q) / nI 3 = nI t := by
  rw [nI_div (by omega) (by omega) (by omega)]
  congr 1
  omega
theorem part_mod {t q : Nat} : nI (t * 3 + q) - nI (t * 3) = nI q := by
  rw [nI_sub (by omega)]
  congr 1
  omega
theorem n3_0 : ¬nI 3 = nI 0 := by decide
section
variable (d L : Nat) (mu : RV) (p : Nat → Nat)
theorem z_cst_n (b s t q : Nat) (hb : b < 13) (ht : t < 4) (hq : q < 3) (hv : mu 5 (b * 4 + t) = -5) (w w' : AV) : zsem (d + 1) 67 0 [.inr (some 1), .inl (nI b), .inl (nI s), .inl (nI (t * 3 + q)), w, w'] [] (HH L mu p) = some (some (.inl (-5)), HH L mu p) := by
  have e1 := part_div ht hq
  have e2 := @part_mod t q
  have e3 := n3_0
  have c1 := z_isCard_o d L mu p (-5) (Or.inl (by decide))
  have c2 := z_isBridge_o d L mu p (-5) (Or.inl (by decide))
  simp (disch := first | omega | assumption) only [h67_0, h67_1, h67_2, h67_3, h67_4, h67_5, h67_8, h67_10, h67_11, h67_12, h67_13, h67_15, h67_16, h67_18, h67_21, h67_24, h67_25, h67_28, h67_30, h67_32, h67_35, h67_36, h67_37, h67_40, h67_41, h67_44, h67_46, h67_48, h67_51, h67_52, h67_53, h67_54, h67_56, h67_59, h67_62, h67_64, h67_67, h67_68, h67_71, h67_73, h67_74, h67_77, h67_78, h67_79, h67_81, Option.bind_some, Option.toList_some, Option.toList_none, List.cons_append, List.nil_append, nI_ltc, nI_lec, nI_eqc, nI_ne5, n5_ne, n5_lt, bI_0, bI_1, nI_add, pk_mul, if_pos, if_neg, ite_not, if_true, if_false, not_true_eq_false, not_false_eq_true, true_and, false_and, and_true, and_false, Nat.reduceAdd, Nat.reduceMul, e1, e2, z_deviceAt_n, hv, c1, c2]
theorem z_cst_c (b s t q j : Nat) (hb : b < 13) (ht : t < 4) (hq : q < 3) (hj : j < 12) (hv : mu 5 (b * 4 + t) = nI j) (hk : mu 2 j = nI 1) (w w' : AV) : zsem (d + 1) 67 0 [.inr (some 1), .inl (nI b), .inl (nI s), .inl (nI (t * 3 + q)), w, w'] [] (HH L mu p) = some (some (.inl (if mu 6 (j * 3 + q) = nI s then mu 8 (j * 3 + q) else -5)), HH L mu p) := by
  have e1 := part_div ht hq
  have e2 := @part_mod t q
  have e3 := n3_0
  by_cases h6 : mu 6 (j * 3 + q) = nI s
  · simp (disch := first | omega | assumption) only [h67_0, h67_1, h67_2, h67_3, h67_4, h67_5, h67_8, h67_10, h67_11, h67_12, h67_13, h67_15, h67_16, h67_18, h67_21, h67_24, h67_25, h67_28, h67_30, h67_32, h67_35, h67_36, h67_37, h67_40, h67_41, h67_44, h67_46, h67_48, h67_51, h67_52, h67_53, h67_54, h67_56, h67_59, h67_62, h67_64, h67_67, h67_68, h67_71, h67_73, h67_74, h67_77, h67_78, h67_79, h67_81, Option.bind_some, Option.toList_some, Option.toList_none, List.cons_append, List.nil_append, nI_ltc, nI_lec, nI_eqc, nI_ne5, n5_ne, n5_lt, bI_0, bI_1, nI_add, pk_mul, if_pos, if_neg, ite_not, if_true, if_false, not_true_eq_false, not_false_eq_true, true_and, false_and, and_true, and_false, Nat.reduceAdd, Nat.reduceMul, e1, e2, z_deviceAt_n, hv, z_isCard_n, hk, z_regionIndex, h6]
  · simp (disch := first | omega | assumption) only [h67_0, h67_1, h67_2, h67_3, h67_4, h67_5, h67_8, h67_10, h67_11, h67_12, h67_13, h67_15, h67_16, h67_18, h67_21, h67_24, h67_25, h67_28, h67_30, h67_32, h67_35, h67_36, h67_37, h67_40, h67_41, h67_44, h67_46, h67_48, h67_51, h67_52, h67_53, h67_54, h67_56, h67_59, h67_62, h67_64, h67_67, h67_68, h67_71, h67_73, h67_74, h67_77, h67_78, h67_79, h67_81, Option.bind_some, Option.toList_some, Option.toList_none, List.cons_append, List.nil_append, nI_ltc, nI_lec, nI_eqc, nI_ne5, n5_ne, n5_lt, bI_0, bI_1, nI_add, pk_mul, if_pos, if_neg, ite_not, if_true, if_false, not_true_eq_false, not_false_eq_true, true_and, false_and, and_true, and_false, Nat.reduceAdd, Nat.reduceMul, e1, e2, z_deviceAt_n, hv, z_isCard_n, z_isBridge_n, hk, z_regionIndex, h6]
theorem z_cst_b (b s t q j : Nat) (hb : b < 13) (hs : s < 2) (ht : t < 4) (hq : q < 3) (hj : j < 12) (hv : mu 5 (b * 4 + t) = nI j) (hk : mu 2 j = nI 2) (w w' : AV) : zsem (d + 1) 67 0 [.inr (some 1), .inl (nI b), .inl (nI s), .inl (nI (t * 3 + q)), w, w'] [] (HH L mu p) = some (some (.inl (if q = 0 then mu 10 (j * 2 + s) else -5)), HH L mu p) := by
  have e1 := part_div ht hq
  have e2 := @part_mod t q
  have e3 := n3_0
  by_cases h0 : q = 0
  · subst h0
    simp (disch := first | omega | assumption) only [h67_0, h67_1, h67_2, h67_3, h67_4, h67_5, h67_8, h67_10, h67_11, h67_12, h67_13, h67_15, h67_16, h67_18, h67_21, h67_24, h67_25, h67_28, h67_30, h67_32, h67_35, h67_36, h67_37, h67_40, h67_41, h67_44, h67_46, h67_48, h67_51, h67_52, h67_53, h67_54, h67_56, h67_59, h67_62, h67_64, h67_67, h67_68, h67_71, h67_73, h67_74, h67_77, h67_78, h67_79, h67_81, Option.bind_some, Option.toList_some, Option.toList_none, List.cons_append, List.nil_append, nI_ltc, nI_lec, nI_eqc, nI_ne5, n5_ne, n5_lt, bI_0, bI_1, nI_add, pk_mul, if_pos, if_neg, ite_not, if_true, if_false, not_true_eq_false, not_false_eq_true, true_and, false_and, and_true, and_false, Nat.reduceAdd, Nat.reduceMul, e1, e2, z_deviceAt_n, hv, z_isCard_n, z_isBridge_n, hk, z_windowIndex]
  · simp (disch := first | omega | assumption) only [h67_0, h67_1, h67_2, h67_3, h67_4, h67_5, h67_8, h67_10, h67_11, h67_12, h67_13, h67_15, h67_16, h67_18, h67_21, h67_24, h67_25, h67_28, h67_30, h67_32, h67_35, h67_36, h67_37, h67_40, h67_41, h67_44, h67_46, h67_48, h67_51, h67_52, h67_53, h67_54, h67_56, h67_59, h67_62, h67_64, h67_67, h67_68, h67_71, h67_73, h67_74, h67_77, h67_78, h67_79, h67_81, Option.bind_some, Option.toList_some, Option.toList_none, List.cons_append, List.nil_append, nI_ltc, nI_lec, nI_eqc, nI_ne5, n5_ne, n5_lt, bI_0, bI_1, nI_add, pk_mul, if_pos, if_neg, ite_not, if_true, if_false, not_true_eq_false, not_false_eq_true, true_and, false_and, and_true, and_false, Nat.reduceAdd, Nat.reduceMul, e1, e2, z_deviceAt_n, hv, z_isCard_n, z_isBridge_n, hk, h0]
theorem z_csz_n (b s t q : Nat) (hb : b < 13) (ht : t < 4) (hq : q < 3) (hv : mu 5 (b * 4 + t) = -5) (w : AV) : zsem (d + 1) 68 0 [.inr (some 1), .inl (nI b), .inl (nI s), .inl (nI (t * 3 + q)), w] [] (HH L mu p) = some (some (.inl (nI 0)), HH L mu p) := by
  have e1 := part_div ht hq
  have e2 := @part_mod t q
  have e3 := n3_0
  have c1 := z_isCard_o d L mu p (-5) (Or.inl (by decide))
  have c2 := z_isBridge_o d L mu p (-5) (Or.inl (by decide))
  simp (disch := first | omega | assumption) only [h68_0, h68_1, h68_2, h68_3, h68_4, h68_5, h68_8, h68_10, h68_11, h68_13, h68_16, h68_19, h68_20, h68_23, h68_25, h68_26, h68_27, h68_28, h68_31, h68_32, h68_33, h68_34, h68_36, h68_39, h68_42, h68_43, h68_46, h68_48, h68_49, h68_52, h68_53, h68_56, h68_57, Option.bind_some, Option.toList_some, Option.toList_none, List.cons_append, List.nil_append, nI_ltc, nI_lec, nI_eqc, nI_ne5, n5_ne, n5_lt, bI_0, bI_1, nI_add, pk_mul, if_pos, if_neg, ite_not, if_true, if_false, not_true_eq_false, not_false_eq_true, true_and, false_and, and_true, and_false, Nat.reduceAdd, Nat.reduceMul, e1, e2, z_deviceAt_n, hv, c1, c2]
theorem z_csz_c (b s t q j : Nat) (hb : b < 13) (ht : t < 4) (hq : q < 3) (hj : j < 12) (hv : mu 5 (b * 4 + t) = nI j) (hk : mu 2 j = nI 1) (w : AV) : zsem (d + 1) 68 0 [.inr (some 1), .inl (nI b), .inl (nI s), .inl (nI (t * 3 + q)), w] [] (HH L mu p) = some (some (.inl (mu 7 (j * 3 + q))), HH L mu p) := by
  have e1 := part_div ht hq
  have e2 := @part_mod t q
  have e3 := n3_0
  simp (disch := first | omega | assumption) only [h68_0, h68_1, h68_2, h68_3, h68_4, h68_5, h68_8, h68_10, h68_11, h68_13, h68_16, h68_19, h68_20, h68_23, h68_25, h68_26, h68_27, h68_28, h68_31, h68_32, h68_33, h68_34, h68_36, h68_39, h68_42, h68_43, h68_46, h68_48, h68_49, h68_52, h68_53, h68_56, h68_57, Option.bind_some, Option.toList_some, Option.toList_none, List.cons_append, List.nil_append, nI_ltc, nI_lec, nI_eqc, nI_ne5, n5_ne, n5_lt, bI_0, bI_1, nI_add, pk_mul, if_pos, if_neg, ite_not, if_true, if_false, not_true_eq_false, not_false_eq_true, true_and, false_and, and_true, and_false, Nat.reduceAdd, Nat.reduceMul, e1, e2, z_deviceAt_n, hv, z_isCard_n, hk, z_regionIndex]
theorem z_csz_b (b s t q j : Nat) (hb : b < 13) (hs : s < 2) (ht : t < 4) (hq : q < 3) (hj : j < 12) (hv : mu 5 (b * 4 + t) = nI j) (hk : mu 2 j = nI 2) (w : AV) : zsem (d + 1) 68 0 [.inr (some 1), .inl (nI b), .inl (nI s), .inl (nI (t * 3 + q)), w] [] (HH L mu p) = some (some (.inl (mu 11 (j * 2 + s))), HH L mu p) := by
  have e1 := part_div ht hq
  have e2 := @part_mod t q
  have e3 := n3_0
  simp (disch := first | omega | assumption) only [h68_0, h68_1, h68_2, h68_3, h68_4, h68_5, h68_8, h68_10, h68_11, h68_13, h68_16, h68_19, h68_20, h68_23, h68_25, h68_26, h68_27, h68_28, h68_31, h68_32, h68_33, h68_34, h68_36, h68_39, h68_42, h68_43, h68_46, h68_48, h68_49, h68_52, h68_53, h68_56, h68_57, Option.bind_some, Option.toList_some, Option.toList_none, List.cons_append, List.nil_append, nI_ltc, nI_lec, nI_eqc, nI_ne5, n5_ne, n5_lt, bI_0, bI_1, nI_add, pk_mul, if_pos, if_neg, ite_not, if_true, if_false, not_true_eq_false, not_false_eq_true, true_and, false_and, and_true, and_false, Nat.reduceAdd, Nat.reduceMul, e1, e2, z_deviceAt_n, hv, z_isCard_n, z_isBridge_n, hk, z_windowIndex]
end
