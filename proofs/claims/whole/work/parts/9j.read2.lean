/-! the class's reader, sign by sign -/
theorem subI {a b : Nat} (ha : a < 1073741824) (hb : b < 1073741824) : (nI a - nI b).toInt = (a : Int) - (b : Int) := by
  rw [Int32.toInt_sub, nI_toInt (by omega), nI_toInt (by omega)]
  exact Int.bmod_eq_of_le (by omega) (by omega)
theorem le_ss {a b a' b' : Nat} (ha : a < 1073741824) (hb : b < 1073741824) (ha' : a' < 1073741824) (hb' : b' < 1073741824) : (nI a - nI b ≤ nI a' - nI b') = (a + b' ≤ a' + b) := by
  rw [Int32.le_iff_toInt_le, subI ha hb, subI ha' hb']
  apply propext
  omega
theorem lt_ss {a b e : Nat} (ha : a < 1073741824) (hb : b < 1073741824) (he : e < 1073741824) : (nI a - nI b < nI e) = (a < e + b) := by
  rw [Int32.lt_iff_toInt_lt, subI ha hb, nI_toInt (by omega)]
  apply propext
  omega
theorem le_sn {a b e : Nat} (ha : a < 1073741824) (hb : b < 1073741824) (he : e < 1073741824) : (nI a - nI b ≤ nI e) = (a ≤ e + b) := by
  rw [Int32.le_iff_toInt_le, subI ha hb, nI_toInt (by omega)]
  apply propext
  omega
theorem le_ns {a b e : Nat} (ha : a < 1073741824) (hb : b < 1073741824) (he : e < 1073741824) : (nI e ≤ nI a - nI b) = (e + b ≤ a) := by
  rw [Int32.le_iff_toInt_le, subI ha hb, nI_toInt (by omega)]
  apply propext
  omega
theorem le_ee {a b e : Nat} (ha : a < 1073741824) (hb : b < 1073741824) (he : e < 1073741824) : (nI e < nI a - nI b) = (e + b < a) := by
  rw [Int32.lt_iff_toInt_lt, subI ha hb, nI_toInt (by omega)]
  apply propext
  omega
section
variable (d L : Nat) (mu : RV) (p : Nat → Nat)
theorem z_tC (lv c : Nat) (hlv : mu 88 3 = nI lv) (h5 : lv ≤ 5) (hc : c < 128) : zsem d 80 0 [.inr (some 88), .inl (nI c)] [] (HH L mu p) = if c = 41 ∧ lv ≠ 0 then some (some (.inl (nI 1)), HH L (u2 (u2 mu 88 3 (nI (lv - 1))) 88 2 (nI 6)) p) else some (some (.inl (nI 0)), HH L mu p) := by
  by_cases q : c = 41
  · subst q
    by_cases q2 : lv = 0
    · subst q2
      rw [if_neg (fun h => h.2 rfl)]
      simp (disch := first | omega | assumption) only [h80_0, h80_1, h80_3, h80_6, h80_7, h80_10, h80_13, h80_14_0, h80_14_1, h80_14_b, h80_15, h80_16, h80_17, h80_20, h80_21, h80_22, h80_25, h80_26, h80_28, h80_31, h80_32_0, h80_32_1, h80_32_b, Option.bind_some, Option.toList_some, Option.toList_none, List.cons_append, List.nil_append, nI_ltc, nI_lec, nI_eqc, nI_ne5, n5_ne, n5_lt, bI_0, bI_1, nI_add, pk_mul, if_pos, if_neg, ite_not, if_true, if_false, not_true_eq_false, not_false_eq_true, true_and, false_and, and_true, and_false, Nat.reduceAdd, Nat.reduceMul, hlv]
    · rw [if_pos ⟨rfl, q2⟩]
      simp (disch := first | omega | assumption) only [h80_0, h80_1, h80_3, h80_6, h80_7, h80_10, h80_13, h80_14_0, h80_14_1, h80_14_b, h80_15, h80_16, h80_17, h80_20, h80_21, h80_22, h80_25, h80_26, h80_28, h80_31, h80_32_0, h80_32_1, h80_32_b, Option.bind_some, Option.toList_some, Option.toList_none, List.cons_append, List.nil_append, nI_ltc, nI_lec, nI_eqc, nI_ne5, n5_ne, n5_lt, bI_0, bI_1, nI_add, pk_mul, if_pos, if_neg, ite_not, if_true, if_false, not_true_eq_false, not_false_eq_true, true_and, false_and, and_true, and_false, Nat.reduceAdd, Nat.reduceMul, hlv, q2, nI_sub]
  · rw [if_neg (fun h => q h.1)]
    simp (disch := first | omega | assumption) only [h80_0, h80_1, h80_3, h80_6, h80_7, h80_10, h80_13, h80_14_0, h80_14_1, h80_14_b, h80_15, h80_16, h80_17, h80_20, h80_21, h80_22, h80_25, h80_26, h80_28, h80_31, h80_32_0, h80_32_1, h80_32_b, Option.bind_some, Option.toList_some, Option.toList_none, List.cons_append, List.nil_append, nI_ltc, nI_lec, nI_eqc, nI_ne5, n5_ne, n5_lt, bI_0, bI_1, nI_add, pk_mul, if_pos, if_neg, ite_not, if_true, if_false, not_true_eq_false, not_false_eq_true, true_and, false_and, and_true, and_false, Nat.reduceAdd, Nat.reduceMul, q]
theorem z_tE (lv c l1 : Nat) (hlv : mu 88 3 = nI lv) (h5 : lv ≤ 5) (hc : c < 128) (hls : mu 103 lv = nI l1 - nI 1) (hl1 : l1 ≤ 4) : zsem (d + 1) 86 0 [.inr (some 88), .inl (nI c)] [] (HH L mu p) = if c = 44 ∧ l1 < 4 then some (some (.inl (nI 1)), HH L (u2 mu 88 2 (nI 1)) p) else if c = 41 ∧ lv ≠ 0 then some (some (.inl (nI 1)), HH L (u2 (u2 mu 88 3 (nI (lv - 1))) 88 2 (nI 6)) p) else some (some (.inl (nI 0)), HH L mu p) := by
  have hC := z_tC d L mu p lv c hlv h5 hc
  by_cases q : c = 44
  · subst q
    by_cases q2 : l1 < 4
    · rw [if_pos ⟨rfl, q2⟩]
      have q3 : ¬(3 + 1 ≤ l1) := by omega
      simp (disch := first | omega | assumption) only [h86_0, h86_1, h86_3, h86_6, h86_7, h86_10, h86_11, h86_14, h86_15, h86_16, h86_19, h86_20, h86_21, h86_24, h86_25_0, h86_25_1, h86_25_b, h86_26, h86_27, h86_28, h86_31_0, h86_31_1, h86_31_b, Option.bind_some, Option.toList_some, Option.toList_none, List.cons_append, List.nil_append, nI_ltc, nI_lec, nI_eqc, nI_ne5, n5_ne, n5_lt, bI_0, bI_1, nI_add, pk_mul, if_pos, if_neg, ite_not, if_true, if_false, not_true_eq_false, not_false_eq_true, true_and, false_and, and_true, and_false, Nat.reduceAdd, Nat.reduceMul, hlv, hls, le_ns, q3]
    · rw [if_neg (fun h => q2 h.2)]
      have q3 : 3 + 1 ≤ l1 := by omega
      rw [← hC]
      rw [if_neg (by omega)] at hC
      simp (disch := first | omega | assumption) only [h86_0, h86_1, h86_3, h86_6, h86_7, h86_10, h86_11, h86_14, h86_15, h86_16, h86_19, h86_20, h86_21, h86_24, h86_25_0, h86_25_1, h86_25_b, h86_26, h86_27, h86_28, h86_31_0, h86_31_1, h86_31_b, Option.bind_some, Option.toList_some, Option.toList_none, List.cons_append, List.nil_append, nI_ltc, nI_lec, nI_eqc, nI_ne5, n5_ne, n5_lt, bI_0, bI_1, nI_add, pk_mul, if_pos, if_neg, ite_not, if_true, if_false, not_true_eq_false, not_false_eq_true, true_and, false_and, and_true, and_false, Nat.reduceAdd, Nat.reduceMul, hlv, hls, le_ns, q3, hC]
  · rw [if_neg (fun h => q h.1)]
    by_cases q3 : c = 41 ∧ lv ≠ 0
    · rw [if_pos q3] at hC ⊢
      simp (disch := first | omega | assumption) only [h86_0, h86_1, h86_3, h86_6, h86_7, h86_10, h86_11, h86_14, h86_15, h86_16, h86_19, h86_20, h86_21, h86_24, h86_25_0, h86_25_1, h86_25_b, h86_26, h86_27, h86_28, h86_31_0, h86_31_1, h86_31_b, Option.bind_some, Option.toList_some, Option.toList_none, List.cons_append, List.nil_append, nI_ltc, nI_lec, nI_eqc, nI_ne5, n5_ne, n5_lt, bI_0, bI_1, nI_add, pk_mul, if_pos, if_neg, ite_not, if_true, if_false, not_true_eq_false, not_false_eq_true, true_and, false_and, and_true, and_false, Nat.reduceAdd, Nat.reduceMul, q, hC]
    · rw [if_neg q3] at hC ⊢
      simp (disch := first | omega | assumption) only [h86_0, h86_1, h86_3, h86_6, h86_7, h86_10, h86_11, h86_14, h86_15, h86_16, h86_19, h86_20, h86_21, h86_24, h86_25_0, h86_25_1, h86_25_b, h86_26, h86_27, h86_28, h86_31_0, h86_31_1, h86_31_b, Option.bind_some, Option.toList_some, Option.toList_none, List.cons_append, List.nil_append, nI_ltc, nI_lec, nI_eqc, nI_ne5, n5_ne, n5_lt, bI_0, bI_1, nI_add, pk_mul, if_pos, if_neg, ite_not, if_true, if_false, not_true_eq_false, not_false_eq_true, true_and, false_and, and_true, and_false, Nat.reduceAdd, Nat.reduceMul, q, hC]
theorem z_tS (lv c l1 : Nat) (hlv : mu 88 3 = nI lv) (h5 : lv ≤ 5) (hc : c < 128) (hls : mu 103 lv = nI l1 - nI 1) (hl1 : l1 ≤ 4) : zsem d 81 0 [.inr (some 88), .inl (nI c), .inr none] [] (HH L mu p) = if lv < 5 ∧ 48 + l1 ≤ c ∧ c < 52 then some (some (.inl (nI 1)), HH L (u2 (u2 mu 103 lv (nI c - nI 48)) 88 2 (nI 2)) p) else some (some (.inl (nI 0)), HH L mu p) := by
  by_cases q1 : 5 ≤ lv
  · rw [if_neg (by omega)]
    simp (disch := first | omega | assumption) only [h81_0, h81_1, h81_3, h81_4, h81_5, h81_6, h81_9, h81_10, h81_13, h81_14, h81_15, h81_18, h81_19, h81_22, h81_23, h81_26, h81_27, h81_28, h81_31, h81_32_0, h81_32_1, h81_32_b, h81_33, h81_34, h81_37, h81_38, h81_41, h81_42, h81_43, h81_44, h81_45, h81_48, h81_49_0, h81_49_1, h81_49_b, Option.bind_some, Option.toList_some, Option.toList_none, List.cons_append, List.nil_append, nI_ltc, nI_lec, nI_eqc, nI_ne5, n5_ne, n5_lt, bI_0, bI_1, nI_add, pk_mul, if_pos, if_neg, ite_not, if_true, if_false, not_true_eq_false, not_false_eq_true, true_and, false_and, and_true, and_false, Nat.reduceAdd, Nat.reduceMul, hlv, q1]
  · by_cases q2 : c + 1 ≤ l1 + 48
    · rw [if_neg (by omega)]
      simp (disch := first | omega | assumption) only [h81_0, h81_1, h81_3, h81_4, h81_5, h81_6, h81_9, h81_10, h81_13, h81_14, h81_15, h81_18, h81_19, h81_22, h81_23, h81_26, h81_27, h81_28, h81_31, h81_32_0, h81_32_1, h81_32_b, h81_33, h81_34, h81_37, h81_38, h81_41, h81_42, h81_43, h81_44, h81_45, h81_48, h81_49_0, h81_49_1, h81_49_b, Option.bind_some, Option.toList_some, Option.toList_none, List.cons_append, List.nil_append, nI_ltc, nI_lec, nI_eqc, nI_ne5, n5_ne, n5_lt, bI_0, bI_1, nI_add, pk_mul, if_pos, if_neg, ite_not, if_true, if_false, not_true_eq_false, not_false_eq_true, true_and, false_and, and_true, and_false, Nat.reduceAdd, Nat.reduceMul, hlv, hls, le_ss, q1, q2]
    · by_cases q3 : c < 4 + 48
      · rw [if_pos (by omega)]
        simp (disch := first | omega | assumption) only [h81_0, h81_1, h81_3, h81_4, h81_5, h81_6, h81_9, h81_10, h81_13, h81_14, h81_15, h81_18, h81_19, h81_22, h81_23, h81_26, h81_27, h81_28, h81_31, h81_32_0, h81_32_1, h81_32_b, h81_33, h81_34, h81_37, h81_38, h81_41, h81_42, h81_43, h81_44, h81_45, h81_48, h81_49_0, h81_49_1, h81_49_b, Option.bind_some, Option.toList_some, Option.toList_none, List.cons_append, List.nil_append, nI_ltc, nI_lec, nI_eqc, nI_ne5, n5_ne, n5_lt, bI_0, bI_1, nI_add, pk_mul, if_pos, if_neg, ite_not, if_true, if_false, not_true_eq_false, not_false_eq_true, true_and, false_and, and_true, and_false, Nat.reduceAdd, Nat.reduceMul, hlv, hls, le_ss, lt_ss, q1, q2, q3]
      · rw [if_neg (by omega)]
        simp (disch := first | omega | assumption) only [h81_0, h81_1, h81_3, h81_4, h81_5, h81_6, h81_9, h81_10, h81_13, h81_14, h81_15, h81_18, h81_19, h81_22, h81_23, h81_26, h81_27, h81_28, h81_31, h81_32_0, h81_32_1, h81_32_b, h81_33, h81_34, h81_37, h81_38, h81_41, h81_42, h81_43, h81_44, h81_45, h81_48, h81_49_0, h81_49_1, h81_49_b, Option.bind_some, Option.toList_some, Option.toList_none, List.cons_append, List.nil_append, nI_ltc, nI_lec, nI_eqc, nI_ne5, n5_ne, n5_lt, bI_0, bI_1, nI_add, pk_mul, if_pos, if_neg, ite_not, if_true, if_false, not_true_eq_false, not_false_eq_true, true_and, false_and, and_true, and_false, Nat.reduceAdd, Nat.reduceMul, hlv, hls, le_ss, lt_ss, q1, q2, q3]
theorem z_addTo (lv cn b l1 : Nat) (k : Int32) (hlv : mu 88 3 = nI lv) (h5 : lv ≤ 5) (hcn : mu 88 1 = nI cn) (hc : cn < 1000) (hob : mu 102 lv = nI b) (hls : mu 103 lv = nI l1 - nI 1) (hl1 : 1 ≤ l1 ∧ l1 ≤ 4) (hb : cn < 12 → b < 13) : zsem (d + 1) 83 0 [.inr (some 88), .inl k] [] (HH L mu p) = some (none, HH L (u2 (if cn < 12 then u2 (u2 (u2 (u2 mu 90 cn k) 91 cn (nI b)) 92 cn (nI (l1 - 1))) 93 (b * 4 + (l1 - 1)) (nI cn) else mu) 88 1 (nI (cn + 1))) p) := by
  by_cases q : cn < 12
  · have q' : ¬12 ≤ cn := by omega
    have hb := hb q
    have hp := z_put d L mu p 89 cn b (l1 - 1) k (by unfold isRk; omega) q hb (by omega)
    have hls' : mu 103 lv = nI (l1 - 1) := by rw [hls, nI_sub (by omega)]
    rw [if_pos q]
    simp (disch := first | omega | assumption) only [h83_0, h83_1, h83_4, h83_6, h83_9, h83_10, h83_13, h83_14, h83_17, h83_18, h83_19, h83_22, h83_23, h83_26, h83_27, h83_28, h83_31, h83_32, h83_35, h83_36, h83_39, h83_40, h83_41, h83_44, h83_45, h83_46, h83_49, Option.bind_some, Option.toList_some, Option.toList_none, List.cons_append, List.nil_append, nI_ltc, nI_lec, nI_eqc, nI_ne5, n5_ne, n5_lt, bI_0, bI_1, nI_add, pk_mul, if_pos, if_neg, ite_not, if_true, if_false, not_true_eq_false, not_false_eq_true, true_and, false_and, and_true, and_false, Nat.reduceAdd, Nat.reduceMul, hlv, hcn, hob, hls', q', hp, u2_oa]
  · have q' : 12 ≤ cn := by omega
    rw [if_neg q]
    simp (disch := first | omega | assumption) only [h83_0, h83_1, h83_4, h83_6, h83_9, h83_10, h83_13, h83_14, h83_17, h83_18, h83_19, h83_22, h83_23, h83_26, h83_27, h83_28, h83_31, h83_32, h83_35, h83_36, h83_39, h83_40, h83_41, h83_44, h83_45, h83_46, h83_49, Option.bind_some, Option.toList_some, Option.toList_none, List.cons_append, List.nil_append, nI_ltc, nI_lec, nI_eqc, nI_ne5, n5_ne, n5_lt, bI_0, bI_1, nI_add, pk_mul, if_pos, if_neg, ite_not, if_true, if_false, not_true_eq_false, not_false_eq_true, true_and, false_and, and_true, and_false, Nat.reduceAdd, Nat.reduceMul, hcn, q']
theorem z_bB (lv b : Nat) (hlv : mu 88 3 = nI lv) (h5 : lv ≤ 5) : zsem d 78 0 [.inr (some 88), .inl (nI b)] [] (HH L mu p) = some (none, HH L (u2 (u2 (u2 mu 102 lv (nI b)) 103 lv (-1)) 88 2 (nI 0)) p) := by
  simp (disch := first | omega | assumption) only [h78_0, h78_1, h78_4, h78_5, h78_8, h78_9, h78_10, h78_11, h78_14, h78_15, h78_18, h78_19, h78_20, h78_21, h78_22, h78_25, Option.bind_some, Option.toList_some, Option.toList_none, List.cons_append, List.nil_append, nI_ltc, nI_lec, nI_eqc, nI_ne5, n5_ne, n5_lt, bI_0, bI_1, nI_add, pk_mul, if_pos, if_neg, ite_not, if_true, if_false, not_true_eq_false, not_false_eq_true, true_and, false_and, and_true, and_false, Nat.reduceAdd, Nat.reduceMul, hlv, u2_oa]
theorem z_tO (lv c cn : Nat) (hlv : mu 88 3 = nI lv) (h5 : lv ≤ 5) (hc : c < 128) (hcn : mu 88 1 = nI cn) (h1 : 1 ≤ cn) : zsem (d + 1) 84 0 [.inr (some 88), .inl (nI c)] [] (HH L mu p) = if c = 40 ∧ lv < 5 then some (some (.inl (nI 1)), HH L (u2 (u2 (u2 (u2 mu 88 3 (nI (lv + 1))) 102 (lv + 1) (nI (cn - 1))) 103 (lv + 1) (-1)) 88 2 (nI 0)) p) else some (some (.inl (nI 0)), HH L mu p) := by
  by_cases q : c = 40
  · subst q
    by_cases q2 : lv < 5
    · rw [if_pos ⟨rfl, q2⟩]
      have hB := z_bB d L (u2 mu 88 3 (nI (lv + 1))) p (lv + 1) (cn - 1) (u2_s _ _ _ _) (by omega)
      have q3 : u2 mu 88 3 (nI (lv + 1)) 88 1 = nI cn := by rw [u2_o _ _ (by omega)]; exact hcn
      simp (disch := first | omega | assumption) only [h84_0, h84_1, h84_3, h84_6, h84_7, h84_10, h84_11, h84_14, h84_15_0, h84_15_1, h84_15_b, h84_16, h84_17, h84_18, h84_21, h84_22, h84_23, h84_26, h84_27, h84_28, h84_31, h84_32, h84_33, h84_36, h84_37_0, h84_37_1, h84_37_b, Option.bind_some, Option.toList_some, Option.toList_none, List.cons_append, List.nil_append, nI_ltc, nI_lec, nI_eqc, nI_ne5, n5_ne, n5_lt, bI_0, bI_1, nI_add, pk_mul, if_pos, if_neg, ite_not, if_true, if_false, not_true_eq_false, not_false_eq_true, true_and, false_and, and_true, and_false, Nat.reduceAdd, Nat.reduceMul, hlv, q2, q3, nI_sub, hB]
    · rw [if_neg (fun h => q2 h.2)]
      simp (disch := first | omega | assumption) only [h84_0, h84_1, h84_3, h84_6, h84_7, h84_10, h84_11, h84_14, h84_15_0, h84_15_1, h84_15_b, h84_16, h84_17, h84_18, h84_21, h84_22, h84_23, h84_26, h84_27, h84_28, h84_31, h84_32, h84_33, h84_36, h84_37_0, h84_37_1, h84_37_b, Option.bind_some, Option.toList_some, Option.toList_none, List.cons_append, List.nil_append, nI_ltc, nI_lec, nI_eqc, nI_ne5, n5_ne, n5_lt, bI_0, bI_1, nI_add, pk_mul, if_pos, if_neg, ite_not, if_true, if_false, not_true_eq_false, not_false_eq_true, true_and, false_and, and_true, and_false, Nat.reduceAdd, Nat.reduceMul, hlv, q2]
  · rw [if_neg (fun h => q h.1)]
    simp (disch := first | omega | assumption) only [h84_0, h84_1, h84_3, h84_6, h84_7, h84_10, h84_11, h84_14, h84_15_0, h84_15_1, h84_15_b, h84_16, h84_17, h84_18, h84_21, h84_22, h84_23, h84_26, h84_27, h84_28, h84_31, h84_32, h84_33, h84_36, h84_37_0, h84_37_1, h84_37_b, Option.bind_some, Option.toList_some, Option.toList_none, List.cons_append, List.nil_append, nI_ltc, nI_lec, nI_eqc, nI_ne5, n5_ne, n5_lt, bI_0, bI_1, nI_add, pk_mul, if_pos, if_neg, ite_not, if_true, if_false, not_true_eq_false, not_false_eq_true, true_and, false_and, and_true, and_false, Nat.reduceAdd, Nat.reduceMul, q]
theorem z_tP (rg c : Nat) (hrg : mu 88 6 = nI rg) (h3 : rg ≤ 3) (hc : c < 128) : zsem d 85 0 [.inr (some 88), .inl (nI c)] [] (HH L mu p) = if rg < 3 ∧ (c = 109 ∨ c = 112) then some (some (.inl (nI 1)), HH L (u2 (u2 mu 88 7 (nI (if c = 109 then 0 else 1))) 88 2 (nI 5)) p) else some (some (.inl (nI 0)), HH L mu p) := by
  by_cases q : 3 ≤ rg
  · rw [if_neg (by omega)]
    simp (disch := first | omega | assumption) only [h85_0, h85_1, h85_4, h85_5, h85_8, h85_9, h85_11, h85_14, h85_15, h85_17, h85_20, h85_21_0, h85_21_1, h85_21_b, h85_22, h85_23, h85_24, h85_26, h85_29, h85_30, h85_33, h85_34, h85_37, h85_38, h85_39, h85_42, h85_43_0, h85_43_1, h85_43_b, Option.bind_some, Option.toList_some, Option.toList_none, List.cons_append, List.nil_append, nI_ltc, nI_lec, nI_eqc, nI_ne5, n5_ne, n5_lt, bI_0, bI_1, nI_add, pk_mul, if_pos, if_neg, ite_not, if_true, if_false, not_true_eq_false, not_false_eq_true, true_and, false_and, and_true, and_false, Nat.reduceAdd, Nat.reduceMul, hrg, q]
  · by_cases q2 : c = 109
    · subst q2
      rw [if_pos (by omega), if_pos rfl]
      simp (disch := first | omega | assumption) only [h85_0, h85_1, h85_4, h85_5, h85_8, h85_9, h85_11, h85_14, h85_15, h85_17, h85_20, h85_21_0, h85_21_1, h85_21_b, h85_22, h85_23, h85_24, h85_26, h85_29, h85_30, h85_33, h85_34, h85_37, h85_38, h85_39, h85_42, h85_43_0, h85_43_1, h85_43_b, Option.bind_some, Option.toList_some, Option.toList_none, List.cons_append, List.nil_append, nI_ltc, nI_lec, nI_eqc, nI_ne5, n5_ne, n5_lt, bI_0, bI_1, nI_add, pk_mul, if_pos, if_neg, ite_not, if_true, if_false, not_true_eq_false, not_false_eq_true, true_and, false_and, and_true, and_false, Nat.reduceAdd, Nat.reduceMul, hrg, q]
    · by_cases q3 : c = 112
      · subst q3
        rw [if_pos (by omega), if_neg (by omega)]
        simp (disch := first | omega | assumption) only [h85_0, h85_1, h85_4, h85_5, h85_8, h85_9, h85_11, h85_14, h85_15, h85_17, h85_20, h85_21_0, h85_21_1, h85_21_b, h85_22, h85_23, h85_24, h85_26, h85_29, h85_30, h85_33, h85_34, h85_37, h85_38, h85_39, h85_42, h85_43_0, h85_43_1, h85_43_b, Option.bind_some, Option.toList_some, Option.toList_none, List.cons_append, List.nil_append, nI_ltc, nI_lec, nI_eqc, nI_ne5, n5_ne, n5_lt, bI_0, bI_1, nI_add, pk_mul, if_pos, if_neg, ite_not, if_true, if_false, not_true_eq_false, not_false_eq_true, true_and, false_and, and_true, and_false, Nat.reduceAdd, Nat.reduceMul, hrg, q]
      · rw [if_neg (by omega)]
        simp (disch := first | omega | assumption) only [h85_0, h85_1, h85_4, h85_5, h85_8, h85_9, h85_11, h85_14, h85_15, h85_17, h85_20, h85_21_0, h85_21_1, h85_21_b, h85_22, h85_23, h85_24, h85_26, h85_29, h85_30, h85_33, h85_34, h85_37, h85_38, h85_39, h85_42, h85_43_0, h85_43_1, h85_43_b, Option.bind_some, Option.toList_some, Option.toList_none, List.cons_append, List.nil_append, nI_ltc, nI_lec, nI_eqc, nI_ne5, n5_ne, n5_lt, bI_0, bI_1, nI_add, pk_mul, if_pos, if_neg, ite_not, if_true, if_false, not_true_eq_false, not_false_eq_true, true_and, false_and, and_true, and_false, Nat.reduceAdd, Nat.reduceMul, hrg, q, q2, q3]
theorem z_tK (lv c cn b l1 : Nat) (hlv : mu 88 3 = nI lv) (h5 : lv ≤ 5) (hc : c < 128) (hcn : mu 88 1 = nI cn) (hcn2 : cn < 1000) (hob : mu 102 lv = nI b) (hls : mu 103 lv = nI l1 - nI 1) (hl1 : 1 ≤ l1 ∧ l1 ≤ 4) (hb : cn < 12 → b < 13) : zsem (d + 2) 82 0 [.inr (some 88), .inl (nI c)] [] (HH L mu p) = if c = 99 then some (some (.inl (nI 1)), HH L (u2 (u2 (u2 (if cn < 12 then u2 (u2 (u2 (u2 mu 90 cn (nI 1)) 91 cn (nI b)) 92 cn (nI (l1 - 1))) 93 (b * 4 + (l1 - 1)) (nI cn) else mu) 88 1 (nI (cn + 1))) 88 6 (nI 0)) 88 2 (nI 4)) p) else if c = 98 then some (some (.inl (nI 1)), HH L (u2 (u2 (if cn < 12 then u2 (u2 (u2 (u2 mu 90 cn (nI 2)) 91 cn (nI b)) 92 cn (nI (l1 - 1))) 93 (b * 4 + (l1 - 1)) (nI cn) else mu) 88 1 (nI (cn + 1))) 88 2 (nI 3)) p) else some (some (.inl (nI 0)), HH L mu p) := by
  have hA := fun k => z_addTo d L mu p lv cn b l1 k hlv h5 hcn hcn2 hob hls hl1 hb
  by_cases q : c = 99
  · subst q
    rw [if_pos rfl]
    simp (disch := first | omega | assumption) only [h82_0, h82_1, h82_3, h82_6, h82_7, h82_8, h82_11, h82_12, h82_13, h82_16, h82_17, h82_18, h82_21, h82_22_0, h82_22_1, h82_22_b, h82_23, h82_24, h82_26, h82_29, h82_30, h82_31, h82_34, h82_35, h82_36, h82_39, h82_40_0, h82_40_1, h82_40_b, h82_41, h82_42_0, h82_42_1, h82_42_b, Option.bind_some, Option.toList_some, Option.toList_none, List.cons_append, List.nil_append, nI_ltc, nI_lec, nI_eqc, nI_ne5, n5_ne, n5_lt, bI_0, bI_1, nI_add, pk_mul, if_pos, if_neg, ite_not, if_true, if_false, not_true_eq_false, not_false_eq_true, true_and, false_and, and_true, and_false, Nat.reduceAdd, Nat.reduceMul, hA]
  · rw [if_neg q]
    by_cases q2 : c = 98
    · subst q2
      rw [if_pos rfl]
      simp (disch := first | omega | assumption) only [h82_0, h82_1, h82_3, h82_6, h82_7, h82_8, h82_11, h82_12, h82_13, h82_16, h82_17, h82_18, h82_21, h82_22_0, h82_22_1, h82_22_b, h82_23, h82_24, h82_26, h82_29, h82_30, h82_31, h82_34, h82_35, h82_36, h82_39, h82_40_0, h82_40_1, h82_40_b, h82_41, h82_42_0, h82_42_1, h82_42_b, Option.bind_some, Option.toList_some, Option.toList_none, List.cons_append, List.nil_append, nI_ltc, nI_lec, nI_eqc, nI_ne5, n5_ne, n5_lt, bI_0, bI_1, nI_add, pk_mul, if_pos, if_neg, ite_not, if_true, if_false, not_true_eq_false, not_false_eq_true, true_and, false_and, and_true, and_false, Nat.reduceAdd, Nat.reduceMul, hA]
    · rw [if_neg q2]
      simp (disch := first | omega | assumption) only [h82_0, h82_1, h82_3, h82_6, h82_7, h82_8, h82_11, h82_12, h82_13, h82_16, h82_17, h82_18, h82_21, h82_22_0, h82_22_1, h82_22_b, h82_23, h82_24, h82_26, h82_29, h82_30, h82_31, h82_34, h82_35, h82_36, h82_39, h82_40_0, h82_40_1, h82_40_b, h82_41, h82_42_0, h82_42_1, h82_42_b, Option.bind_some, Option.toList_some, Option.toList_none, List.cons_append, List.nil_append, nI_ltc, nI_lec, nI_eqc, nI_ne5, n5_ne, n5_lt, bI_0, bI_1, nI_add, pk_mul, if_pos, if_neg, ite_not, if_true, if_false, not_true_eq_false, not_false_eq_true, true_and, false_and, and_true, and_false, Nat.reduceAdd, Nat.reduceMul, q, q2]
theorem z_tX (c cn rg sp : Nat) (hc : c < 128) (hcn : mu 88 1 = nI cn) (hcn2 : 1 ≤ cn ∧ cn < 1000) (hrg : mu 88 6 = nI rg) (h3 : rg < 3) (hsp : mu 88 7 = nI sp) (hs : sp < 2) : zsem (d + 2) 87 0 [.inr (some 88), .inl (nI c), .inr none] [] (HH L mu p) = if 48 ≤ c ∧ c ≤ 48 + lex sp then some (some (.inl (nI 1)), HH L (u2 (u2 (if cn ≤ 12 then u2 (u2 (u2 mu 94 ((cn - 1) * 3 + rg) (nI sp)) 95 ((cn - 1) * 3 + rg) (nI (grn sp * 2 ^ (c - 48)))) 96 ((cn - 1) * 3 + rg) (-5) else mu) 88 6 (nI (rg + 1))) 88 2 (nI 4)) p) else some (some (.inl (nI 0)), HH L mu p) := by
  have hlex : lex sp ≤ 6 := by unfold lex; split <;> omega
  have e1 := z_largestExponentOf (d + 1) L mu p sp hs
  have e2 := z_grainOf (d + 1) L mu p sp hs
  by_cases q1 : c < 0 + 48
  · rw [if_neg (by omega)]
    simp (disch := first | omega | assumption) only [h87_0, h87_1, h87_3, h87_4, h87_5, h87_6, h87_9, h87_10, h87_11, h87_14, h87_17, h87_20, h87_21_0, h87_21_1, h87_21_b, h87_22, h87_23, h87_26, h87_28, h87_31, h87_32, h87_35, h87_36, h87_39, h87_40, h87_41, h87_42, h87_45, h87_46, h87_49, h87_50, h87_53, h87_56, h87_57, h87_58, h87_61, h87_62, h87_63, h87_66, h87_67, h87_68, h87_71, h87_72, h87_73, h87_76, h87_77_0, h87_77_1, h87_77_b, Option.bind_some, Option.toList_some, Option.toList_none, List.cons_append, List.nil_append, nI_ltc, nI_lec, nI_eqc, nI_ne5, n5_ne, n5_lt, bI_0, bI_1, nI_add, pk_mul, if_pos, if_neg, ite_not, if_true, if_false, not_true_eq_false, not_false_eq_true, true_and, false_and, and_true, and_false, Nat.reduceAdd, Nat.reduceMul, lt_ss, q1]
  · by_cases q2 : c ≤ lex sp + 48
    · rw [if_pos (by omega)]
      have e3 := shl_ok sp (c - 48) hs (by omega)
      have e4 : nI c - nI 48 = nI (c - 48) := nI_sub (by omega)
      have q3 : c - 48 ≤ lex sp := by omega
      have q4 : ¬c - 48 < 0 := by omega
      by_cases q5 : cn ≤ 12
      · have q6 : ¬12 < cn := by omega
        have e5 := z_changeRegion d L mu p 89 (cn - 1) rg (nI sp) (nI (grn sp * 2 ^ (c - 48))) (by unfold isRk; omega) (by omega) h3
        have e6 : nI cn - nI 1 = nI (cn - 1) := nI_sub (by omega)
        rw [if_pos q5]
        simp (disch := first | omega | assumption) only [h87_0, h87_1, h87_3, h87_4, h87_5, h87_6, h87_9, h87_10, h87_11, h87_14, h87_17, h87_20, h87_21_0, h87_21_1, h87_21_b, h87_22, h87_23, h87_26, h87_28, h87_31, h87_32, h87_35, h87_36, h87_39, h87_40, h87_41, h87_42, h87_45, h87_46, h87_49, h87_50, h87_53, h87_56, h87_57, h87_58, h87_61, h87_62, h87_63, h87_66, h87_67, h87_68, h87_71, h87_72, h87_73, h87_76, h87_77_0, h87_77_1, h87_77_b, Option.bind_some, Option.toList_some, Option.toList_none, List.cons_append, List.nil_append, nI_ltc, nI_lec, nI_eqc, nI_ne5, n5_ne, n5_lt, bI_0, bI_1, nI_add, pk_mul, if_pos, if_neg, ite_not, if_true, if_false, not_true_eq_false, not_false_eq_true, true_and, false_and, and_true, and_false, Nat.reduceAdd, Nat.reduceMul, e4, e6, hsp, hrg, hcn, e1, e2, e3, e5, q3, q4, q6, u2_oa]
      · have q6 : 12 < cn := by omega
        rw [if_neg q5]
        simp (disch := first | omega | assumption) only [h87_0, h87_1, h87_3, h87_4, h87_5, h87_6, h87_9, h87_10, h87_11, h87_14, h87_17, h87_20, h87_21_0, h87_21_1, h87_21_b, h87_22, h87_23, h87_26, h87_28, h87_31, h87_32, h87_35, h87_36, h87_39, h87_40, h87_41, h87_42, h87_45, h87_46, h87_49, h87_50, h87_53, h87_56, h87_57, h87_58, h87_61, h87_62, h87_63, h87_66, h87_67, h87_68, h87_71, h87_72, h87_73, h87_76, h87_77_0, h87_77_1, h87_77_b, Option.bind_some, Option.toList_some, Option.toList_none, List.cons_append, List.nil_append, nI_ltc, nI_lec, nI_eqc, nI_ne5, n5_ne, n5_lt, bI_0, bI_1, nI_add, pk_mul, if_pos, if_neg, ite_not, if_true, if_false, not_true_eq_false, not_false_eq_true, true_and, false_and, and_true, and_false, Nat.reduceAdd, Nat.reduceMul, e4, hsp, hrg, hcn, e1, q3, q4, q6]
    · rw [if_neg (by omega)]
      simp (disch := first | omega | assumption) only [h87_0, h87_1, h87_3, h87_4, h87_5, h87_6, h87_9, h87_10, h87_11, h87_14, h87_17, h87_20, h87_21_0, h87_21_1, h87_21_b, h87_22, h87_23, h87_26, h87_28, h87_31, h87_32, h87_35, h87_36, h87_39, h87_40, h87_41, h87_42, h87_45, h87_46, h87_49, h87_50, h87_53, h87_56, h87_57, h87_58, h87_61, h87_62, h87_63, h87_66, h87_67, h87_68, h87_71, h87_72, h87_73, h87_76, h87_77_0, h87_77_1, h87_77_b, Option.bind_some, Option.toList_some, Option.toList_none, List.cons_append, List.nil_append, nI_ltc, nI_lec, nI_eqc, nI_ne5, n5_ne, n5_lt, bI_0, bI_1, nI_add, pk_mul, if_pos, if_neg, ite_not, if_true, if_false, not_true_eq_false, not_false_eq_true, true_and, false_and, and_true, and_false, Nat.reduceAdd, Nat.reduceMul, hsp, e1, lt_ss, le_sn, q1, q2]
end
