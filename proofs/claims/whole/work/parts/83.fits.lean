/-! fits: one start -/
section
variable (d L : Nat) (mu : RV) (p : Nat → Nat)
theorem m_fitsI (b : Int32) (s al u c : Nat) (hs : s < 2) (hu : u + c ≤ 256) (hal : al ≤ 4096) : ∀ m i, i + m = c → (∀ t, t < i → mu 114 (u + t) = nI 1) →
    ((∀ t, t < c → mu 114 (u + t) = nI 1) ∧ zsem (d + 1) 159 27 [.inr (some 105), .inl b, .inl (nI s), .inl (nI (grn s * c)), .inl (nI al), .inl (nI (grn s * u)), .inl (nI 1), .inl (nI (grn s * u + grn s * i))] [] (HH L mu p) = some (some (.inl (nI (grn s * u))), HH L mu p)) ∨
    ((∃ t, t < c ∧ ¬mu 114 (u + t) = nI 1) ∧ ∃ w w' : AV, zsem (d + 1) 159 27 [.inr (some 105), .inl b, .inl (nI s), .inl (nI (grn s * c)), .inl (nI al), .inl (nI (grn s * u)), .inl (nI 1), .inl (nI (grn s * u + grn s * i))] [] (HH L mu p) = zsem (d + 1) 159 9 [.inr (some 105), .inl b, .inl (nI s), .inl (nI (grn s * c)), .inl (nI al), .inl (nI (grn s * u + al)), w, w'] [] (HH L mu p)) := by
  have hg := @grn_le s
  have hg0 := grn_ne0 s
  have b1 : grn s * u ≤ 16 * 256 := Nat.mul_le_mul hg.2 (by omega)
  have b2 : grn s * c ≤ 16 * 256 := Nat.mul_le_mul hg.2 (by omega)
  intro m
  induction m with
  | zero =>
    intro i hi hf
    have : i = c := by omega
    subst this
    refine Or.inl ⟨hf, ?_⟩
    rw [h159_27]
    simp (disch := first | omega | assumption) only [h159_0, h159_1, h159_2, h159_3, h159_6, h159_7, h159_11, h159_12, h159_13, h159_14, h159_17, h159_20, h159_21, h159_23, h159_25, h159_29, h159_31, h159_32, h159_33, h159_36, h159_38, h159_41, h159_42, h159_45, h159_47, h159_48, h159_51, h159_52, h159_53, h159_54, h159_57, h159_58, h159_61, h159_62, h159_64, h159_66, h159_67, h159_70, h159_71, h159_73, h159_76, h159_78, h159_81, h159_83, h159_84, h159_86, h159_88, h159_89, h159_91, h159_94, h159_96, Option.bind_some, Option.toList_some, Option.toList_none, List.cons_append, List.nil_append, nI_ltc, nI_lec, nI_eqc, nI_ne5, n5_ne, n5_lt, bI_0, bI_1, nI_add, pk_mul, if_pos, if_neg, ite_not, if_true, if_false, not_true_eq_false, not_false_eq_true, true_and, false_and, and_true, and_false, Nat.reduceAdd, Nat.reduceMul]
  | succ m ih =>
    intro i hi hf
    have b3 : grn s * i + grn s ≤ grn s * c := by
      have : grn s * (i + 1) ≤ grn s * c := Nat.mul_le_mul_left _ (by omega)
      rw [Nat.mul_add, Nat.mul_one] at this
      exact this
    have e : grn s * u + grn s * (i + 1) = grn s * u + grn s * i + grn s := by rw [Nat.mul_add, Nat.mul_one]; omega
    have hd : nI (grn s * u + grn s * i) / nI (grn s) = nI (u + i) := by
      rw [nI_div (by omega) (by omega) (by omega), ← Nat.mul_add, Nat.mul_div_cancel_left _ (by omega)]
    by_cases h1 : mu 114 (u + i) = nI 1
    · have e1 : zsem (d + 1) 159 27 [.inr (some 105), .inl b, .inl (nI s), .inl (nI (grn s * c)), .inl (nI al), .inl (nI (grn s * u)), .inl (nI 1), .inl (nI (grn s * u + grn s * i))] [] (HH L mu p) = zsem (d + 1) 159 27 [.inr (some 105), .inl b, .inl (nI s), .inl (nI (grn s * c)), .inl (nI al), .inl (nI (grn s * u)), .inl (nI 1), .inl (nI (grn s * u + grn s * (i + 1)))] [] (HH L mu p) := by
        rw [h159_27, e]
        simp (disch := first | omega | assumption) only [h159_0, h159_1, h159_2, h159_3, h159_6, h159_7, h159_11, h159_12, h159_13, h159_14, h159_17, h159_20, h159_21, h159_23, h159_25, h159_29, h159_31, h159_32, h159_33, h159_36, h159_38, h159_41, h159_42, h159_45, h159_47, h159_48, h159_51, h159_52, h159_53, h159_54, h159_57, h159_58, h159_61, h159_62, h159_64, h159_66, h159_67, h159_70, h159_71, h159_73, h159_76, h159_78, h159_81, h159_83, h159_84, h159_86, h159_88, h159_89, h159_91, h159_94, h159_96, Option.bind_some, Option.toList_some, Option.toList_none, List.cons_append, List.nil_append, nI_ltc, nI_lec, nI_eqc, nI_ne5, n5_ne, n5_lt, bI_0, bI_1, nI_add, pk_mul, if_pos, if_neg, ite_not, if_true, if_false, not_true_eq_false, not_false_eq_true, true_and, false_and, and_true, and_false, Nat.reduceAdd, Nat.reduceMul, m_grain, hd, h1]
      rw [e1]
      refine ih (i + 1) (by omega) (fun t ht => ?_)
      by_cases q : t = i
      · rw [q]; exact h1
      · exact hf t (by omega)
    · refine Or.inr ⟨⟨i, by omega, h1⟩, .inl (nI 0), .inl (nI (grn s * u + grn s * i + grn s)), ?_⟩
      rw [h159_27]
      simp (disch := first | omega | assumption) only [h159_0, h159_1, h159_2, h159_3, h159_6, h159_7, h159_11, h159_12, h159_13, h159_14, h159_17, h159_20, h159_21, h159_23, h159_25, h159_29, h159_31, h159_32, h159_33, h159_36, h159_38, h159_41, h159_42, h159_45, h159_47, h159_48, h159_51, h159_52, h159_53, h159_54, h159_57, h159_58, h159_61, h159_62, h159_64, h159_66, h159_67, h159_70, h159_71, h159_73, h159_76, h159_78, h159_81, h159_83, h159_84, h159_86, h159_88, h159_89, h159_91, h159_94, h159_96, Option.bind_some, Option.toList_some, Option.toList_none, List.cons_append, List.nil_append, nI_ltc, nI_lec, nI_eqc, nI_ne5, n5_ne, n5_lt, bI_0, bI_1, nI_add, pk_mul, if_pos, if_neg, ite_not, if_true, if_false, not_true_eq_false, not_false_eq_true, true_and, false_and, and_true, and_false, Nat.reduceAdd, Nat.reduceMul, m_grain, hd, h1]
      rw [h159_27]
      by_cases h2 : grn s * u + grn s * i + grn s < grn s * u + grn s * c
      · simp (disch := first | omega | assumption) only [h159_0, h159_1, h159_2, h159_3, h159_6, h159_7, h159_11, h159_12, h159_13, h159_14, h159_17, h159_20, h159_21, h159_23, h159_25, h159_29, h159_31, h159_32, h159_33, h159_36, h159_38, h159_41, h159_42, h159_45, h159_47, h159_48, h159_51, h159_52, h159_53, h159_54, h159_57, h159_58, h159_61, h159_62, h159_64, h159_66, h159_67, h159_70, h159_71, h159_73, h159_76, h159_78, h159_81, h159_83, h159_84, h159_86, h159_88, h159_89, h159_91, h159_94, h159_96, Option.bind_some, Option.toList_some, Option.toList_none, List.cons_append, List.nil_append, nI_ltc, nI_lec, nI_eqc, nI_ne5, n5_ne, n5_lt, bI_0, bI_1, nI_add, pk_mul, if_pos, if_neg, ite_not, if_true, if_false, not_true_eq_false, not_false_eq_true, true_and, false_and, and_true, and_false, Nat.reduceAdd, Nat.reduceMul]
      · simp (disch := first | omega | assumption) only [h159_0, h159_1, h159_2, h159_3, h159_6, h159_7, h159_11, h159_12, h159_13, h159_14, h159_17, h159_20, h159_21, h159_23, h159_25, h159_29, h159_31, h159_32, h159_33, h159_36, h159_38, h159_41, h159_42, h159_45, h159_47, h159_48, h159_51, h159_52, h159_53, h159_54, h159_57, h159_58, h159_61, h159_62, h159_64, h159_66, h159_67, h159_70, h159_71, h159_73, h159_76, h159_78, h159_81, h159_83, h159_84, h159_86, h159_88, h159_89, h159_91, h159_94, h159_96, Option.bind_some, Option.toList_some, Option.toList_none, List.cons_append, List.nil_append, nI_ltc, nI_lec, nI_eqc, nI_ne5, n5_ne, n5_lt, bI_0, bI_1, nI_add, pk_mul, if_pos, if_neg, ite_not, if_true, if_false, not_true_eq_false, not_false_eq_true, true_and, false_and, and_true, and_false, Nat.reduceAdd, Nat.reduceMul]
end
