/-! the tree: class -/
section
variable (d L : Nat) (mu : Nat → Nat → Int32) (p : Nat → Nat)
theorem z_depthL (h : ∀ x, x < 12 → mu 2 x = nI 2 → ∃ y, y < 13 ∧ mu 3 x = nI y) (b0 : Int32) : ∀ n k c, k + n = 5 → c < 13 → zsem (d + 1) 14 4 [.inr (.inl (some 1)), .inl b0, .inl (nI k), .inl (nI c)] [] (HH L mu p) = some (some (.inl (nI (k + dpt (rk mu 1) n c))), HH L mu p) := by
  intro n
  induction n with
  | zero =>
    intro k c hk hc
    have : k = 5 := by omega
    subst this
    rw [h14_4]
    simp (disch := first | omega | assumption) only [h14_0, h14_1, h14_2, h14_3, h14_5, h14_6, h14_9, h14_10, h14_11, h14_14, h14_17, h14_18, h14_21, h14_22, h14_23, h14_24, h14_27, h14_30, h14_31, Option.bind_some, Option.toList_some, Option.toList_none, List.cons_append, List.nil_append, nI_ltc, nI_lec, nI_eqc, nI_ne5, n5_ne, n5_lt, bI_0, bI_1, nI_add, pk_mul, if_pos, if_neg, ite_not, if_true, if_false, not_true_eq_false, not_false_eq_true, true_and, false_and, and_true, and_false, Nat.reduceAdd, Nat.reduceMul, dpt, Nat.add_zero]
  | succ n ih =>
    intro k c hk hc
    rw [h14_4]
    by_cases hc2 : c < 12
    · by_cases hb : mu 2 c = nI 2
      · obtain ⟨y, hy, ey⟩ := h c hc2 hb
        have e : dpt (rk mu 1) (n + 1) c = dpt (rk mu 1) n y + 1 := by
          rw [dpt_s, if_pos ⟨hc2, by rw [rk_2 hc2]; exact hb⟩, bn_of (by rw [rk_3 hc2]; exact ey) hy]
        simp (disch := first | omega | assumption) only [h14_0, h14_1, h14_2, h14_3, h14_5, h14_6, h14_9, h14_10, h14_11, h14_14, h14_17, h14_18, h14_21, h14_22, h14_23, h14_24, h14_27, h14_30, h14_31, Option.bind_some, Option.toList_some, Option.toList_none, List.cons_append, List.nil_append, nI_ltc, nI_lec, nI_eqc, nI_ne5, n5_ne, n5_lt, bI_0, bI_1, nI_add, pk_mul, if_pos, if_neg, ite_not, if_true, if_false, not_true_eq_false, not_false_eq_true, true_and, false_and, and_true, and_false, Nat.reduceAdd, Nat.reduceMul, z_isBridge_n, hb, ey]
        rw [ih (k + 1) y (by omega) hy, e]
        simp only [Option.some.injEq, Prod.mk.injEq, Sum.inl.injEq, and_true]
        congr 1
        omega
      · have e : dpt (rk mu 1) (n + 1) c = 0 := by
          rw [dpt_s, if_neg (by rw [rk_2 hc2]; intro q; exact hb q.2)]
        rw [e]
        simp (disch := first | omega | assumption) only [h14_0, h14_1, h14_2, h14_3, h14_5, h14_6, h14_9, h14_10, h14_11, h14_14, h14_17, h14_18, h14_21, h14_22, h14_23, h14_24, h14_27, h14_30, h14_31, Option.bind_some, Option.toList_some, Option.toList_none, List.cons_append, List.nil_append, nI_ltc, nI_lec, nI_eqc, nI_ne5, n5_ne, n5_lt, bI_0, bI_1, nI_add, pk_mul, if_pos, if_neg, ite_not, if_true, if_false, not_true_eq_false, not_false_eq_true, true_and, false_and, and_true, and_false, Nat.reduceAdd, Nat.reduceMul, z_isBridge_n, hb, Nat.add_zero]
    · have : c = 12 := by omega
      subst this
      have e : dpt (rk mu 1) (n + 1) 12 = 0 := by
        rw [dpt_s, if_neg (by omega)]
      rw [e]
      have hb := z_isBridge_o d L mu p (nI 12) (Or.inr (by decide))
      simp (disch := first | omega | assumption) only [h14_0, h14_1, h14_2, h14_3, h14_5, h14_6, h14_9, h14_10, h14_11, h14_14, h14_17, h14_18, h14_21, h14_22, h14_23, h14_24, h14_27, h14_30, h14_31, Option.bind_some, Option.toList_some, Option.toList_none, List.cons_append, List.nil_append, nI_ltc, nI_lec, nI_eqc, nI_ne5, n5_ne, n5_lt, bI_0, bI_1, nI_add, pk_mul, if_pos, if_neg, ite_not, if_true, if_false, not_true_eq_false, not_false_eq_true, true_and, false_and, and_true, and_false, Nat.reduceAdd, Nat.reduceMul, hb, Nat.add_zero]
theorem z_depthOfBus (h : ∀ x, x < 12 → mu 2 x = nI 2 → ∃ y, y < 13 ∧ mu 3 x = nI y) (b : Nat) (hb : b < 13) : zsem (d + 1) 14 0 [.inr (.inl (some 1)), .inl (nI b), .inr (.inl none), .inr (.inl none)] [] (HH L mu p) = some (some (.inl (nI (dpt (rk mu 1) 5 b))), HH L mu p) := by
  simp (disch := first | omega | assumption) only [h14_0, h14_1, h14_2, h14_3, h14_5, h14_6, h14_9, h14_10, h14_11, h14_14, h14_17, h14_18, h14_21, h14_22, h14_23, h14_24, h14_27, h14_30, h14_31, Option.bind_some, Option.toList_some, Option.toList_none, List.cons_append, List.nil_append, nI_ltc, nI_lec, nI_eqc, nI_ne5, n5_ne, n5_lt, bI_0, bI_1, nI_add, pk_mul, if_pos, if_neg, ite_not, if_true, if_false, not_true_eq_false, not_false_eq_true, true_and, false_and, and_true, and_false, Nat.reduceAdd, Nat.reduceMul]
  rw [z_depthL d L mu p h (nI b) 5 0 b rfl hb, Nat.zero_add]
theorem z_leastL : ∀ n i, i + n = 12 → (∃ j, i ≤ j ∧ j < 12 ∧ mu 2 j = nI 0 ∧ (∀ x, i ≤ x → x < j → ¬mu 2 x = nI 0) ∧ zsem d 15 2 [.inr (.inl (some 1)), .inl (nI i)] [] (HH L mu p) = some (some (.inl (nI j)), HH L mu p)) ∨
    ((∀ x, i ≤ x → x < 12 → ¬mu 2 x = nI 0) ∧ zsem d 15 2 [.inr (.inl (some 1)), .inl (nI i)] [] (HH L mu p) = some (some (.inl (-5)), HH L mu p)) := by
  intro n
  induction n with
  | zero =>
    intro i hi
    have : i = 12 := by omega
    subst this
    refine Or.inr ⟨fun x h1 h2 => by omega, ?_⟩
    rw [h15_2]
    simp (disch := first | omega | assumption) only [h15_0, h15_1, h15_3, h15_5, h15_8, h15_9, h15_12, h15_13, h15_14, h15_17, h15_18, h15_19, h15_22, h15_25, h15_27, Option.bind_some, Option.toList_some, Option.toList_none, List.cons_append, List.nil_append, nI_ltc, nI_lec, nI_eqc, nI_ne5, n5_ne, n5_lt, bI_0, bI_1, nI_add, pk_mul, if_pos, if_neg, ite_not, if_true, if_false, not_true_eq_false, not_false_eq_true, true_and, false_and, and_true, and_false, Nat.reduceAdd, Nat.reduceMul]
  | succ n ih =>
    intro i hi
    by_cases h0 : mu 2 i = nI 0
    · refine Or.inl ⟨i, Nat.le_refl _, by omega, h0, fun x h1 h2 => by omega, ?_⟩
      rw [h15_2]
      simp (disch := first | omega | assumption) only [h15_0, h15_1, h15_3, h15_5, h15_8, h15_9, h15_12, h15_13, h15_14, h15_17, h15_18, h15_19, h15_22, h15_25, h15_27, Option.bind_some, Option.toList_some, Option.toList_none, List.cons_append, List.nil_append, nI_ltc, nI_lec, nI_eqc, nI_ne5, n5_ne, n5_lt, bI_0, bI_1, nI_add, pk_mul, if_pos, if_neg, ite_not, if_true, if_false, not_true_eq_false, not_false_eq_true, true_and, false_and, and_true, and_false, Nat.reduceAdd, Nat.reduceMul, h0]
    · have e : zsem d 15 2 [.inr (.inl (some 1)), .inl (nI i)] [] (HH L mu p) = zsem d 15 2 [.inr (.inl (some 1)), .inl (nI (i + 1))] [] (HH L mu p) := by
        rw [h15_2]
        simp (disch := first | omega | assumption) only [h15_0, h15_1, h15_3, h15_5, h15_8, h15_9, h15_12, h15_13, h15_14, h15_17, h15_18, h15_19, h15_22, h15_25, h15_27, Option.bind_some, Option.toList_some, Option.toList_none, List.cons_append, List.nil_append, nI_ltc, nI_lec, nI_eqc, nI_ne5, n5_ne, n5_lt, bI_0, bI_1, nI_add, pk_mul, if_pos, if_neg, ite_not, if_true, if_false, not_true_eq_false, not_false_eq_true, true_and, false_and, and_true, and_false, Nat.reduceAdd, Nat.reduceMul, h0]
      rw [e]
      rcases ih (i + 1) (by omega) with ⟨j, h1, h2, h3, h4, h5⟩ | ⟨h1, h2⟩
      · refine Or.inl ⟨j, by omega, h2, h3, fun x g1 g2 => ?_, h5⟩
        by_cases hx : x = i
        · rw [hx]; exact h0
        · exact h4 x (by omega) g2
      · refine Or.inr ⟨fun x g1 g2 => ?_, h2⟩
        by_cases hx : x = i
        · rw [hx]; exact h0
        · exact h1 x (by omega) g2
theorem z_leastFree : (∃ j, j < 12 ∧ mu 2 j = nI 0 ∧ (∀ x, x < j → ¬mu 2 x = nI 0) ∧ zsem d 15 0 [.inr (.inl (some 1)), .inr (.inl none)] [] (HH L mu p) = some (some (.inl (nI j)), HH L mu p)) ∨
    ((∀ x, x < 12 → ¬mu 2 x = nI 0) ∧ zsem d 15 0 [.inr (.inl (some 1)), .inr (.inl none)] [] (HH L mu p) = some (some (.inl (-5)), HH L mu p)) := by
  have e : zsem d 15 0 [.inr (.inl (some 1)), .inr (.inl none)] [] (HH L mu p) = zsem d 15 2 [.inr (.inl (some 1)), .inl (nI 0)] [] (HH L mu p) := by
    simp (disch := first | omega | assumption) only [h15_0, h15_1, h15_3, h15_5, h15_8, h15_9, h15_12, h15_13, h15_14, h15_17, h15_18, h15_19, h15_22, h15_25, h15_27, Option.bind_some, Option.toList_some, Option.toList_none, List.cons_append, List.nil_append, nI_ltc, nI_lec, nI_eqc, nI_ne5, n5_ne, n5_lt, bI_0, bI_1, nI_add, pk_mul, if_pos, if_neg, ite_not, if_true, if_false, not_true_eq_false, not_false_eq_true, true_and, false_and, and_true, and_false, Nat.reduceAdd, Nat.reduceMul]
  rw [e]
  rcases z_leastL d L mu p 12 0 rfl with ⟨j, h1, h2, h3, h4, h5⟩ | ⟨h1, h2⟩
  · exact Or.inl ⟨j, h2, h3, fun x g => h4 x (by omega) g, h5⟩
  · exact Or.inr ⟨fun x g => h1 x (by omega) g, h2⟩
end
