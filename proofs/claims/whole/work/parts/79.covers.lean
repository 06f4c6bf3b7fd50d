/-! the grains of a bus: reference -/
def fcB (mu : RV) (u k : Nat) : RV := fun r t => if r = 114 ∧ u ≤ t ∧ t < u + k then nI 0 else mu r t
theorem fcB_s (mu : RV) (u k : Nat) : u2 (fcB mu u k) 114 (u + k) (nI 0) = fcB mu u (k + 1) := by
  funext a i
  by_cases h : a = 114 ∧ i = u + k
  · obtain ⟨rfl, rfl⟩ := h
    rw [u2_s]
    unfold fcB
    rw [if_pos (by omega)]
  · rw [u2_o _ _ h]
    unfold fcB
    by_cases h2 : a = 114 ∧ u ≤ i ∧ i < u + k
    · rw [if_pos h2, if_pos (by omega)]
    · rw [if_neg h2, if_neg (by omega)]
theorem fcB_0 (mu : RV) (u : Nat) : fcB mu u 0 = mu := by
  funext a i
  unfold fcB
  rw [if_neg (by omega)]
section
variable (d L : Nat) (mu : RV) (p : Nat → Nat)
theorem m_covers_5 (s : Nat) (y : Int32) : zsem (d + 1) 161 0 [.inr (some 105), .inl (nI s), .inl (-5), .inl y, .inr none] [] (HH L mu p) = some (none, HH L mu p) := by
  simp (disch := first | omega | assumption) only [h161_0, h161_1, h161_4, h161_6, h161_9, h161_11, h161_12, h161_13, h161_14, h161_17, h161_18, h161_21, h161_23, h161_24, h161_27, h161_28, h161_29, h161_30, h161_32, h161_33, h161_36, h161_37, h161_39, h161_42, Option.bind_some, Option.toList_some, Option.toList_none, List.cons_append, List.nil_append, nI_ltc, nI_lec, nI_eqc, nI_ne5, n5_ne, n5_lt, bI_0, bI_1, nI_add, pk_mul, if_pos, if_neg, ite_not, if_true, if_false, not_true_eq_false, not_false_eq_true, true_and, false_and, and_true, and_false, Nat.reduceAdd, Nat.reduceMul]
  rw [h161_3]
  simp (disch := first | omega | assumption) only [h161_0, h161_1, h161_4, h161_6, h161_9, h161_11, h161_12, h161_13, h161_14, h161_17, h161_18, h161_21, h161_23, h161_24, h161_27, h161_28, h161_29, h161_30, h161_32, h161_33, h161_36, h161_37, h161_39, h161_42, Option.bind_some, Option.toList_some, Option.toList_none, List.cons_append, List.nil_append, nI_ltc, nI_lec, nI_eqc, nI_ne5, n5_ne, n5_lt, bI_0, bI_1, nI_add, pk_mul, if_pos, if_neg, ite_not, if_true, if_false, not_true_eq_false, not_false_eq_true, true_and, false_and, and_true, and_false, Nat.reduceAdd, Nat.reduceMul]
theorem m_coversL (s : Nat) (hs : s < 2) (u c : Nat) (hu : u + c ≤ 256) : ∀ m i, i + m = c → zsem (d + 1) 161 3 [.inr (some 105), .inl (nI s), .inl (nI (grn s * u)), .inl (nI (grn s * c)), .inl (nI (grn s * u + grn s * i))] [] (HH L (fcB mu u i) p) = some (none, HH L (fcB mu u c) p) := by
  have hg := @grn_le s
  have hg0 := grn_ne0 s
  have b1 : grn s * u ≤ 16 * 256 := Nat.mul_le_mul hg.2 (by omega)
  have b2 : grn s * c ≤ 16 * 256 := Nat.mul_le_mul hg.2 (by omega)
  intro m
  induction m with
  | zero =>
    intro i hi
    have : i = c := by omega
    subst this
    rw [h161_3]
    simp (disch := first | omega | assumption) only [h161_0, h161_1, h161_4, h161_6, h161_9, h161_11, h161_12, h161_13, h161_14, h161_17, h161_18, h161_21, h161_23, h161_24, h161_27, h161_28, h161_29, h161_30, h161_32, h161_33, h161_36, h161_37, h161_39, h161_42, Option.bind_some, Option.toList_some, Option.toList_none, List.cons_append, List.nil_append, nI_ltc, nI_lec, nI_eqc, nI_ne5, n5_ne, n5_lt, bI_0, bI_1, nI_add, pk_mul, if_pos, if_neg, ite_not, if_true, if_false, not_true_eq_false, not_false_eq_true, true_and, false_and, and_true, and_false, Nat.reduceAdd, Nat.reduceMul]
  | succ m ih =>
    intro i hi
    have b3 : grn s * i + grn s ≤ grn s * c := by
      have : grn s * (i + 1) ≤ grn s * c := Nat.mul_le_mul_left _ (by omega)
      rw [Nat.mul_add, Nat.mul_one] at this
      exact this
    have e : grn s * u + grn s * (i + 1) = grn s * u + grn s * i + grn s := by rw [Nat.mul_add, Nat.mul_one]; omega
    have hd : nI (grn s * u + grn s * i) / nI (grn s) = nI (u + i) := by
      rw [nI_div (by omega) (by omega) (by omega), ← Nat.mul_add, Nat.mul_div_cancel_left _ (by omega)]
    rw [← ih (i + 1) (by omega), h161_3, ← fcB_s, e]
    simp (disch := first | omega | assumption) only [h161_0, h161_1, h161_4, h161_6, h161_9, h161_11, h161_12, h161_13, h161_14, h161_17, h161_18, h161_21, h161_23, h161_24, h161_27, h161_28, h161_29, h161_30, h161_32, h161_33, h161_36, h161_37, h161_39, h161_42, Option.bind_some, Option.toList_some, Option.toList_none, List.cons_append, List.nil_append, nI_ltc, nI_lec, nI_eqc, nI_ne5, n5_ne, n5_lt, bI_0, bI_1, nI_add, pk_mul, if_pos, if_neg, ite_not, if_true, if_false, not_true_eq_false, not_false_eq_true, true_and, false_and, and_true, and_false, Nat.reduceAdd, Nat.reduceMul, m_grain, hd]
theorem m_covers (s : Nat) (hs : s < 2) (u c : Nat) (hu : u + c ≤ 256) : zsem (d + 1) 161 0 [.inr (some 105), .inl (nI s), .inl (nI (grn s * u)), .inl (nI (grn s * c)), .inr none] [] (HH L mu p) = some (none, HH L (fcB mu u c) p) := by
  have := m_coversL d L mu p s hs u c hu c 0 (by omega)
  rw [fcB_0] at this
  simp only [Nat.mul_zero, Nat.add_zero] at this
  rw [← this]
  simp (disch := first | omega | assumption) only [h161_0, h161_1, h161_4, h161_6, h161_9, h161_11, h161_12, h161_13, h161_14, h161_17, h161_18, h161_21, h161_23, h161_24, h161_27, h161_28, h161_29, h161_30, h161_32, h161_33, h161_36, h161_37, h161_39, h161_42, Option.bind_some, Option.toList_some, Option.toList_none, List.cons_append, List.nil_append, nI_ltc, nI_lec, nI_eqc, nI_ne5, n5_ne, n5_lt, bI_0, bI_1, nI_add, pk_mul, if_pos, if_neg, ite_not, if_true, if_false, not_true_eq_false, not_false_eq_true, true_and, false_and, and_true, and_false, Nat.reduceAdd, Nat.reduceMul]
end
