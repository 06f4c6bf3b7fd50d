/-! changes of the reference -/
/-- the state f copied over the state t, its first k numbers -/
def cpB (mu : RV) (f t k : Nat) : RV := fun a i => if a = 106 ∧ 241 * t ≤ i ∧ i < 241 * t + k then mu 106 (241 * f + (i - 241 * t)) else mu a i
theorem cpB_s (mu : RV) (f t k : Nat) (hft : ¬f = t) (hk : k < 241) : u2 (cpB mu f t k) 106 (241 * t + k) (cpB mu f t k 106 (241 * f + k)) = cpB mu f t (k + 1) := by
  have e : cpB mu f t k 106 (241 * f + k) = mu 106 (241 * f + k) := by
    unfold cpB
    rw [if_neg (by omega)]
  rw [e]
  funext a i
  by_cases h : a = 106 ∧ i = 241 * t + k
  · obtain ⟨rfl, rfl⟩ := h
    rw [u2_s]
    unfold cpB
    rw [if_pos (by omega)]
    congr 1
    omega
  · rw [u2_o _ _ h]
    unfold cpB
    by_cases h2 : a = 106 ∧ 241 * t ≤ i ∧ i < 241 * t + k
    · rw [if_pos h2, if_pos (by omega)]
    · rw [if_neg h2, if_neg (by omega)]
theorem cpB_i {mu : RV} {f t i : Nat} (h : i < 241) : cpB mu f t 241 106 (241 * t + i) = mu 106 (241 * f + i) := by
  unfold cpB
  rw [if_pos (by omega)]
  congr 1
  omega
theorem cpB_o {mu : RV} {f t a i : Nat} (h : ¬a = 106 ∨ i < 241 * t ∨ 241 * t + 241 ≤ i) : cpB mu f t 241 a i = mu a i := by
  unfold cpB
  rw [if_neg (by omega)]
section
variable (d L : Nat) (mu : RV) (p : Nat → Nat)
theorem m_copiesL (f t : Nat) (hf : f < 7) (ht : t < 7) (hft : ¬f = t) : ∀ n k, k + n = 241 → zsem d 128 2 [.inr (some 105), .inl (nI f), .inl (nI t), .inl (nI k)] [] (HH L (cpB mu f t k) p) = some (none, HH L (cpB mu f t 241) p) := by
  intro n
  induction n with
  | zero =>
    intro k hk
    have : k = 241 := by omega
    subst this
    rw [h128_2]
    simp (disch := first | omega | assumption) only [h128_0, h128_1, h128_3, h128_6, h128_9, h128_10, h128_13, h128_16, h128_17, h128_18, h128_19, h128_20, h128_21, h128_24, h128_27, h128_28, h128_29, h128_30, h128_31, h128_32, h128_33, h128_36, h128_39, Option.bind_some, Option.toList_some, Option.toList_none, List.cons_append, List.nil_append, nI_ltc, nI_lec, nI_eqc, nI_ne5, n5_ne, n5_lt, bI_0, bI_1, nI_add, pk_mul, if_pos, if_neg, ite_not, if_true, if_false, not_true_eq_false, not_false_eq_true, true_and, false_and, and_true, and_false, Nat.reduceAdd, Nat.reduceMul]
  | succ n ih =>
    intro k hk
    rw [← ih (k + 1) (by omega), h128_2, ← cpB_s mu f t k hft (by omega)]
    simp (disch := first | omega | assumption) only [h128_0, h128_1, h128_3, h128_6, h128_9, h128_10, h128_13, h128_16, h128_17, h128_18, h128_19, h128_20, h128_21, h128_24, h128_27, h128_28, h128_29, h128_30, h128_31, h128_32, h128_33, h128_36, h128_39, Option.bind_some, Option.toList_some, Option.toList_none, List.cons_append, List.nil_append, nI_ltc, nI_lec, nI_eqc, nI_ne5, n5_ne, n5_lt, bI_0, bI_1, nI_add, pk_mul, if_pos, if_neg, ite_not, if_true, if_false, not_true_eq_false, not_false_eq_true, true_and, false_and, and_true, and_false, Nat.reduceAdd, Nat.reduceMul]
theorem m_copies (f t : Nat) (hf : f < 7) (ht : t < 7) (hft : ¬f = t) : zsem d 128 0 [.inr (some 105), .inl (nI f), .inl (nI t), .inr none] [] (HH L mu p) = some (none, HH L (cpB mu f t 241) p) := by
  rw [← m_copiesL d L mu p f t hf ht hft 241 0 rfl]
  have e : cpB mu f t 0 = mu := by
    funext a i
    unfold cpB
    rw [if_neg (by omega)]
  rw [e]
  simp (disch := first | omega | assumption) only [h128_0, h128_1, h128_3, h128_6, h128_9, h128_10, h128_13, h128_16, h128_17, h128_18, h128_19, h128_20, h128_21, h128_24, h128_27, h128_28, h128_29, h128_30, h128_31, h128_32, h128_33, h128_36, h128_39, Option.bind_some, Option.toList_some, Option.toList_none, List.cons_append, List.nil_append, nI_ltc, nI_lec, nI_eqc, nI_ne5, n5_ne, n5_lt, bI_0, bI_1, nI_add, pk_mul, if_pos, if_neg, ite_not, if_true, if_false, not_true_eq_false, not_false_eq_true, true_and, false_and, and_true, and_false, Nat.reduceAdd, Nat.reduceMul]
theorem m_records0 (c : Nat) (hc : c < 4) (h : mu 105 1 = nI c) : zsem (d + 1) 127 0 [.inr (some 105), .inr none] [] (HH L mu p) = some (none, HH L (cpB (u2 mu 105 1 (nI (c + 1))) 0 (c + 1) 241) p) := by
  have e : u2 mu 105 1 (nI (c + 1)) 105 1 = nI (c + 1) := u2_s _ _ _ _
  simp (disch := first | omega | assumption) only [h127_0, h127_1, h127_4, h127_5, h127_8, h127_9, h127_11, h127_12, h127_15, h127_16, h127_17, h127_18, h127_19, h127_20, h127_23, h127_26, h127_29, h127_30, h127_31, h127_34, h127_35, h127_36, h127_39, h127_40, h127_41, h127_44, h127_45, h127_46, h127_49, h127_50, h127_51, h127_52, h127_55, h127_58, Option.bind_some, Option.toList_some, Option.toList_none, List.cons_append, List.nil_append, nI_ltc, nI_lec, nI_eqc, nI_ne5, n5_ne, n5_lt, bI_0, bI_1, nI_add, pk_mul, if_pos, if_neg, ite_not, if_true, if_false, not_true_eq_false, not_false_eq_true, true_and, false_and, and_true, and_false, Nat.reduceAdd, Nat.reduceMul, h, e, m_copies]
def mrec4 (mu : RV) : RV := u2 (u2 (cpB (cpB (cpB mu 2 1 241) 3 2 241) 4 3 241) 105 1 (nI 3)) 105 1 (nI 4)
theorem m_records4 (h : mu 105 1 = nI 4) : zsem (d + 1) 127 0 [.inr (some 105), .inr none] [] (HH L mu p) = some (none, HH L (cpB (mrec4 mu) 0 4 241) p) := by
  have e : u2 (cpB (cpB (cpB mu 2 1 241) 3 2 241) 4 3 241) 105 1 (nI 3) 105 1 = nI 3 := u2_s _ _ _ _
  have e2 : u2 (u2 (cpB (cpB (cpB mu 2 1 241) 3 2 241) 4 3 241) 105 1 (nI 3)) 105 1 (nI 4) 105 1 = nI 4 := u2_s _ _ _ _
  have e3 : cpB (cpB (cpB mu 2 1 241) 3 2 241) 4 3 241 105 1 = nI 4 := by
    rw [cpB_o (by omega), cpB_o (by omega), cpB_o (by omega)]; exact h
  have s4 : nI 4 - nI 1 = nI 3 := rfl
  unfold mrec4
  simp (disch := first | omega | assumption) only [h127_0, h127_1, h127_4, h127_5, h127_8, h127_9, h127_10, h127_11, h127_12, h127_15, h127_16, h127_17, h127_18, h127_19, h127_20, h127_23, h127_26, h127_29, h127_30, h127_31, h127_34, h127_35, h127_36, h127_39, h127_40, h127_41, h127_44, h127_45, h127_46, h127_49, h127_50, h127_51, h127_52, h127_55, h127_58, Option.bind_some, Option.toList_some, Option.toList_none, List.cons_append, List.nil_append, nI_ltc, nI_lec, nI_eqc, nI_ne5, n5_ne, n5_lt, bI_0, bI_1, nI_add, pk_mul, if_pos, if_neg, ite_not, if_true, if_false, not_true_eq_false, not_false_eq_true, true_and, false_and, and_true, and_false, Nat.reduceAdd, Nat.reduceMul, ↓reduceIte, Nat.reduceLeDiff, Nat.reduceLT, Nat.reduceEqDiff, m_copies, h, e, e2, e3, s4]
/-- what records does -/
def MRec (mu mu' : RV) : Prop := ∃ c c', c ≤ 4 ∧ mu 105 1 = nI c ∧ mu' 105 1 = nI (c' + 1) ∧ c' < 4 ∧
  ((c < 4 ∧ c' = c ∧ ∀ i, i < c → ∀ t, t < 241 → mu' 106 (241 * (i + 1) + t) = mu 106 (241 * (i + 1) + t)) ∨ (c = 4 ∧ c' = 3 ∧ ∀ i, i < 3 → ∀ t, t < 241 → mu' 106 (241 * (i + 1) + t) = mu 106 (241 * (i + 2) + t))) ∧
  (∀ t, t < 241 → mu' 106 (241 * (c' + 1) + t) = mu 106 t) ∧ (∀ t, t < 241 ∨ 1205 ≤ t → mu' 106 t = mu 106 t) ∧ (∀ a i, ¬a = 106 → ¬(a = 105 ∧ i = 1) → mu' a i = mu a i)
theorem m_records (c : Nat) (hc : c ≤ 4) (h : mu 105 1 = nI c) : ∃ mu', zsem (d + 1) 127 0 [.inr (some 105), .inr none] [] (HH L mu p) = some (none, HH L mu' p) ∧ MRec mu mu' := by
  by_cases h4 : c < 4
  · refine ⟨_, m_records0 d L mu p c h4 h, c, c, hc, h, ?_, h4, Or.inl ⟨h4, rfl, fun i hi t ht => ?_⟩, fun t ht => ?_, fun t ht => ?_, fun a i h1 h2 => ?_⟩
    · rw [cpB_o (by omega), u2_s]
    · rw [cpB_o (by omega), u2_o _ _ (by omega)]
    · rw [cpB_i ht, u2_o _ _ (by omega), Nat.mul_zero, Nat.zero_add]
    · rw [cpB_o (by omega), u2_o _ _ (by omega)]
    · rw [cpB_o (by omega), u2_o _ _ h2]
  · have hc4 : c = 4 := by omega
    subst hc4
    refine ⟨_, m_records4 d L mu p h, 4, 3, hc, h, ?_, by omega, Or.inr ⟨rfl, rfl, fun i hi t ht => ?_⟩, fun t ht => ?_, fun t ht => ?_, fun a i h1 h2 => ?_⟩
    · rw [cpB_o (by omega)]; exact u2_s _ _ _ _
    · have hm : ∀ x, mrec4 mu 106 x = cpB (cpB (cpB mu 2 1 241) 3 2 241) 4 3 241 106 x := fun x => by
        unfold mrec4
        rw [u2_o _ _ (by omega), u2_o _ _ (by omega)]
      rw [cpB_o (by omega), hm]
      have : i = 0 ∨ i = 1 ∨ i = 2 := by omega
      rcases this with rfl | rfl | rfl
      · rw [cpB_o (by omega), cpB_o (by omega), cpB_i ht]
      · rw [cpB_o (by omega), cpB_i ht, cpB_o (by omega)]
      · rw [cpB_i ht, cpB_o (by omega), cpB_o (by omega)]
    · rw [cpB_i ht, Nat.mul_zero, Nat.zero_add]
      unfold mrec4
      rw [u2_o _ _ (by omega), u2_o _ _ (by omega), cpB_o (by omega), cpB_o (by omega), cpB_o (by omega)]
    · rw [cpB_o (by omega)]
      unfold mrec4
      rw [u2_o _ _ (by omega), u2_o _ _ (by omega), cpB_o (by omega), cpB_o (by omega), cpB_o (by omega)]
    · rw [cpB_o (by omega)]
      unfold mrec4
      rw [u2_o _ _ h2, u2_o _ _ h2, cpB_o (by omega), cpB_o (by omega), cpB_o (by omega)]
theorem m_manyL : ∀ n i, i + n = 12 → zsem (d + 2) 126 4 [.inr (some 105), .inl (nI (cntP (fun j => ¬mu 106 (20 * j) = nI 0) i)), .inl (nI i)] [] (HH L mu p) = some (some (.inl (nI (cntP (fun j => ¬mu 106 (20 * j) = nI 0) 12))), HH L mu p) := by
  intro n
  induction n with
  | zero =>
    intro i hi
    have : i = 12 := by omega
    subst this
    rw [h126_4]
    simp (disch := first | omega | assumption) only [h126_0, h126_1, h126_2, h126_3, h126_5, h126_7, h126_10, h126_11, h126_12, h126_13, h126_16, h126_19, h126_20, h126_23, h126_24, h126_25, h126_26, h126_29, h126_32, h126_33, Option.bind_some, Option.toList_some, Option.toList_none, List.cons_append, List.nil_append, nI_ltc, nI_lec, nI_eqc, nI_ne5, n5_ne, n5_lt, bI_0, bI_1, nI_add, pk_mul, if_pos, if_neg, ite_not, if_true, if_false, not_true_eq_false, not_false_eq_true, true_and, false_and, and_true, and_false, Nat.reduceAdd, Nat.reduceMul]
  | succ n ih =>
    intro i hi
    rw [← ih (i + 1) (by omega), h126_4]
    by_cases hk : mu 106 (20 * i) = nI 0
    · rw [cnt_n (fun j => ¬mu 106 (20 * j) = nI 0) (fun q => q hk)]
      simp (disch := first | omega | assumption) only [h126_0, h126_1, h126_2, h126_3, h126_5, h126_7, h126_10, h126_11, h126_12, h126_13, h126_16, h126_19, h126_20, h126_23, h126_24, h126_25, h126_26, h126_29, h126_32, h126_33, Option.bind_some, Option.toList_some, Option.toList_none, List.cons_append, List.nil_append, nI_ltc, nI_lec, nI_eqc, nI_ne5, n5_ne, n5_lt, bI_0, bI_1, nI_add, pk_mul, if_pos, if_neg, ite_not, if_true, if_false, not_true_eq_false, not_false_eq_true, true_and, false_and, and_true, and_false, Nat.reduceAdd, Nat.reduceMul, m_isDevice_n, hk, Nat.add_zero]
    · rw [cnt_s (fun j => ¬mu 106 (20 * j) = nI 0) hk]
      simp (disch := first | omega | assumption) only [h126_0, h126_1, h126_2, h126_3, h126_5, h126_7, h126_10, h126_11, h126_12, h126_13, h126_16, h126_19, h126_20, h126_23, h126_24, h126_25, h126_26, h126_29, h126_32, h126_33, Option.bind_some, Option.toList_some, Option.toList_none, List.cons_append, List.nil_append, nI_ltc, nI_lec, nI_eqc, nI_ne5, n5_ne, n5_lt, bI_0, bI_1, nI_add, pk_mul, if_pos, if_neg, ite_not, if_true, if_false, not_true_eq_false, not_false_eq_true, true_and, false_and, and_true, and_false, Nat.reduceAdd, Nat.reduceMul, m_isDevice_n, hk]
theorem m_many : zsem (d + 2) 126 0 [.inr (some 105), .inr none, .inr none] [] (HH L mu p) = some (some (.inl (nI (cntP (fun j => ¬mu 106 (20 * j) = nI 0) 12))), HH L mu p) := by
  rw [← m_manyL d L mu p 12 0 rfl]
  simp (disch := first | omega | assumption) only [h126_0, h126_1, h126_2, h126_3, h126_5, h126_7, h126_10, h126_11, h126_12, h126_13, h126_16, h126_19, h126_20, h126_23, h126_24, h126_25, h126_26, h126_29, h126_32, h126_33, Option.bind_some, Option.toList_some, Option.toList_none, List.cons_append, List.nil_append, nI_ltc, nI_lec, nI_eqc, nI_ne5, n5_ne, n5_lt, bI_0, bI_1, nI_add, pk_mul, if_pos, if_neg, ite_not, if_true, if_false, not_true_eq_false, not_false_eq_true, true_and, false_and, and_true, and_false, Nat.reduceAdd, Nat.reduceMul]
  rfl
end
