/-! masks of devices, regions without a base, the text -/
theorem msk_tb (P : Nat → Prop) [DecidablePred P] (n j : Nat) : (msk P n).testBit j = true ↔ (j < n ∧ P j) := by
  rw [Nat.testBit_eq_decide_div_mod_eq, decide_eq_true_iff]
  by_cases h : j < n
  · rw [msk_bit P j n h]
    exact ⟨fun q => ⟨h, q⟩, fun q => q.2⟩
  · have h1 := msk_lt P n
    have h2 : 2 ^ n ≤ 2 ^ j := Nat.pow_le_pow_right (by omega) (by omega)
    rw [Nat.div_eq_of_lt (by omega)]
    exact ⟨fun q => by omega, fun q => absurd q.1 h⟩
theorem msk_or (P Q S : Nat → Prop) [DecidablePred P] [DecidablePred Q] [DecidablePred S] (n : Nat) (h : ∀ j, j < n → (S j ↔ P j ∨ Q j)) : msk P n ||| msk Q n = msk S n := by
  apply Nat.eq_of_testBit_eq
  intro j
  rw [Nat.testBit_or, Bool.eq_iff_iff, Bool.or_eq_true, msk_tb, msk_tb, msk_tb]
  constructor
  · rintro (⟨a, b⟩ | ⟨a, b⟩)
    · exact ⟨a, (h j a).mpr (Or.inl b)⟩
    · exact ⟨a, (h j a).mpr (Or.inr b)⟩
  · rintro ⟨a, b⟩
    rcases (h j a).mp b with q | q
    · exact Or.inl ⟨a, q⟩
    · exact Or.inr ⟨a, q⟩
theorem nI_or (a b : Nat) (ha : a < 2 ^ 32) (hb : b < 2 ^ 32) : nI a ||| nI b = nI (a ||| b) := by
  apply Int32.toBitVec_inj.1
  apply BitVec.eq_of_toNat_eq
  have e : ∀ n, (nI n).toBitVec.toNat = n % 2 ^ 32 := fun n => rfl
  rw [Int32.toBitVec_or, BitVec.toNat_or, e, e, e, Nat.mod_eq_of_lt ha, Nat.mod_eq_of_lt hb, Nat.mod_eq_of_lt (Nat.or_lt_two_pow ha hb)]
section
variable (d L : Nat) (mu : RV) (p : Nat → Nat)
theorem m_devicesL : ∀ n i, i + n = 12 → zsem (d + 2) 177 4 [.inr (some 105), .inl (nI (msk (fun j => ¬mu 106 (20 * j) = nI 0) i)), .inl (nI i)] [] (HH L mu p) = some (some (.inl (nI (msk (fun j => ¬mu 106 (20 * j) = nI 0) 12))), HH L mu p) := by
  intro n
  induction n with
  | zero =>
    intro i hi
    have : i = 12 := by omega
    subst this
    rw [h177_4]
    simp (disch := first | omega | assumption) only [h177_0, h177_1, h177_2, h177_3, h177_5, h177_7, h177_10, h177_11, h177_12, h177_13, h177_16, h177_19, h177_20, h177_21, h177_22, h177_25, h177_26, h177_27, h177_28, h177_31, h177_34, h177_35, Option.bind_some, Option.toList_some, Option.toList_none, List.cons_append, List.nil_append, nI_ltc, nI_lec, nI_eqc, nI_ne5, n5_ne, n5_lt, bI_0, bI_1, nI_add, pk_mul, if_pos, if_neg, ite_not, if_true, if_false, not_true_eq_false, not_false_eq_true, true_and, false_and, and_true, and_false, Nat.reduceAdd, Nat.reduceMul]
  | succ n ih =>
    intro i hi
    rw [← ih (i + 1) (by omega), h177_4]
    by_cases hk : mu 106 (20 * i) = nI 0
    · rw [msk_n (fun j => ¬mu 106 (20 * j) = nI 0) (fun q => q hk)]
      have ho : ∀ x : Nat, nI x ||| nI 0 = nI x := fun x => Int32.or_zero
      simp (disch := first | omega | assumption) only [h177_0, h177_1, h177_2, h177_3, h177_5, h177_7, h177_10, h177_11, h177_12, h177_13, h177_16, h177_19, h177_20, h177_21, h177_22, h177_25, h177_26, h177_27, h177_28, h177_31, h177_34, h177_35, Option.bind_some, Option.toList_some, Option.toList_none, List.cons_append, List.nil_append, nI_ltc, nI_lec, nI_eqc, nI_ne5, n5_ne, n5_lt, bI_0, bI_1, nI_add, pk_mul, if_pos, if_neg, ite_not, if_true, if_false, not_true_eq_false, not_false_eq_true, true_and, false_and, and_true, and_false, Nat.reduceAdd, Nat.reduceMul, m_isDevice_n, hk, ho]
    · rw [msk_s (fun j => ¬mu 106 (20 * j) = nI 0) hk]
      have ho := or_bit (msk (fun j => ¬mu 106 (20 * j) = nI 0) i) i (by omega) (msk_lt _ _)
      simp (disch := first | omega | assumption) only [h177_0, h177_1, h177_2, h177_3, h177_5, h177_7, h177_10, h177_11, h177_12, h177_13, h177_16, h177_19, h177_20, h177_21, h177_22, h177_25, h177_26, h177_27, h177_28, h177_31, h177_34, h177_35, Option.bind_some, Option.toList_some, Option.toList_none, List.cons_append, List.nil_append, nI_ltc, nI_lec, nI_eqc, nI_ne5, n5_ne, n5_lt, bI_0, bI_1, nI_add, pk_mul, if_pos, if_neg, ite_not, if_true, if_false, not_true_eq_false, not_false_eq_true, true_and, false_and, and_true, and_false, Nat.reduceAdd, Nat.reduceMul, m_isDevice_n, hk, ho]
theorem m_bridgesL : ∀ n i, i + n = 12 → zsem (d + 3) 178 4 [.inr (some 105), .inl (nI (msk (fun j => mu 106 (20 * j) = nI 2) i)), .inl (nI i)] [] (HH L mu p) = some (some (.inl (nI (msk (fun j => mu 106 (20 * j) = nI 2) 12))), HH L mu p) := by
  intro n
  induction n with
  | zero =>
    intro i hi
    have : i = 12 := by omega
    subst this
    rw [h178_4]
    simp (disch := first | omega | assumption) only [h178_0, h178_1, h178_2, h178_3, h178_5, h178_7, h178_10, h178_11, h178_12, h178_13, h178_16, h178_19, h178_20, h178_21, h178_22, h178_25, h178_26, h178_27, h178_28, h178_31, h178_34, h178_35, Option.bind_some, Option.toList_some, Option.toList_none, List.cons_append, List.nil_append, nI_ltc, nI_lec, nI_eqc, nI_ne5, n5_ne, n5_lt, bI_0, bI_1, nI_add, pk_mul, if_pos, if_neg, ite_not, if_true, if_false, not_true_eq_false, not_false_eq_true, true_and, false_and, and_true, and_false, Nat.reduceAdd, Nat.reduceMul]
  | succ n ih =>
    intro i hi
    rw [← ih (i + 1) (by omega), h178_4]
    by_cases hk : mu 106 (20 * i) = nI 2
    · rw [msk_s (fun j => mu 106 (20 * j) = nI 2) hk]
      have ho := or_bit (msk (fun j => mu 106 (20 * j) = nI 2) i) i (by omega) (msk_lt _ _)
      simp (disch := first | omega | assumption) only [h178_0, h178_1, h178_2, h178_3, h178_5, h178_7, h178_10, h178_11, h178_12, h178_13, h178_16, h178_19, h178_20, h178_21, h178_22, h178_25, h178_26, h178_27, h178_28, h178_31, h178_34, h178_35, Option.bind_some, Option.toList_some, Option.toList_none, List.cons_append, List.nil_append, nI_ltc, nI_lec, nI_eqc, nI_ne5, n5_ne, n5_lt, bI_0, bI_1, nI_add, pk_mul, if_pos, if_neg, ite_not, if_true, if_false, not_true_eq_false, not_false_eq_true, true_and, false_and, and_true, and_false, Nat.reduceAdd, Nat.reduceMul, m_isBridge_n, hk, ho]
    · rw [msk_n (fun j => mu 106 (20 * j) = nI 2) hk]
      have ho : ∀ x : Nat, nI x ||| nI 0 = nI x := fun x => Int32.or_zero
      simp (disch := first | omega | assumption) only [h178_0, h178_1, h178_2, h178_3, h178_5, h178_7, h178_10, h178_11, h178_12, h178_13, h178_16, h178_19, h178_20, h178_21, h178_22, h178_25, h178_26, h178_27, h178_28, h178_31, h178_34, h178_35, Option.bind_some, Option.toList_some, Option.toList_none, List.cons_append, List.nil_append, nI_ltc, nI_lec, nI_eqc, nI_ne5, n5_ne, n5_lt, bI_0, bI_1, nI_add, pk_mul, if_pos, if_neg, ite_not, if_true, if_false, not_true_eq_false, not_false_eq_true, true_and, false_and, and_true, and_false, Nat.reduceAdd, Nat.reduceMul, m_isBridge_n, hk, ho]
theorem op_devices (h : Rel mu p) : Pair (d + 3) L 96 [] 177 [.inr none, .inr none] mu p := by
  have e1 := msk_or (fun j => mu 2 j = nI 1) (fun j => mu 2 j = nI 2) (fun j => ¬mu 106 (20 * j) = nI 0) 12 (fun j hj => by
    rw [h.kind hj]
    rcases h.kinds hj with q | q | q <;> rw [q] <;> decide)
  have e2 := nI_or (msk (fun j => mu 2 j = nI 1) 12) (msk (fun j => mu 2 j = nI 2) 12) (Nat.lt_trans (msk_lt _ _) (by omega)) (Nat.lt_trans (msk_lt _ _) (by omega))
  rw [e1] at e2
  refine ⟨nI (msk (fun j => ¬mu 106 (20 * j) = nI 0) 12), mu, p, mu, ?_, ?_, h⟩
  · simp (disch := first | omega | assumption) only [h96_0, h96_1, h96_4, h96_5, h96_8, h96_9, h96_12, h96_13, h96_16, h96_17, Option.bind_some, Option.toList_some, Option.toList_none, List.cons_append, List.nil_append, nI_ltc, nI_lec, nI_eqc, nI_ne5, n5_ne, n5_lt, bI_0, bI_1, nI_add, pk_mul, if_pos, if_neg, ite_not, if_true, if_false, not_true_eq_false, not_false_eq_true, true_and, false_and, and_true, and_false, Nat.reduceAdd, Nat.reduceMul, z_maskOf, e2]
  · rw [← m_devicesL (d + 1) L mu p 12 0 rfl]
    simp (disch := first | omega | assumption) only [h177_0, h177_1, h177_2, h177_3, h177_5, h177_7, h177_10, h177_11, h177_12, h177_13, h177_16, h177_19, h177_20, h177_21, h177_22, h177_25, h177_26, h177_27, h177_28, h177_31, h177_34, h177_35, Option.bind_some, Option.toList_some, Option.toList_none, List.cons_append, List.nil_append, nI_ltc, nI_lec, nI_eqc, nI_ne5, n5_ne, n5_lt, bI_0, bI_1, nI_add, pk_mul, if_pos, if_neg, ite_not, if_true, if_false, not_true_eq_false, not_false_eq_true, true_and, false_and, and_true, and_false, Nat.reduceAdd, Nat.reduceMul]
    rfl
theorem op_bridges (h : Rel mu p) : Pair (d + 3) L 97 [] 178 [.inr none, .inr none] mu p := by
  have e1 := msk_cong (fun j => mu 2 j = nI 2) (fun j => mu 106 (20 * j) = nI 2) 12 (fun j hj => by rw [h.kind hj])
  refine ⟨nI (msk (fun j => mu 106 (20 * j) = nI 2) 12), mu, p, mu, ?_, ?_, h⟩
  · simp (disch := first | omega | assumption) only [h97_0, h97_1, h97_4, h97_5, h97_8, Option.bind_some, Option.toList_some, Option.toList_none, List.cons_append, List.nil_append, nI_ltc, nI_lec, nI_eqc, nI_ne5, n5_ne, n5_lt, bI_0, bI_1, nI_add, pk_mul, if_pos, if_neg, ite_not, if_true, if_false, not_true_eq_false, not_false_eq_true, true_and, false_and, and_true, and_false, Nat.reduceAdd, Nat.reduceMul, z_maskOf, e1]
  · rw [← m_bridgesL d L mu p 12 0 rfl]
    simp (disch := first | omega | assumption) only [h178_0, h178_1, h178_2, h178_3, h178_5, h178_7, h178_10, h178_11, h178_12, h178_13, h178_16, h178_19, h178_20, h178_21, h178_22, h178_25, h178_26, h178_27, h178_28, h178_31, h178_34, h178_35, Option.bind_some, Option.toList_some, Option.toList_none, List.cons_append, List.nil_append, nI_ltc, nI_lec, nI_eqc, nI_ne5, n5_ne, n5_lt, bI_0, bI_1, nI_add, pk_mul, if_pos, if_neg, ite_not, if_true, if_false, not_true_eq_false, not_false_eq_true, true_and, false_and, and_true, and_false, Nat.reduceAdd, Nat.reduceMul]
    rfl
/-- a region without a base -/
def upP (mu : RV) (i : Nat) : Prop := mu 106 (20 * (i / 3)) = nI 1 ∧ nI 0 < mu 106 (20 * (i / 3) + 3 + 3 * (i % 3) + 1) ∧ mu 106 (20 * (i / 3) + 3 + 3 * (i % 3) + 2) = -5
noncomputable def upB (mu : RV) (i : Nat) : Bool := tb (upP mu i)
theorem up_iff (mu : RV) (j q : Nat) (hq : q < 3) : upB mu (3 * j + q) = true ↔ (mu 106 (20 * j) = nI 1 ∧ nI 0 < mu 106 (20 * j + 3 + 3 * q + 1) ∧ mu 106 (20 * j + 3 + 3 * q + 2) = -5) := by
  unfold upB
  rw [tb_iff]
  unfold upP
  rw [show (3 * j + q) / 3 = j by omega, show (3 * j + q) % 3 = q by omega]
theorem m_unplI (j : Nat) (hj : j < 12) (hc : mu 106 (20 * j) = nI 1) : ∀ n q, q + n = 3 → zsem (d + 3) 154 12 [.inr (some 105), .inl (nI (cntP (fun i => upB mu i = true) (3 * j + q))), .inl (nI j), .inl (nI q)] [] (HH L mu p) = zsem (d + 3) 154 4 [.inr (some 105), .inl (nI (cntP (fun i => upB mu i = true) (3 * j + 3))), .inl (nI (j + 1)), .inl (nI 3)] [] (HH L mu p) := by
  intro n
  induction n with
  | zero =>
    intro q hq
    have : q = 3 := by omega
    subst this
    rw [h154_12]
    simp (disch := first | omega | assumption) only [h154_0, h154_1, h154_2, h154_3, h154_5, h154_7, h154_10, h154_11, h154_13, h154_14, h154_17, h154_18, h154_19, h154_22, h154_25, h154_26, h154_27, h154_30, h154_31, h154_32, h154_35, h154_36, h154_37, h154_38, h154_41, h154_42, h154_45, h154_46, h154_47, h154_50, h154_51, h154_52, h154_53, h154_55, h154_58, h154_59, h154_62, h154_63, h154_64, h154_65, h154_68, h154_71, h154_74, h154_77, h154_78, Option.bind_some, Option.toList_some, Option.toList_none, List.cons_append, List.nil_append, nI_ltc, nI_lec, nI_eqc, nI_ne5, n5_ne, n5_lt, bI_0, bI_1, nI_add, pk_mul, if_pos, if_neg, ite_not, if_true, if_false, not_true_eq_false, not_false_eq_true, true_and, false_and, and_true, and_false, Nat.reduceAdd, Nat.reduceMul]
  | succ n ih =>
    intro q hq
    rw [← ih (q + 1) (by omega), h154_12, show 3 * j + (q + 1) = 3 * j + q + 1 by omega]
    have hu := up_iff mu j q (by omega)
    by_cases h1 : nI 0 < mu 106 (20 * j + 3 + 3 * q + 1)
    · have h1' : ¬mu 106 (20 * j + 3 + 3 * q + 1) ≤ nI 0 := by rw [Int32.not_le]; exact h1
      by_cases h2 : mu 106 (20 * j + 3 + 3 * q + 2) = -5
      · rw [cnt_s (fun i => upB mu i = true) (hu.mpr ⟨hc, h1, h2⟩)]
        simp (disch := first | omega | assumption) only [h154_0, h154_1, h154_2, h154_3, h154_5, h154_7, h154_10, h154_11, h154_13, h154_14, h154_17, h154_18, h154_19, h154_22, h154_25, h154_26, h154_27, h154_30, h154_31, h154_32, h154_35, h154_36, h154_37, h154_38, h154_41, h154_42, h154_45, h154_46, h154_47, h154_50, h154_51, h154_52, h154_53, h154_55, h154_58, h154_59, h154_62, h154_63, h154_64, h154_65, h154_68, h154_71, h154_74, h154_77, h154_78, Option.bind_some, Option.toList_some, Option.toList_none, List.cons_append, List.nil_append, nI_ltc, nI_lec, nI_eqc, nI_ne5, n5_ne, n5_lt, bI_0, bI_1, nI_add, pk_mul, if_pos, if_neg, ite_not, if_true, if_false, not_true_eq_false, not_false_eq_true, true_and, false_and, and_true, and_false, Nat.reduceAdd, Nat.reduceMul, m_isCard_n, hc, m_regionAt, h1', h2]
      · rw [cnt_n (fun i => upB mu i = true) (fun g => h2 (hu.mp g).2.2)]
        simp (disch := first | omega | assumption) only [h154_0, h154_1, h154_2, h154_3, h154_5, h154_7, h154_10, h154_11, h154_13, h154_14, h154_17, h154_18, h154_19, h154_22, h154_25, h154_26, h154_27, h154_30, h154_31, h154_32, h154_35, h154_36, h154_37, h154_38, h154_41, h154_42, h154_45, h154_46, h154_47, h154_50, h154_51, h154_52, h154_53, h154_55, h154_58, h154_59, h154_62, h154_63, h154_64, h154_65, h154_68, h154_71, h154_74, h154_77, h154_78, Option.bind_some, Option.toList_some, Option.toList_none, List.cons_append, List.nil_append, nI_ltc, nI_lec, nI_eqc, nI_ne5, n5_ne, n5_lt, bI_0, bI_1, nI_add, pk_mul, if_pos, if_neg, ite_not, if_true, if_false, not_true_eq_false, not_false_eq_true, true_and, false_and, and_true, and_false, Nat.reduceAdd, Nat.reduceMul, m_isCard_n, hc, m_regionAt, h1', h2, Nat.add_zero]
    · have h1' : mu 106 (20 * j + 3 + 3 * q + 1) ≤ nI 0 := by rw [← Int32.not_lt]; exact h1
      rw [cnt_n (fun i => upB mu i = true) (fun g => h1 (hu.mp g).2.1)]
      simp (disch := first | omega | assumption) only [h154_0, h154_1, h154_2, h154_3, h154_5, h154_7, h154_10, h154_11, h154_13, h154_14, h154_17, h154_18, h154_19, h154_22, h154_25, h154_26, h154_27, h154_30, h154_31, h154_32, h154_35, h154_36, h154_37, h154_38, h154_41, h154_42, h154_45, h154_46, h154_47, h154_50, h154_51, h154_52, h154_53, h154_55, h154_58, h154_59, h154_62, h154_63, h154_64, h154_65, h154_68, h154_71, h154_74, h154_77, h154_78, Option.bind_some, Option.toList_some, Option.toList_none, List.cons_append, List.nil_append, nI_ltc, nI_lec, nI_eqc, nI_ne5, n5_ne, n5_lt, bI_0, bI_1, nI_add, pk_mul, if_pos, if_neg, ite_not, if_true, if_false, not_true_eq_false, not_false_eq_true, true_and, false_and, and_true, and_false, Nat.reduceAdd, Nat.reduceMul, m_isCard_n, hc, m_regionAt, h1', Nat.add_zero]
theorem m_unplL : ∀ n j a, j + n = 12 → zsem (d + 3) 154 4 [.inr (some 105), .inl (nI (cntP (fun i => upB mu i = true) (3 * j))), .inl (nI j), a] [] (HH L mu p) = some (some (.inl (nI (cntP (fun i => upB mu i = true) 36))), HH L mu p) := by
  intro n
  induction n with
  | zero =>
    intro j a hj
    have : j = 12 := by omega
    subst this
    rw [h154_4]
    simp (disch := first | omega | assumption) only [h154_0, h154_1, h154_2, h154_3, h154_5, h154_7, h154_10, h154_11, h154_13, h154_14, h154_17, h154_18, h154_19, h154_22, h154_25, h154_26, h154_27, h154_30, h154_31, h154_32, h154_35, h154_36, h154_37, h154_38, h154_41, h154_42, h154_45, h154_46, h154_47, h154_50, h154_51, h154_52, h154_53, h154_55, h154_58, h154_59, h154_62, h154_63, h154_64, h154_65, h154_68, h154_71, h154_74, h154_77, h154_78, Option.bind_some, Option.toList_some, Option.toList_none, List.cons_append, List.nil_append, nI_ltc, nI_lec, nI_eqc, nI_ne5, n5_ne, n5_lt, bI_0, bI_1, nI_add, pk_mul, if_pos, if_neg, ite_not, if_true, if_false, not_true_eq_false, not_false_eq_true, true_and, false_and, and_true, and_false, Nat.reduceAdd, Nat.reduceMul]
  | succ n ih =>
    intro j a hj
    by_cases hc : mu 106 (20 * j) = nI 1
    · rw [← ih (j + 1) (.inl (nI 3)) (by omega), h154_4, show 3 * (j + 1) = 3 * j + 3 by omega, ← m_unplI d L mu p j (by omega) hc 3 0 rfl]
      simp (disch := first | omega | assumption) only [h154_0, h154_1, h154_2, h154_3, h154_5, h154_7, h154_10, h154_11, h154_13, h154_14, h154_17, h154_18, h154_19, h154_22, h154_25, h154_26, h154_27, h154_30, h154_31, h154_32, h154_35, h154_36, h154_37, h154_38, h154_41, h154_42, h154_45, h154_46, h154_47, h154_50, h154_51, h154_52, h154_53, h154_55, h154_58, h154_59, h154_62, h154_63, h154_64, h154_65, h154_68, h154_71, h154_74, h154_77, h154_78, Option.bind_some, Option.toList_some, Option.toList_none, List.cons_append, List.nil_append, nI_ltc, nI_lec, nI_eqc, nI_ne5, n5_ne, n5_lt, bI_0, bI_1, nI_add, pk_mul, if_pos, if_neg, ite_not, if_true, if_false, not_true_eq_false, not_false_eq_true, true_and, false_and, and_true, and_false, Nat.reduceAdd, Nat.reduceMul, Nat.add_zero]
    · have e : cntP (fun i => upB mu i = true) (3 * (j + 1)) = cntP (fun i => upB mu i = true) (3 * j) := by
        rw [show 3 * (j + 1) = 3 * j + 0 + 1 + 1 + 1 by omega]
        rw [cnt_n (n := 3 * j + 0 + 1 + 1) _ (fun g => hc ((up_iff mu j 2 (by omega)).mp g).1), cnt_n (n := 3 * j + 0 + 1) _ (fun g => hc ((up_iff mu j 1 (by omega)).mp g).1), cnt_n (n := 3 * j + 0) _ (fun g => hc ((up_iff mu j 0 (by omega)).mp g).1), Nat.add_zero]
      rw [← ih (j + 1) (.inl (nI 0)) (by omega), h154_4, e]
      simp (disch := first | omega | assumption) only [h154_0, h154_1, h154_2, h154_3, h154_5, h154_7, h154_10, h154_11, h154_13, h154_14, h154_17, h154_18, h154_19, h154_22, h154_25, h154_26, h154_27, h154_30, h154_31, h154_32, h154_35, h154_36, h154_37, h154_38, h154_41, h154_42, h154_45, h154_46, h154_47, h154_50, h154_51, h154_52, h154_53, h154_55, h154_58, h154_59, h154_62, h154_63, h154_64, h154_65, h154_68, h154_71, h154_74, h154_77, h154_78, h154_12, Option.bind_some, Option.toList_some, Option.toList_none, List.cons_append, List.nil_append, nI_ltc, nI_lec, nI_eqc, nI_ne5, n5_ne, n5_lt, bI_0, bI_1, nI_add, pk_mul, if_pos, if_neg, ite_not, if_true, if_false, not_true_eq_false, not_false_eq_true, true_and, false_and, and_true, and_false, Nat.reduceAdd, Nat.reduceMul, ↓reduceIte, m_isCard_n, hc]
theorem m_unplaced : zsem (d + 3) 154 0 [.inr (some 105), .inr none, .inr none, .inr none] [] (HH L mu p) = some (some (.inl (nI (cntP (fun i => upB mu i = true) 36))), HH L mu p) := by
  rw [← m_unplL d L mu p 12 0 (.inr none) rfl]
  simp (disch := first | omega | assumption) only [h154_0, h154_1, h154_2, h154_3, h154_5, h154_7, h154_10, h154_11, h154_13, h154_14, h154_17, h154_18, h154_19, h154_22, h154_25, h154_26, h154_27, h154_30, h154_31, h154_32, h154_35, h154_36, h154_37, h154_38, h154_41, h154_42, h154_45, h154_46, h154_47, h154_50, h154_51, h154_52, h154_53, h154_55, h154_58, h154_59, h154_62, h154_63, h154_64, h154_65, h154_68, h154_71, h154_74, h154_77, h154_78, Option.bind_some, Option.toList_some, Option.toList_none, List.cons_append, List.nil_append, nI_ltc, nI_lec, nI_eqc, nI_ne5, n5_ne, n5_lt, bI_0, bI_1, nI_add, pk_mul, if_pos, if_neg, ite_not, if_true, if_false, not_true_eq_false, not_false_eq_true, true_and, false_and, and_true, and_false, Nat.reduceAdd, Nat.reduceMul]
  rfl
end
