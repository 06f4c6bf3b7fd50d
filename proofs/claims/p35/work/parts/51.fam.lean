/-! families and masks: class -/
noncomputable def tb (p : Prop) : Bool := @decide p (Classical.propDecidable p)
theorem tb_iff (p : Prop) : tb p = true ↔ p := @decide_eq_true_iff p (Classical.propDecidable p)
/-- the device j is x or below x -/
def famP (R : RV) (x j : Nat) : Prop := ¬R 2 j = nI 0 ∧ (j = x ∨ anc R 4 (bn R j) x)
noncomputable def famB (R : RV) (x : Nat) : Nat → Bool := fun j => tb (famP R x j)
section
variable (d L : Nat) (mu : RV) (p : Nat → Nat)
theorem z_within12 (x : Nat) (hx : x < 12) (a0 : Int32) (l : Nat) (hl : l ≤ 5) : zsem (d + 1) 88 5 [.inr (.inl (some 1)), .inl a0, .inl (nI x), .inl (nI 12), .inl (nI l)] [] (HH L mu p) = some (some (.inl (nI 0)), HH L mu p) := by
  have hd := z_isDevice_o d L mu p (nI 12) (Or.inr (by decide))
  rw [h88_5]
  by_cases h : l < 5
  · simp (disch := first | omega | assumption) only [h88_0, h88_1, h88_2, h88_3, h88_7, h88_8, h88_11, h88_12, h88_13, h88_16, h88_17, h88_18, h88_21, h88_24, h88_25, h88_28, h88_29, h88_30, h88_31, h88_34, h88_37, h88_38, h88_39, h88_42, h88_43, h88_46, h88_47_0, h88_47_1, h88_47_b, Option.bind_some, Option.toList_some, Option.toList_none, List.cons_append, List.nil_append, nI_ltc, nI_lec, nI_eqc, nI_ne5, n5_ne, n5_lt, bI_0, bI_1, nI_add, pk_mul, if_pos, if_neg, ite_not, if_true, if_false, not_true_eq_false, not_false_eq_true, true_and, false_and, and_true, and_false, Nat.reduceAdd, Nat.reduceMul, hd]
  · simp (disch := first | omega | assumption) only [h88_0, h88_1, h88_2, h88_3, h88_7, h88_8, h88_11, h88_12, h88_13, h88_16, h88_17, h88_18, h88_21, h88_24, h88_25, h88_28, h88_29, h88_30, h88_31, h88_34, h88_37, h88_38, h88_39, h88_42, h88_43, h88_46, h88_47_0, h88_47_1, h88_47_b, Option.bind_some, Option.toList_some, Option.toList_none, List.cons_append, List.nil_append, nI_ltc, nI_lec, nI_eqc, nI_ne5, n5_ne, n5_lt, bI_0, bI_1, nI_add, pk_mul, if_pos, if_neg, ite_not, if_true, if_false, not_true_eq_false, not_false_eq_true, true_and, false_and, and_true, and_false, Nat.reduceAdd, Nat.reduceMul, hd]
theorem z_withinL (hI : InvT (rk mu 1)) (x : Nat) (hx : x < 12) (a0 : Int32) : ∀ n l a, l + n = 5 → a < 12 → ¬mu 2 a = nI 0 → ∃ v, zsem (d + 1) 88 5 [.inr (.inl (some 1)), .inl a0, .inl (nI x), .inl (nI a), .inl (nI l)] [] (HH L mu p) = some (some (.inl v), HH L mu p) ∧ ((a = x ∨ anc (rk mu 1) n (bn (rk mu 1) a) x) → v = nI 1) ∧ (¬(a = x ∨ anc (rk mu 1) n (bn (rk mu 1) a) x) → v = nI 0) := by
  intro n
  induction n with
  | zero =>
    intro l a hl ha hk
    have : l = 5 := by omega
    subst this
    rw [h88_5]
    by_cases h : a = x
    · subst h
      refine ⟨nI 1, ?_, fun _ => rfl, fun h => absurd (Or.inl rfl) h⟩
      simp (disch := first | omega | assumption) only [h88_0, h88_1, h88_2, h88_3, h88_7, h88_8, h88_11, h88_12, h88_13, h88_16, h88_17, h88_18, h88_21, h88_24, h88_25, h88_28, h88_29, h88_30, h88_31, h88_34, h88_37, h88_38, h88_39, h88_42, h88_43, h88_46, h88_47_0, h88_47_1, h88_47_b, Option.bind_some, Option.toList_some, Option.toList_none, List.cons_append, List.nil_append, nI_ltc, nI_lec, nI_eqc, nI_ne5, n5_ne, n5_lt, bI_0, bI_1, nI_add, pk_mul, if_pos, if_neg, ite_not, if_true, if_false, not_true_eq_false, not_false_eq_true, true_and, false_and, and_true, and_false, Nat.reduceAdd, Nat.reduceMul]
    · refine ⟨nI 0, ?_, fun q => q.elim (fun q => absurd q h) False.elim, fun _ => rfl⟩
      simp (disch := first | omega | assumption) only [h88_0, h88_1, h88_2, h88_3, h88_7, h88_8, h88_11, h88_12, h88_13, h88_16, h88_17, h88_18, h88_21, h88_24, h88_25, h88_28, h88_29, h88_30, h88_31, h88_34, h88_37, h88_38, h88_39, h88_42, h88_43, h88_46, h88_47_0, h88_47_1, h88_47_b, Option.bind_some, Option.toList_some, Option.toList_none, List.cons_append, List.nil_append, nI_ltc, nI_lec, nI_eqc, nI_ne5, n5_ne, n5_lt, bI_0, bI_1, nI_add, pk_mul, if_pos, if_neg, ite_not, if_true, if_false, not_true_eq_false, not_false_eq_true, true_and, false_and, and_true, and_false, Nat.reduceAdd, Nat.reduceMul]
  | succ n ih =>
    intro l a hl ha hk
    by_cases h : a = x
    · subst h
      refine ⟨nI 1, ?_, fun _ => rfl, fun h => absurd (Or.inl rfl) h⟩
      rw [h88_5]
      simp (disch := first | omega | assumption) only [h88_0, h88_1, h88_2, h88_3, h88_7, h88_8, h88_11, h88_12, h88_13, h88_16, h88_17, h88_18, h88_21, h88_24, h88_25, h88_28, h88_29, h88_30, h88_31, h88_34, h88_37, h88_38, h88_39, h88_42, h88_43, h88_46, h88_47_0, h88_47_1, h88_47_b, Option.bind_some, Option.toList_some, Option.toList_none, List.cons_append, List.nil_append, nI_ltc, nI_lec, nI_eqc, nI_ne5, n5_ne, n5_lt, bI_0, bI_1, nI_add, pk_mul, if_pos, if_neg, ite_not, if_true, if_false, not_true_eq_false, not_false_eq_true, true_and, false_and, and_true, and_false, Nat.reduceAdd, Nat.reduceMul]
    · have hb := hI.bus ha (by rw [rk_2 ha]; exact hk)
      obtain ⟨b1, b2, b3⟩ := hb
      rw [rk_3 ha] at b2
      have e : zsem (d + 1) 88 5 [.inr (.inl (some 1)), .inl a0, .inl (nI x), .inl (nI a), .inl (nI l)] [] (HH L mu p) = zsem (d + 1) 88 5 [.inr (.inl (some 1)), .inl a0, .inl (nI x), .inl (nI (bn (rk mu 1) a)), .inl (nI (l + 1))] [] (HH L mu p) := by
        rw [h88_5]
        simp (disch := first | omega | assumption) only [h88_0, h88_1, h88_2, h88_3, h88_7, h88_8, h88_11, h88_12, h88_13, h88_16, h88_17, h88_18, h88_21, h88_24, h88_25, h88_28, h88_29, h88_30, h88_31, h88_34, h88_37, h88_38, h88_39, h88_42, h88_43, h88_46, h88_47_0, h88_47_1, h88_47_b, Option.bind_some, Option.toList_some, Option.toList_none, List.cons_append, List.nil_append, nI_ltc, nI_lec, nI_eqc, nI_ne5, n5_ne, n5_lt, bI_0, bI_1, nI_add, pk_mul, if_pos, if_neg, ite_not, if_true, if_false, not_true_eq_false, not_false_eq_true, true_and, false_and, and_true, and_false, Nat.reduceAdd, Nat.reduceMul, z_isDevice_n, b2]
      rw [e]
      by_cases hq : bn (rk mu 1) a < 12
      · obtain ⟨v, e1, e2, e3⟩ := ih (l + 1) (bn (rk mu 1) a) (by omega) hq (by rw [← rk_2 (mu := mu) hq]; exact k2_ne0 (b3 hq))
        have hw : (a = x ∨ anc (rk mu 1) (n + 1) (bn (rk mu 1) a) x) ↔ (bn (rk mu 1) a = x ∨ anc (rk mu 1) n (bn (rk mu 1) (bn (rk mu 1) a)) x) := by
          show (a = x ∨ (bn (rk mu 1) a < 12 ∧ (bn (rk mu 1) a = x ∨ anc (rk mu 1) n (bn (rk mu 1) (bn (rk mu 1) a)) x))) ↔ _
          simp only [hq, true_and, h, false_or]
        exact ⟨v, e1, fun q => e2 (hw.mp q), fun q => e3 (fun r => q (hw.mpr r))⟩
      · have h12 : bn (rk mu 1) a = 12 := by omega
        rw [h12]
        refine ⟨nI 0, z_within12 d L mu p x hx a0 (l + 1) (by omega), fun q => ?_, fun _ => rfl⟩
        rcases q with q | q
        · exact absurd q h
        · have := q.1; omega
theorem z_isWithin (hI : InvT (rk mu 1)) (j x : Nat) (hj : j < 12) (hx : x < 12) (hk : ¬mu 2 j = nI 0) : ∃ v, zsem (d + 1) 88 0 [.inr (.inl (some 1)), .inl (nI j), .inl (nI x), .inr (.inl none), .inr (.inl none)] [] (HH L mu p) = some (some (.inl v), HH L mu p) ∧ (famP (rk mu 1) x j → v = nI 1) ∧ (¬famP (rk mu 1) x j → v = nI 0) := by
  obtain ⟨v, e1, e2, e3⟩ := z_withinL d L mu p hI x hx (nI j) 4 1 j rfl hj hk
  have hk' : ¬rk mu 1 2 j = nI 0 := by rw [rk_2 hj]; exact hk
  refine ⟨v, ?_, fun q => e2 q.2, fun q => e3 (fun r => q ⟨hk', r⟩)⟩
  rw [← e1]
  simp (disch := first | omega | assumption) only [h88_0, h88_1, h88_2, h88_3, h88_7, h88_8, h88_11, h88_12, h88_13, h88_16, h88_17, h88_18, h88_21, h88_24, h88_25, h88_28, h88_29, h88_30, h88_31, h88_34, h88_37, h88_38, h88_39, h88_42, h88_43, h88_46, h88_47_0, h88_47_1, h88_47_b, Option.bind_some, Option.toList_some, Option.toList_none, List.cons_append, List.nil_append, nI_ltc, nI_lec, nI_eqc, nI_ne5, n5_ne, n5_lt, bI_0, bI_1, nI_add, pk_mul, if_pos, if_neg, ite_not, if_true, if_false, not_true_eq_false, not_false_eq_true, true_and, false_and, and_true, and_false, Nat.reduceAdd, Nat.reduceMul]
theorem z_familyL (hI : InvT (rk mu 1)) (x : Nat) (hx : x < 12) : ∀ n i, i + n = 12 → zsem (d + 2) 87 4 [.inr (.inl (some 1)), .inl (nI x), .inl (nI (msk (fun j => famB (rk mu 1) x j = true) i)), .inl (nI i)] [] (HH L mu p) = some (some (.inl (nI (msk (fun j => famB (rk mu 1) x j = true) 12))), HH L mu p) := by
  intro n
  induction n with
  | zero =>
    intro i hi
    have : i = 12 := by omega
    subst this
    rw [h87_4]
    simp (disch := first | omega | assumption) only [h87_0, h87_1, h87_2, h87_3, h87_5, h87_7, h87_10, h87_11, h87_12, h87_15, h87_18, h87_19, h87_20, h87_21, h87_24, h87_27, h87_28, h87_29, h87_30, h87_31, h87_32, h87_33, h87_36, h87_39, h87_40, Option.bind_some, Option.toList_some, Option.toList_none, List.cons_append, List.nil_append, nI_ltc, nI_lec, nI_eqc, nI_ne5, n5_ne, n5_lt, bI_0, bI_1, nI_add, pk_mul, if_pos, if_neg, ite_not, if_true, if_false, not_true_eq_false, not_false_eq_true, true_and, false_and, and_true, and_false, Nat.reduceAdd, Nat.reduceMul]
  | succ n ih =>
    intro i hi
    rw [← ih (i + 1) (by omega), h87_4]
    have hi12 : i < 12 := by omega
    by_cases hk : mu 2 i = nI 0
    · have hf : ¬famB (rk mu 1) x i = true := by
        intro q
        have := ((tb_iff _).mp q).1
        rw [rk_2 hi12] at this
        exact this hk
      have e : msk (fun j => famB (rk mu 1) x j = true) (i + 1) = msk (fun j => famB (rk mu 1) x j = true) i := msk_n _ hf
      rw [e]
      simp (disch := first | omega | assumption) only [h87_0, h87_1, h87_2, h87_3, h87_5, h87_7, h87_10, h87_11, h87_12, h87_15, h87_18, h87_19, h87_20, h87_21, h87_24, h87_27, h87_28, h87_29, h87_30, h87_31, h87_32, h87_33, h87_36, h87_39, h87_40, Option.bind_some, Option.toList_some, Option.toList_none, List.cons_append, List.nil_append, nI_ltc, nI_lec, nI_eqc, nI_ne5, n5_ne, n5_lt, bI_0, bI_1, nI_add, pk_mul, if_pos, if_neg, ite_not, if_true, if_false, not_true_eq_false, not_false_eq_true, true_and, false_and, and_true, and_false, Nat.reduceAdd, Nat.reduceMul, z_isDevice_n, hk]
    · obtain ⟨v, e1, e2, e3⟩ := z_isWithin d L mu p hI i x hi12 hx hk
      by_cases hw : famP (rk mu 1) x i
      · have e : msk (fun j => famB (rk mu 1) x j = true) (i + 1) = msk (fun j => famB (rk mu 1) x j = true) i + 2 ^ i := msk_s _ ((tb_iff _).mpr hw)
        have ho := or_bit (msk (fun j => famB (rk mu 1) x j = true) i) i hi12 (msk_lt _ _)
        rw [e2 hw] at e1
        rw [e]
        simp (disch := first | omega | assumption) only [h87_0, h87_1, h87_2, h87_3, h87_5, h87_7, h87_10, h87_11, h87_12, h87_15, h87_18, h87_19, h87_20, h87_21, h87_24, h87_27, h87_28, h87_29, h87_30, h87_31, h87_32, h87_33, h87_36, h87_39, h87_40, Option.bind_some, Option.toList_some, Option.toList_none, List.cons_append, List.nil_append, nI_ltc, nI_lec, nI_eqc, nI_ne5, n5_ne, n5_lt, bI_0, bI_1, nI_add, pk_mul, if_pos, if_neg, ite_not, if_true, if_false, not_true_eq_false, not_false_eq_true, true_and, false_and, and_true, and_false, Nat.reduceAdd, Nat.reduceMul, z_isDevice_n, hk, e1, ho]
      · have e : msk (fun j => famB (rk mu 1) x j = true) (i + 1) = msk (fun j => famB (rk mu 1) x j = true) i := msk_n _ (fun q => hw ((tb_iff _).mp q))
        rw [e3 hw] at e1
        rw [e]
        simp (disch := first | omega | assumption) only [h87_0, h87_1, h87_2, h87_3, h87_5, h87_7, h87_10, h87_11, h87_12, h87_15, h87_18, h87_19, h87_20, h87_21, h87_24, h87_27, h87_28, h87_29, h87_30, h87_31, h87_32, h87_33, h87_36, h87_39, h87_40, Option.bind_some, Option.toList_some, Option.toList_none, List.cons_append, List.nil_append, nI_ltc, nI_lec, nI_eqc, nI_ne5, n5_ne, n5_lt, bI_0, bI_1, nI_add, pk_mul, if_pos, if_neg, ite_not, if_true, if_false, not_true_eq_false, not_false_eq_true, true_and, false_and, and_true, and_false, Nat.reduceAdd, Nat.reduceMul, z_isDevice_n, hk, e1]
theorem z_familyOf (hI : InvT (rk mu 1)) (x : Nat) (hx : x < 12) : zsem (d + 2) 87 0 [.inr (.inl (some 1)), .inl (nI x), .inr (.inl none), .inr (.inl none)] [] (HH L mu p) = some (some (.inl (nI (msk (fun j => famB (rk mu 1) x j = true) 12))), HH L mu p) := by
  rw [← z_familyL d L mu p hI x hx 12 0 rfl]
  simp (disch := first | omega | assumption) only [h87_0, h87_1, h87_2, h87_3, h87_5, h87_7, h87_10, h87_11, h87_12, h87_15, h87_18, h87_19, h87_20, h87_21, h87_24, h87_27, h87_28, h87_29, h87_30, h87_31, h87_32, h87_33, h87_36, h87_39, h87_40, Option.bind_some, Option.toList_some, Option.toList_none, List.cons_append, List.nil_append, nI_ltc, nI_lec, nI_eqc, nI_ne5, n5_ne, n5_lt, bI_0, bI_1, nI_add, pk_mul, if_pos, if_neg, ite_not, if_true, if_false, not_true_eq_false, not_false_eq_true, true_and, false_and, and_true, and_false, Nat.reduceAdd, Nat.reduceMul]
  rfl
theorem z_maskL (k : Int32) : ∀ n i, i + n = 12 → zsem d 28 4 [.inr (.inl (some 1)), .inl k, .inl (nI (msk (fun j => mu 2 j = k) i)), .inl (nI i)] [] (HH L mu p) = some (some (.inl (nI (msk (fun j => mu 2 j = k) 12))), HH L mu p) := by
  intro n
  induction n with
  | zero =>
    intro i hi
    have : i = 12 := by omega
    subst this
    rw [h28_4]
    simp (disch := first | omega | assumption) only [h28_0, h28_1, h28_2, h28_3, h28_5, h28_7, h28_10, h28_11, h28_14, h28_15, h28_16, h28_17, h28_20, h28_21, h28_22, h28_23, h28_24, h28_25, h28_26, h28_29, h28_32, h28_33, Option.bind_some, Option.toList_some, Option.toList_none, List.cons_append, List.nil_append, nI_ltc, nI_lec, nI_eqc, nI_ne5, n5_ne, n5_lt, bI_0, bI_1, nI_add, pk_mul, if_pos, if_neg, ite_not, if_true, if_false, not_true_eq_false, not_false_eq_true, true_and, false_and, and_true, and_false, Nat.reduceAdd, Nat.reduceMul]
  | succ n ih =>
    intro i hi
    rw [← ih (i + 1) (by omega), h28_4]
    by_cases hk : mu 2 i = k
    · have e : msk (fun j => mu 2 j = k) (i + 1) = msk (fun j => mu 2 j = k) i + 2 ^ i := msk_s _ hk
      have ho := or_bit (msk (fun j => mu 2 j = k) i) i (by omega) (msk_lt _ _)
      rw [e]
      subst hk
      simp (disch := first | omega | assumption) only [h28_0, h28_1, h28_2, h28_3, h28_5, h28_7, h28_10, h28_11, h28_14, h28_15, h28_16, h28_17, h28_20, h28_21, h28_22, h28_23, h28_24, h28_25, h28_26, h28_29, h28_32, h28_33, Option.bind_some, Option.toList_some, Option.toList_none, List.cons_append, List.nil_append, nI_ltc, nI_lec, nI_eqc, nI_ne5, n5_ne, n5_lt, bI_0, bI_1, nI_add, pk_mul, if_pos, if_neg, ite_not, if_true, if_false, not_true_eq_false, not_false_eq_true, true_and, false_and, and_true, and_false, Nat.reduceAdd, Nat.reduceMul, ho]
    · have e : msk (fun j => mu 2 j = k) (i + 1) = msk (fun j => mu 2 j = k) i := msk_n _ hk
      rw [e]
      simp (disch := first | omega | assumption) only [h28_0, h28_1, h28_2, h28_3, h28_5, h28_7, h28_10, h28_11, h28_14, h28_15, h28_16, h28_17, h28_20, h28_21, h28_22, h28_23, h28_24, h28_25, h28_26, h28_29, h28_32, h28_33, Option.bind_some, Option.toList_some, Option.toList_none, List.cons_append, List.nil_append, nI_ltc, nI_lec, nI_eqc, nI_ne5, n5_ne, n5_lt, bI_0, bI_1, nI_add, pk_mul, if_pos, if_neg, ite_not, if_true, if_false, not_true_eq_false, not_false_eq_true, true_and, false_and, and_true, and_false, Nat.reduceAdd, Nat.reduceMul, hk]
theorem z_maskOf (k : Int32) : zsem d 28 0 [.inr (.inl (some 1)), .inl k, .inr (.inl none), .inr (.inl none)] [] (HH L mu p) = some (some (.inl (nI (msk (fun j => mu 2 j = k) 12))), HH L mu p) := by
  rw [← z_maskL d L mu p k 12 0 rfl]
  simp (disch := first | omega | assumption) only [h28_0, h28_1, h28_2, h28_3, h28_5, h28_7, h28_10, h28_11, h28_14, h28_15, h28_16, h28_17, h28_20, h28_21, h28_22, h28_23, h28_24, h28_25, h28_26, h28_29, h28_32, h28_33, Option.bind_some, Option.toList_some, Option.toList_none, List.cons_append, List.nil_append, nI_ltc, nI_lec, nI_eqc, nI_ne5, n5_ne, n5_lt, bI_0, bI_1, nI_add, pk_mul, if_pos, if_neg, ite_not, if_true, if_false, not_true_eq_false, not_false_eq_true, true_and, false_and, and_true, and_false, Nat.reduceAdd, Nat.reduceMul]
  rfl
end
