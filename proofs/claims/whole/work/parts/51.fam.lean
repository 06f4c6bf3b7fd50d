/-! families and masks: class -/
noncomputable def tb (p : Prop) : Bool := @decide p (Classical.propDecidable p)
theorem tb_iff (p : Prop) : tb p = true ↔ p := @decide_eq_true_iff p (Classical.propDecidable p)
/-- the device j is x or below x -/
def famP (R : RV) (x j : Nat) : Prop := ¬R 2 j = nI 0 ∧ (j = x ∨ anc R 4 (bn R j) x)
noncomputable def famB (R : RV) (x : Nat) : Nat → Bool := fun j => tb (famP R x j)
section
variable (d L : Nat) (mu : RV) (p : Nat → Nat)
theorem z_within12 (x : Nat) (hx : x < 12) (a0 : Int32) (l : Nat) (hl : l ≤ 5) : zsem (d + 1) 40 5 [.inr (some 1), .inl a0, .inl (nI x), .inl (nI 12), .inl (nI l)] [] (HH L mu p) = some (some (.inl (nI 0)), HH L mu p) := by
  have hd := z_isDevice_o d L mu p (nI 12) (Or.inr (by decide))
  rw [h40_5]
  by_cases h : l < 5
  · simp (disch := first | omega | assumption) only [h40_0, h40_1, h40_2, h40_3, h40_7, h40_8, h40_11, h40_12, h40_13, h40_16, h40_17, h40_18, h40_21, h40_24, h40_25, h40_28, h40_29, h40_30, h40_31, h40_34, h40_37, h40_38, h40_39, h40_42, h40_43, h40_46, h40_47_0, h40_47_1, h40_47_b, Option.bind_some, Option.toList_some, Option.toList_none, List.cons_append, List.nil_append, nI_ltc, nI_lec, nI_eqc, nI_ne5, n5_ne, n5_lt, bI_0, bI_1, nI_add, pk_mul, if_pos, if_neg, ite_not, if_true, if_false, not_true_eq_false, not_false_eq_true, true_and, false_and, and_true, and_false, Nat.reduceAdd, Nat.reduceMul, hd]
  · simp (disch := first | omega | assumption) only [h40_0, h40_1, h40_2, h40_3, h40_7, h40_8, h40_11, h40_12, h40_13, h40_16, h40_17, h40_18, h40_21, h40_24, h40_25, h40_28, h40_29, h40_30, h40_31, h40_34, h40_37, h40_38, h40_39, h40_42, h40_43, h40_46, h40_47_0, h40_47_1, h40_47_b, Option.bind_some, Option.toList_some, Option.toList_none, List.cons_append, List.nil_append, nI_ltc, nI_lec, nI_eqc, nI_ne5, n5_ne, n5_lt, bI_0, bI_1, nI_add, pk_mul, if_pos, if_neg, ite_not, if_true, if_false, not_true_eq_false, not_false_eq_true, true_and, false_and, and_true, and_false, Nat.reduceAdd, Nat.reduceMul, hd]
theorem z_withinL (hI : InvT (rk mu 1)) (x : Nat) (hx : x < 12) (a0 : Int32) : ∀ n l a, l + n = 5 → a < 12 → ¬mu 2 a = nI 0 → ∃ v, zsem (d + 1) 40 5 [.inr (some 1), .inl a0, .inl (nI x), .inl (nI a), .inl (nI l)] [] (HH L mu p) = some (some (.inl v), HH L mu p) ∧ ((a = x ∨ anc (rk mu 1) n (bn (rk mu 1) a) x) → v = nI 1) ∧ (¬(a = x ∨ anc (rk mu 1) n (bn (rk mu 1) a) x) → v = nI 0) := by
  intro n
  induction n with
  | zero =>
    intro l a hl ha hk
    have : l = 5 := by omega
    subst this
    rw [h40_5]
    by_cases h : a = x
    · subst h
      refine ⟨nI 1, ?_, fun _ => rfl, fun h => absurd (Or.inl rfl) h⟩
      simp (disch := first | omega | assumption) only [h40_0, h40_1, h40_2, h40_3, h40_7, h40_8, h40_11, h40_12, h40_13, h40_16, h40_17, h40_18, h40_21, h40_24, h40_25, h40_28, h40_29, h40_30, h40_31, h40_34, h40_37, h40_38, h40_39, h40_42, h40_43, h40_46, h40_47_0, h40_47_1, h40_47_b, Option.bind_some, Option.toList_some, Option.toList_none, List.cons_append, List.nil_append, nI_ltc, nI_lec, nI_eqc, nI_ne5, n5_ne, n5_lt, bI_0, bI_1, nI_add, pk_mul, if_pos, if_neg, ite_not, if_true, if_false, not_true_eq_false, not_false_eq_true, true_and, false_and, and_true, and_false, Nat.reduceAdd, Nat.reduceMul]
    · refine ⟨nI 0, ?_, fun q => q.elim (fun q => absurd q h) False.elim, fun _ => rfl⟩
      simp (disch := first | omega | assumption) only [h40_0, h40_1, h40_2, h40_3, h40_7, h40_8, h40_11, h40_12, h40_13, h40_16, h40_17, h40_18, h40_21, h40_24, h40_25, h40_28, h40_29, h40_30, h40_31, h40_34, h40_37, h40_38, h40_39, h40_42, h40_43, h40_46, h40_47_0, h40_47_1, h40_47_b, Option.bind_some, Option.toList_some, Option.toList_none, List.cons_append, List.nil_append, nI_ltc, nI_lec, nI_eqc, nI_ne5, n5_ne, n5_lt, bI_0, bI_1, nI_add, pk_mul, if_pos, if_neg, ite_not, if_true, if_false, not_true_eq_false, not_false_eq_true, true_and, false_and, and_true, and_false, Nat.reduceAdd, Nat.reduceMul]
  | succ n ih =>
    intro l a hl ha hk
    by_cases h : a = x
    · subst h
      refine ⟨nI 1, ?_, fun _ => rfl, fun h => absurd (Or.inl rfl) h⟩
      rw [h40_5]
      simp (disch := first | omega | assumption) only [h40_0, h40_1, h40_2, h40_3, h40_7, h40_8, h40_11, h40_12, h40_13, h40_16, h40_17, h40_18, h40_21, h40_24, h40_25, h40_28, h40_29, h40_30, h40_31, h40_34, h40_37, h40_38, h40_39, h40_42, h40_43, h40_46, h40_47_0, h40_47_1, h40_47_b, Option.bind_some, Option.toList_some, Option.toList_none, List.cons_append, List.nil_append, nI_ltc, nI_lec, nI_eqc, nI_ne5, n5_ne, n5_lt, bI_0, bI_1, nI_add, pk_mul, if_pos, if_neg, ite_not, if_true, if_false, not_true_eq_false, not_false_eq_true, true_and, false_and, and_true, and_false, Nat.reduceAdd, Nat.reduceMul]
    · have hb := hI.bus ha (by rw [rk_2 ha]; exact hk)
      obtain ⟨b1, b2, b3⟩ := hb
      rw [rk_3 ha] at b2
      have e : zsem (d + 1) 40 5 [.inr (some 1), .inl a0, .inl (nI x), .inl (nI a), .inl (nI l)] [] (HH L mu p) = zsem (d + 1) 40 5 [.inr (some 1), .inl a0, .inl (nI x), .inl (nI (bn (rk mu 1) a)), .inl (nI (l + 1))] [] (HH L mu p) := by
        rw [h40_5]
        simp (disch := first | omega | assumption) only [h40_0, h40_1, h40_2, h40_3, h40_7, h40_8, h40_11, h40_12, h40_13, h40_16, h40_17, h40_18, h40_21, h40_24, h40_25, h40_28, h40_29, h40_30, h40_31, h40_34, h40_37, h40_38, h40_39, h40_42, h40_43, h40_46, h40_47_0, h40_47_1, h40_47_b, Option.bind_some, Option.toList_some, Option.toList_none, List.cons_append, List.nil_append, nI_ltc, nI_lec, nI_eqc, nI_ne5, n5_ne, n5_lt, bI_0, bI_1, nI_add, pk_mul, if_pos, if_neg, ite_not, if_true, if_false, not_true_eq_false, not_false_eq_true, true_and, false_and, and_true, and_false, Nat.reduceAdd, Nat.reduceMul, z_isDevice_n, b2]
      rw [e]
      by_cases hq : bn (rk mu 1) a < 12
      · obtain ⟨v, e1, e2, e3⟩ := ih (l + 1) (bn (rk mu 1) a) (by omega) hq (by rw [← rk_2 (mu := mu) hq]; exact k2_ne0 (b3 hq))
        have hw : (a = x ∨ anc (rk mu 1) (n + 1) (bn (rk mu 1) a) x) ↔ (bn (rk mu 1) a = x ∨ anc (rk mu 1) n (bn (rk mu 1) (bn (rk mu 1) a)) x) := by
          show (a = x ∨ (bn (rk mu 1) a < 12 ∧ (bn (rk mu 1) a = x ∨ anc (rk mu 1) n (bn (rk mu 1) (bn (rk mu 1) a)) x))) ↔ _
          simp only [hq, true_and, h, false_or]
        exact ⟨v, e1, fun q => e2 (hw.mp q), fun q => e3 (fun r => q (hw.mpr r))⟩
      · have h12 : bn (rk mu 1) a = 12 := by omega
        rw [h12]
        refine ⟨nI 0, z_within12 d L mu p x hx a0 (l + 1) (by omega), fun q => ?_, fun _ => rfl⟩
        rcases q with q | q
        · exact absurd q h
        · have := q.1; omega
theorem z_isWithin (hI : InvT (rk mu 1)) (j x : Nat) (hj : j < 12) (hx : x < 12) (hk : ¬mu 2 j = nI 0) : ∃ v, zsem (d + 1) 40 0 [.inr (some 1), .inl (nI j), .inl (nI x), .inr none, .inr none] [] (HH L mu p) = some (some (.inl v), HH L mu p) ∧ (famP (rk mu 1) x j → v = nI 1) ∧ (¬famP (rk mu 1) x j → v = nI 0) := by
  obtain ⟨v, e1, e2, e3⟩ := z_withinL d L mu p hI x hx (nI j) 4 1 j rfl hj hk
  have hk' : ¬rk mu 1 2 j = nI 0 := by rw [rk_2 hj]; exact hk
  refine ⟨v, ?_, fun q => e2 q.2, fun q => e3 (fun r => q ⟨hk', r⟩)⟩
  rw [← e1]
  simp (disch := first | omega | assumption) only [h40_0, h40_1, h40_2, h40_3, h40_7, h40_8, h40_11, h40_12, h40_13, h40_16, h40_17, h40_18, h40_21, h40_24, h40_25, h40_28, h40_29, h40_30, h40_31, h40_34, h40_37, h40_38, h40_39, h40_42, h40_43, h40_46, h40_47_0, h40_47_1, h40_47_b, Option.bind_some, Option.toList_some, Option.toList_none, List.cons_append, List.nil_append, nI_ltc, nI_lec, nI_eqc, nI_ne5, n5_ne, n5_lt, bI_0, bI_1, nI_add, pk_mul, if_pos, if_neg, ite_not, if_true, if_false, not_true_eq_false, not_false_eq_true, true_and, false_and, and_true, and_false, Nat.reduceAdd, Nat.reduceMul]
theorem z_familyL (hI : InvT (rk mu 1)) (x : Nat) (hx : x < 12) : ∀ n i, i + n = 12 → zsem (d + 2) 39 4 [.inr (some 1), .inl (nI x), .inl (nI (msk (fun j => famB (rk mu 1) x j = true) i)), .inl (nI i)] [] (HH L mu p) = some (some (.inl (nI (msk (fun j => famB (rk mu 1) x j = true) 12))), HH L mu p) := by
  intro n
  induction n with
  | zero =>
    intro i hi
    have : i = 12 := by omega
    subst this
    rw [h39_4]
    simp (disch := first | omega | assumption) only [h39_0, h39_1, h39_2, h39_3, h39_5, h39_7, h39_10, h39_11, h39_12, h39_15, h39_18, h39_19, h39_20, h39_21, h39_24, h39_27, h39_28, h39_29, h39_30, h39_31, h39_32, h39_33, h39_36, h39_39, h39_40, Option.bind_some, Option.toList_some, Option.toList_none, List.cons_append, List.nil_append, nI_ltc, nI_lec, nI_eqc, nI_ne5, n5_ne, n5_lt, bI_0, bI_1, nI_add, pk_mul, if_pos, if_neg, ite_not, if_true, if_false, not_true_eq_false, not_false_eq_true, true_and, false_and, and_true, and_false, Nat.reduceAdd, Nat.reduceMul]
  | succ n ih =>
    intro i hi
    rw [← ih (i + 1) (by omega), h39_4]
    have hi12 : i < 12 := by omega
    by_cases hk : mu 2 i = nI 0
    · have hf : ¬famB (rk mu 1) x i = true := by
        intro q
        have := ((tb_iff _).mp q).1
        rw [rk_2 hi12] at this
        exact this hk
      have e : msk (fun j => famB (rk mu 1) x j = true) (i + 1) = msk (fun j => famB (rk mu 1) x j = true) i := msk_n _ hf
      rw [e]
      simp (disch := first | omega | assumption) only [h39_0, h39_1, h39_2, h39_3, h39_5, h39_7, h39_10, h39_11, h39_12, h39_15, h39_18, h39_19, h39_20, h39_21, h39_24, h39_27, h39_28, h39_29, h39_30, h39_31, h39_32, h39_33, h39_36, h39_39, h39_40, Option.bind_some, Option.toList_some, Option.toList_none, List.cons_append, List.nil_append, nI_ltc, nI_lec, nI_eqc, nI_ne5, n5_ne, n5_lt, bI_0, bI_1, nI_add, pk_mul, if_pos, if_neg, ite_not, if_true, if_false, not_true_eq_false, not_false_eq_true, true_and, false_and, and_true, and_false, Nat.reduceAdd, Nat.reduceMul, z_isDevice_n, hk]
    · obtain ⟨v, e1, e2, e3⟩ := z_isWithin d L mu p hI i x hi12 hx hk
      by_cases hw : famP (rk mu 1) x i
      · have e : msk (fun j => famB (rk mu 1) x j = true) (i + 1) = msk (fun j => famB (rk mu 1) x j = true) i + 2 ^ i := msk_s _ ((tb_iff _).mpr hw)
        have ho := or_bit (msk (fun j => famB (rk mu 1) x j = true) i) i hi12 (msk_lt _ _)
        rw [e2 hw] at e1
        rw [e]
        simp (disch := first | omega | assumption) only [h39_0, h39_1, h39_2, h39_3, h39_5, h39_7, h39_10, h39_11, h39_12, h39_15, h39_18, h39_19, h39_20, h39_21, h39_24, h39_27, h39_28, h39_29, h39_30, h39_31, h39_32, h39_33, h39_36, h39_39, h39_40, Option.bind_some, Option.toList_some, Option.toList_none, List.cons_append, List.nil_append, nI_ltc, nI_lec, nI_eqc, nI_ne5, n5_ne, n5_lt, bI_0, bI_1, nI_add, pk_mul, if_pos, if_neg, ite_not, if_true, if_false, not_true_eq_false, not_false_eq_true, true_and, false_and, and_true, and_false, Nat.reduceAdd, Nat.reduceMul, z_isDevice_n, hk, e1, ho]
      · have e : msk (fun j => famB (rk mu 1) x j = true) (i + 1) = msk (fun j => famB (rk mu 1) x j = true) i := msk_n _ (fun q => hw ((tb_iff _).mp q))
        rw [e3 hw] at e1
        rw [e]
        simp (disch := first | omega | assumption) only [h39_0, h39_1, h39_2, h39_3, h39_5, h39_7, h39_10, h39_11, h39_12, h39_15, h39_18, h39_19, h39_20, h39_21, h39_24, h39_27, h39_28, h39_29, h39_30, h39_31, h39_32, h39_33, h39_36, h39_39, h39_40, Option.bind_some, Option.toList_some, Option.toList_none, List.cons_append, List.nil_append, nI_ltc, nI_lec, nI_eqc, nI_ne5, n5_ne, n5_lt, bI_0, bI_1, nI_add, pk_mul, if_pos, if_neg, ite_not, if_true, if_false, not_true_eq_false, not_false_eq_true, true_and, false_and, and_true, and_false, Nat.reduceAdd, Nat.reduceMul, z_isDevice_n, hk, e1]
theorem z_familyOf (hI : InvT (rk mu 1)) (x : Nat) (hx : x < 12) : zsem (d + 2) 39 0 [.inr (some 1), .inl (nI x), .inr none, .inr none] [] (HH L mu p) = some (some (.inl (nI (msk (fun j => famB (rk mu 1) x j = true) 12))), HH L mu p) := by
  rw [← z_familyL d L mu p hI x hx 12 0 rfl]
  simp (disch := first | omega | assumption) only [h39_0, h39_1, h39_2, h39_3, h39_5, h39_7, h39_10, h39_11, h39_12, h39_15, h39_18, h39_19, h39_20, h39_21, h39_24, h39_27, h39_28, h39_29, h39_30, h39_31, h39_32, h39_33, h39_36, h39_39, h39_40, Option.bind_some, Option.toList_some, Option.toList_none, List.cons_append, List.nil_append, nI_ltc, nI_lec, nI_eqc, nI_ne5, n5_ne, n5_lt, bI_0, bI_1, nI_add, pk_mul, if_pos, if_neg, ite_not, if_true, if_false, not_true_eq_false, not_false_eq_true, true_and, false_and, and_true, and_false, Nat.reduceAdd, Nat.reduceMul]
  rfl
theorem z_maskL (k : Int32) : ∀ n i, i + n = 12 → zsem d 91 4 [.inr (some 1), .inl k, .inl (nI (msk (fun j => mu 2 j = k) i)), .inl (nI i)] [] (HH L mu p) = some (some (.inl (nI (msk (fun j => mu 2 j = k) 12))), HH L mu p) := by
  intro n
  induction n with
  | zero =>
    intro i hi
    have : i = 12 := by omega
    subst this
    rw [h91_4]
    simp (disch := first | omega | assumption) only [h91_0, h91_1, h91_2, h91_3, h91_5, h91_7, h91_10, h91_11, h91_14, h91_15, h91_16, h91_17, h91_20, h91_21, h91_22, h91_23, h91_24, h91_25, h91_26, h91_29, h91_32, h91_33, Option.bind_some, Option.toList_some, Option.toList_none, List.cons_append, List.nil_append, nI_ltc, nI_lec, nI_eqc, nI_ne5, n5_ne, n5_lt, bI_0, bI_1, nI_add, pk_mul, if_pos, if_neg, ite_not, if_true, if_false, not_true_eq_false, not_false_eq_true, true_and, false_and, and_true, and_false, Nat.reduceAdd, Nat.reduceMul]
  | succ n ih =>
    intro i hi
    rw [← ih (i + 1) (by omega), h91_4]
    by_cases hk : mu 2 i = k
    · have e : msk (fun j => mu 2 j = k) (i + 1) = msk (fun j => mu 2 j = k) i + 2 ^ i := msk_s _ hk
      have ho := or_bit (msk (fun j => mu 2 j = k) i) i (by omega) (msk_lt _ _)
      rw [e]
      subst hk
      simp (disch := first | omega | assumption) only [h91_0, h91_1, h91_2, h91_3, h91_5, h91_7, h91_10, h91_11, h91_14, h91_15, h91_16, h91_17, h91_20, h91_21, h91_22, h91_23, h91_24, h91_25, h91_26, h91_29, h91_32, h91_33, Option.bind_some, Option.toList_some, Option.toList_none, List.cons_append, List.nil_append, nI_ltc, nI_lec, nI_eqc, nI_ne5, n5_ne, n5_lt, bI_0, bI_1, nI_add, pk_mul, if_pos, if_neg, ite_not, if_true, if_false, not_true_eq_false, not_false_eq_true, true_and, false_and, and_true, and_false, Nat.reduceAdd, Nat.reduceMul, ho]
    · have e : msk (fun j => mu 2 j = k) (i + 1) = msk (fun j => mu 2 j = k) i := msk_n _ hk
      rw [e]
      simp (disch := first | omega | assumption) only [h91_0, h91_1, h91_2, h91_3, h91_5, h91_7, h91_10, h91_11, h91_14, h91_15, h91_16, h91_17, h91_20, h91_21, h91_22, h91_23, h91_24, h91_25, h91_26, h91_29, h91_32, h91_33, Option.bind_some, Option.toList_some, Option.toList_none, List.cons_append, List.nil_append, nI_ltc, nI_lec, nI_eqc, nI_ne5, n5_ne, n5_lt, bI_0, bI_1, nI_add, pk_mul, if_pos, if_neg, ite_not, if_true, if_false, not_true_eq_false, not_false_eq_true, true_and, false_and, and_true, and_false, Nat.reduceAdd, Nat.reduceMul, hk]
theorem z_maskOf (k : Int32) : zsem d 91 0 [.inr (some 1), .inl k, .inr none, .inr none] [] (HH L mu p) = some (some (.inl (nI (msk (fun j => mu 2 j = k) 12))), HH L mu p) := by
  rw [← z_maskL d L mu p k 12 0 rfl]
  simp (disch := first | omega | assumption) only [h91_0, h91_1, h91_2, h91_3, h91_5, h91_7, h91_10, h91_11, h91_14, h91_15, h91_16, h91_17, h91_20, h91_21, h91_22, h91_23, h91_24, h91_25, h91_26, h91_29, h91_32, h91_33, Option.bind_some, Option.toList_some, Option.toList_none, List.cons_append, List.nil_append, nI_ltc, nI_lec, nI_eqc, nI_ne5, n5_ne, n5_lt, bI_0, bI_1, nI_add, pk_mul, if_pos, if_neg, ite_not, if_true, if_false, not_true_eq_false, not_false_eq_true, true_and, false_and, and_true, and_false, Nat.reduceAdd, Nat.reduceMul]
  rfl
theorem z_countDevices : zsem (d + 1) 90 0 [.inr (some 1)] [] (HH L mu p) = some (some (.inl (nI (cntP (fun j => ¬mu 2 j = nI 0) 12))), HH L mu p) := by
  have h1 := bc_ok (msk (fun j => mu 2 j = nI 0) 12) (msk_lt _ _)
  rw [pop_msk] at h1
  have h2 := cnt_not (fun j => mu 2 j = nI 0) 12
  have h3 : nI 12 - nI (cntP (fun j => mu 2 j = nI 0) 12) = nI (cntP (fun j => ¬mu 2 j = nI 0) 12) := by
    rw [nI_sub (by omega)]
    congr 1
    omega
  simp (disch := first | omega | assumption) only [h90_0, h90_2, h90_3, h90_4, h90_7, h90_10, h90_11, Option.bind_some, Option.toList_some, Option.toList_none, List.cons_append, List.nil_append, nI_ltc, nI_lec, nI_eqc, nI_ne5, n5_ne, n5_lt, bI_0, bI_1, nI_add, pk_mul, if_pos, if_neg, ite_not, if_true, if_false, not_true_eq_false, not_false_eq_true, true_and, false_and, and_true, and_false, Nat.reduceAdd, Nat.reduceMul, z_maskOf, z_bitCount, h1, h3]
end
