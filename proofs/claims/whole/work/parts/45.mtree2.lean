/-- x is b or a bridge above b -/
def anc (R : RV) : Nat → Nat → Nat → Prop
  | 0, _, _ => False
  | n + 1, b, x => b < 12 ∧ (b = x ∨ anc R n (bn R b) x)
theorem rt_up {R : RV} : ∀ {n m b : Nat}, rt R n b → n ≤ m → rt R m b := by
  intro n
  induction n with
  | zero =>
    intro m b h hm
    have : b = 12 := h
    subst this
    cases m with
    | zero => rfl
    | succ m => exact Or.inl rfl
  | succ n ih =>
    intro m b h hm
    cases m with
    | zero => omega
    | succ m =>
      rcases h with h | ⟨h1, h2, h3⟩
      · exact Or.inl h
      · exact Or.inr ⟨h1, h2, ih h3 (by omega)⟩
theorem dpt_12 (R : RV) (n : Nat) : dpt R n 12 = 0 := by
  cases n with
  | zero => rfl
  | succ n => rw [dpt_s, if_neg (by omega)]
theorem dpt_up {R : RV} : ∀ {n m b : Nat}, rt R n b → n ≤ m → dpt R m b = dpt R n b := by
  intro n
  induction n with
  | zero =>
    intro m b h hm
    have : b = 12 := h
    subst this
    rw [dpt_12, dpt_12]
  | succ n ih =>
    intro m b h hm
    cases m with
    | zero => omega
    | succ m =>
      rcases h with h | ⟨h1, h2, h3⟩
      · subst h; rw [dpt_12, dpt_12]
      · rw [dpt_s, dpt_s, if_pos ⟨h1, h2⟩, if_pos ⟨h1, h2⟩, ih h3 (by omega)]
theorem dpt_le {R : RV} : ∀ {n b : Nat}, dpt R n b ≤ n := by
  intro n
  induction n with
  | zero => intro b; exact Nat.le_refl _
  | succ n ih =>
    intro b
    rw [dpt_s]
    split
    · have := @ih (bn R b); omega
    · omega
section
variable (d L : Nat) (mu : Nat → Nat → Int32) (p : Nat → Nat)
theorem m_inSlot {R : RV} (hB : RelB R (fun t => mu 106 t)) (hI : InvT R) (b s : Nat) (hb : b < 13) (hs : s < 4) : zsem (d + 2) 124 0 [.inr (some 105), .inl (nI b), .inl (nI s), .inr none, .inr none] [] (HH L mu p) = some (some (.inl (R 5 (b * 4 + s))), HH L mu p) := by
  generalize hv : R 5 (b * 4 + s) = v
  obtain ⟨f, e, hf⟩ := loopE (fun i (f : Int32) => zsem (d + 2) 124 6 [.inr (some 105), .inl (nI b), .inl (nI s), .inl f, .inl (nI i)] [] (HH L mu p)) 12 (fun i f => ((∃ x, x < i ∧ v = nI x) → f = v) ∧ ((¬∃ x, x < i ∧ v = nI x) → f = -5)) (fun i f hi hP => by
    obtain ⟨r0, r1⟩ := hB.2 i hi
    dsimp only at r0 r1
    by_cases h0 : mu 106 (20 * i) = nI 0
    · refine ⟨f, ?_, ?_⟩
      · rw [h124_6]
        simp (disch := first | omega | assumption) only [h124_0, h124_2, h124_3, h124_4, h124_8, h124_10, h124_13, h124_14, h124_16, h124_19, h124_22, h124_23, h124_26, h124_28, h124_31, h124_32, h124_33, h124_34, h124_35, h124_38, h124_39, h124_42, h124_44, h124_47, h124_48, h124_49, h124_50, h124_51, h124_54, h124_56, h124_59, h124_60, h124_61, h124_64, h124_67, h124_68, Option.bind_some, Option.toList_some, Option.toList_none, List.cons_append, List.nil_append, nI_ltc, nI_lec, nI_eqc, nI_ne5, n5_ne, n5_lt, bI_0, bI_1, nI_add, pk_mul, if_pos, if_neg, ite_not, if_true, if_false, not_true_eq_false, not_false_eq_true, true_and, false_and, and_true, and_false, Nat.reduceAdd, Nat.reduceMul, m_isDevice_n, h0]
      · have hne : ¬v = nI i := by
          intro h
          rcases hI.2.2.1 b s hb hs with q | ⟨x, hx, q1, q2, q3, q4⟩
          · rw [hv, h, nI_ne5 (by omega)] at q; exact q
          · rw [hv, h, nI_eqc (by omega) (by omega)] at q1
            subst q1
            exact q2 (by rw [← r0]; exact h0)
        refine ⟨fun ⟨x, w1, w2⟩ => hP.1 ⟨x, ?_, w2⟩, fun h => hP.2 (fun ⟨x, w1, w2⟩ => h ⟨x, by omega, w2⟩)⟩
        by_cases hx : x = i
        · subst hx; exact absurd w2 hne
        · omega
    · obtain ⟨r1, r2, -⟩ := r1 (by rw [← r0]; exact h0)
      by_cases h1 : mu 106 (20 * i + 1) = nI b
      · by_cases h2 : mu 106 (20 * i + 2) = nI s
        · have hvi : v = nI i := by
            obtain ⟨b', s', g1, g2, g3, g4, g5, -⟩ := hI.2.1 i hi (by rw [← r0]; exact h0)
            rw [← r1, h1, nI_eqc (by omega) (by omega)] at g3
            rw [← r2, h2, nI_eqc (by omega) (by omega)] at g4
            subst g3; subst g4
            rw [← hv, g5]
          refine ⟨nI i, ?_, fun _ => hvi.symm, fun h => absurd ⟨i, Nat.lt_succ_self _, hvi⟩ h⟩
          rw [h124_6]
          simp (disch := first | omega | assumption) only [h124_0, h124_2, h124_3, h124_4, h124_8, h124_10, h124_13, h124_14, h124_16, h124_19, h124_22, h124_23, h124_26, h124_28, h124_31, h124_32, h124_33, h124_34, h124_35, h124_38, h124_39, h124_42, h124_44, h124_47, h124_48, h124_49, h124_50, h124_51, h124_54, h124_56, h124_59, h124_60, h124_61, h124_64, h124_67, h124_68, Option.bind_some, Option.toList_some, Option.toList_none, List.cons_append, List.nil_append, nI_ltc, nI_lec, nI_eqc, nI_ne5, n5_ne, n5_lt, bI_0, bI_1, nI_add, pk_mul, if_pos, if_neg, ite_not, if_true, if_false, not_true_eq_false, not_false_eq_true, true_and, false_and, and_true, and_false, Nat.reduceAdd, Nat.reduceMul, m_isDevice_n, h0, m_at, h1, h2]
        · refine ⟨f, ?_, ?_⟩
          · rw [h124_6]
            simp (disch := first | omega | assumption) only [h124_0, h124_2, h124_3, h124_4, h124_8, h124_10, h124_13, h124_14, h124_16, h124_19, h124_22, h124_23, h124_26, h124_28, h124_31, h124_32, h124_33, h124_34, h124_35, h124_38, h124_39, h124_42, h124_44, h124_47, h124_48, h124_49, h124_50, h124_51, h124_54, h124_56, h124_59, h124_60, h124_61, h124_64, h124_67, h124_68, Option.bind_some, Option.toList_some, Option.toList_none, List.cons_append, List.nil_append, nI_ltc, nI_lec, nI_eqc, nI_ne5, n5_ne, n5_lt, bI_0, bI_1, nI_add, pk_mul, if_pos, if_neg, ite_not, if_true, if_false, not_true_eq_false, not_false_eq_true, true_and, false_and, and_true, and_false, Nat.reduceAdd, Nat.reduceMul, m_isDevice_n, h0, m_at, h1, h2]
          · have hne : ¬v = nI i := by
              intro h
              rcases hI.2.2.1 b s hb hs with q | ⟨x, hx, q1, q2, q3, q4⟩
              · rw [hv, h, nI_ne5 (by omega)] at q; exact q
              · rw [hv, h, nI_eqc (by omega) (by omega)] at q1
                subst q1
                exact h2 (by rw [r2]; exact q4)
            refine ⟨fun ⟨x, w1, w2⟩ => hP.1 ⟨x, ?_, w2⟩, fun h => hP.2 (fun ⟨x, w1, w2⟩ => h ⟨x, by omega, w2⟩)⟩
            by_cases hx : x = i
            · subst hx; exact absurd w2 hne
            · omega
      · refine ⟨f, ?_, ?_⟩
        · rw [h124_6]
          simp (disch := first | omega | assumption) only [h124_0, h124_2, h124_3, h124_4, h124_8, h124_10, h124_13, h124_14, h124_16, h124_19, h124_22, h124_23, h124_26, h124_28, h124_31, h124_32, h124_33, h124_34, h124_35, h124_38, h124_39, h124_42, h124_44, h124_47, h124_48, h124_49, h124_50, h124_51, h124_54, h124_56, h124_59, h124_60, h124_61, h124_64, h124_67, h124_68, Option.bind_some, Option.toList_some, Option.toList_none, List.cons_append, List.nil_append, nI_ltc, nI_lec, nI_eqc, nI_ne5, n5_ne, n5_lt, bI_0, bI_1, nI_add, pk_mul, if_pos, if_neg, ite_not, if_true, if_false, not_true_eq_false, not_false_eq_true, true_and, false_and, and_true, and_false, Nat.reduceAdd, Nat.reduceMul, m_isDevice_n, h0, m_at, h1]
        · have hne : ¬v = nI i := by
            intro h
            rcases hI.2.2.1 b s hb hs with q | ⟨x, hx, q1, q2, q3, q4⟩
            · rw [hv, h, nI_ne5 (by omega)] at q; exact q
            · rw [hv, h, nI_eqc (by omega) (by omega)] at q1
              subst q1
              exact h1 (by rw [r1]; exact q3)
          refine ⟨fun ⟨x, w1, w2⟩ => hP.1 ⟨x, ?_, w2⟩, fun h => hP.2 (fun ⟨x, w1, w2⟩ => h ⟨x, by omega, w2⟩)⟩
          by_cases hx : x = i
          · subst hx; exact absurd w2 hne
          · omega) 12 0 (-5) rfl ⟨fun ⟨x, h, _⟩ => by omega, fun _ => rfl⟩
  have e0 : zsem (d + 2) 124 0 [.inr (some 105), .inl (nI b), .inl (nI s), .inr none, .inr none] [] (HH L mu p) = zsem (d + 2) 124 6 [.inr (some 105), .inl (nI b), .inl (nI s), .inl (-5), .inl (nI 0)] [] (HH L mu p) := by
    simp (disch := first | omega | assumption) only [h124_0, h124_2, h124_3, h124_4, h124_8, h124_10, h124_13, h124_14, h124_16, h124_19, h124_22, h124_23, h124_26, h124_28, h124_31, h124_32, h124_33, h124_34, h124_35, h124_38, h124_39, h124_42, h124_44, h124_47, h124_48, h124_49, h124_50, h124_51, h124_54, h124_56, h124_59, h124_60, h124_61, h124_64, h124_67, h124_68, Option.bind_some, Option.toList_some, Option.toList_none, List.cons_append, List.nil_append, nI_ltc, nI_lec, nI_eqc, nI_ne5, n5_ne, n5_lt, bI_0, bI_1, nI_add, pk_mul, if_pos, if_neg, ite_not, if_true, if_false, not_true_eq_false, not_false_eq_true, true_and, false_and, and_true, and_false, Nat.reduceAdd, Nat.reduceMul]
  rw [e0]
  refine e.trans ?_
  have hfv : f = v := by
    rcases hI.2.2.1 b s hb hs with q | ⟨x, hx, q1, -⟩
    · rw [hv] at q
      rw [hf.2 (fun ⟨x, h1, h2⟩ => by rw [q, n5_ne (by omega)] at h2; exact h2), q]
    · rw [hv] at q1
      exact hf.1 ⟨x, hx, q1⟩
  subst hfv
  rw [h124_6]
  simp (disch := first | omega | assumption) only [h124_0, h124_2, h124_3, h124_4, h124_8, h124_10, h124_13, h124_14, h124_16, h124_19, h124_22, h124_23, h124_26, h124_28, h124_31, h124_32, h124_33, h124_34, h124_35, h124_38, h124_39, h124_42, h124_44, h124_47, h124_48, h124_49, h124_50, h124_51, h124_54, h124_56, h124_59, h124_60, h124_61, h124_64, h124_67, h124_68, Option.bind_some, Option.toList_some, Option.toList_none, List.cons_append, List.nil_append, nI_ltc, nI_lec, nI_eqc, nI_ne5, n5_ne, n5_lt, bI_0, bI_1, nI_add, pk_mul, if_pos, if_neg, ite_not, if_true, if_false, not_true_eq_false, not_false_eq_true, true_and, false_and, and_true, and_false, Nat.reduceAdd, Nat.reduceMul]
theorem m_depthL {R : RV} (hB : RelB R (fun t => mu 106 t)) (hI : InvT R) (b0 : Int32) : ∀ n k c, rt R n c → zsem (d + 1) 125 4 [.inr (some 105), .inl b0, .inl (nI k), .inl (nI c)] [] (HH L mu p) = some (some (.inl (nI (k + dpt R n c))), HH L mu p) := by
  intro n
  induction n with
  | zero =>
    intro k c h
    have : c = 12 := h
    subst this
    rw [h125_4]
    simp (disch := first | omega | assumption) only [h125_0, h125_1, h125_2, h125_3, h125_5, h125_7, h125_10, h125_13, h125_14, h125_17, h125_18, h125_21, h125_22, h125_23, h125_24, h125_25, h125_28, h125_29, Option.bind_some, Option.toList_some, Option.toList_none, List.cons_append, List.nil_append, nI_ltc, nI_lec, nI_eqc, nI_ne5, n5_ne, n5_lt, bI_0, bI_1, nI_add, pk_mul, if_pos, if_neg, ite_not, if_true, if_false, not_true_eq_false, not_false_eq_true, true_and, false_and, and_true, and_false, Nat.reduceAdd, Nat.reduceMul, dpt, Nat.add_zero]
  | succ n ih =>
    intro k c h
    rw [h125_4]
    rcases h with rfl | ⟨h1, h2, h3⟩
    · rw [dpt_12]
      simp (disch := first | omega | assumption) only [h125_0, h125_1, h125_2, h125_3, h125_5, h125_7, h125_10, h125_13, h125_14, h125_17, h125_18, h125_21, h125_22, h125_23, h125_24, h125_25, h125_28, h125_29, Option.bind_some, Option.toList_some, Option.toList_none, List.cons_append, List.nil_append, nI_ltc, nI_lec, nI_eqc, nI_ne5, n5_ne, n5_lt, bI_0, bI_1, nI_add, pk_mul, if_pos, if_neg, ite_not, if_true, if_false, not_true_eq_false, not_false_eq_true, true_and, false_and, and_true, and_false, Nat.reduceAdd, Nat.reduceMul, Nat.add_zero]
    · obtain ⟨r0, r1⟩ := hB.2 c h1
      dsimp only at r0 r1
      obtain ⟨r1, -⟩ := r1 (k2_ne0 h2)
      obtain ⟨g1, g2, -⟩ := hI.bus h1 (k2_ne0 h2)
      rw [g2] at r1
      simp (disch := first | omega | assumption) only [h125_0, h125_1, h125_2, h125_3, h125_5, h125_7, h125_10, h125_13, h125_14, h125_17, h125_18, h125_21, h125_22, h125_23, h125_24, h125_25, h125_28, h125_29, Option.bind_some, Option.toList_some, Option.toList_none, List.cons_append, List.nil_append, nI_ltc, nI_lec, nI_eqc, nI_ne5, n5_ne, n5_lt, bI_0, bI_1, nI_add, pk_mul, if_pos, if_neg, ite_not, if_true, if_false, not_true_eq_false, not_false_eq_true, true_and, false_and, and_true, and_false, Nat.reduceAdd, Nat.reduceMul, m_at, r1]
      rw [ih (k + 1) _ h3, dpt_s, if_pos ⟨h1, h2⟩]
      simp only [Option.some.injEq, Prod.mk.injEq, Sum.inl.injEq, and_true]
      congr 1
      omega
theorem m_depthOf {R : RV} (hB : RelB R (fun t => mu 106 t)) (hI : InvT R) (n c : Nat) (h : rt R n c) : zsem (d + 1) 125 0 [.inr (some 105), .inl (nI c), .inr none, .inr none] [] (HH L mu p) = some (some (.inl (nI (dpt R n c))), HH L mu p) := by
  simp (disch := first | omega | assumption) only [h125_0, h125_1, h125_2, h125_3, h125_5, h125_7, h125_10, h125_13, h125_14, h125_17, h125_18, h125_21, h125_22, h125_23, h125_24, h125_25, h125_28, h125_29, Option.bind_some, Option.toList_some, Option.toList_none, List.cons_append, List.nil_append, nI_ltc, nI_lec, nI_eqc, nI_ne5, n5_ne, n5_lt, bI_0, bI_1, nI_add, pk_mul, if_pos, if_neg, ite_not, if_true, if_false, not_true_eq_false, not_false_eq_true, true_and, false_and, and_true, and_false, Nat.reduceAdd, Nat.reduceMul]
  rw [m_depthL d L mu p hB hI (nI c) n 0 c h, Nat.zero_add]
theorem m_belowL {R : RV} (hB : RelB R (fun t => mu 106 t)) (hI : InvT R) (a0 : Int32) (x : Nat) (hx : x < 12) : ∀ n c w, (w = nI 0 ∨ w = nI 1) → rt R n c → ∃ v, zsem (d + 1) 141 15 [.inr (some 105), .inl a0, .inl (nI x), .inl w, .inl (nI c)] [] (HH L mu p) = some (some (.inl v), HH L mu p) ∧ ((w = nI 1 ∨ anc R n c x) → v = nI 1) ∧ (¬(w = nI 1 ∨ anc R n c x) → v = nI 0) := by
  intro n
  induction n with
  | zero =>
    intro c w hw h
    have : c = 12 := h
    subst this
    refine ⟨w, ?_, fun h => h.elim id False.elim, fun h => hw.resolve_right (fun q => h (Or.inl q))⟩
    rw [h141_15]
    rcases hw with rfl | rfl
    · simp (disch := first | omega | assumption) only [h141_0, h141_1, h141_2, h141_3, h141_6, h141_7, h141_10, h141_11, h141_12, h141_13, h141_17, h141_19, h141_22, h141_23, h141_26, h141_28, h141_29, h141_32, h141_33, h141_36, h141_37, h141_38, h141_39, h141_42, h141_44, h141_47, h141_48, h141_49, h141_50, h141_52, h141_55, h141_56_0, h141_56_1, h141_56_b, Option.bind_some, Option.toList_some, Option.toList_none, List.cons_append, List.nil_append, nI_ltc, nI_lec, nI_eqc, nI_ne5, n5_ne, n5_lt, bI_0, bI_1, nI_add, pk_mul, if_pos, if_neg, ite_not, if_true, if_false, not_true_eq_false, not_false_eq_true, true_and, false_and, and_true, and_false, Nat.reduceAdd, Nat.reduceMul]
    · simp (disch := first | omega | assumption) only [h141_0, h141_1, h141_2, h141_3, h141_6, h141_7, h141_10, h141_11, h141_12, h141_13, h141_17, h141_19, h141_22, h141_23, h141_26, h141_28, h141_29, h141_32, h141_33, h141_36, h141_37, h141_38, h141_39, h141_42, h141_44, h141_47, h141_48, h141_49, h141_50, h141_52, h141_55, h141_56_0, h141_56_1, h141_56_b, Option.bind_some, Option.toList_some, Option.toList_none, List.cons_append, List.nil_append, nI_ltc, nI_lec, nI_eqc, nI_ne5, n5_ne, n5_lt, bI_0, bI_1, nI_add, pk_mul, if_pos, if_neg, ite_not, if_true, if_false, not_true_eq_false, not_false_eq_true, true_and, false_and, and_true, and_false, Nat.reduceAdd, Nat.reduceMul]
  | succ n ih =>
    intro c w hw h
    rw [h141_15]
    rcases h with rfl | ⟨h1, h2, h3⟩
    · refine ⟨w, ?_, fun h => h.elim id (fun q => by have := q.1; omega), fun h => hw.resolve_right (fun q => h (Or.inl q))⟩
      rcases hw with rfl | rfl
      · simp (disch := first | omega | assumption) only [h141_0, h141_1, h141_2, h141_3, h141_6, h141_7, h141_10, h141_11, h141_12, h141_13, h141_17, h141_19, h141_22, h141_23, h141_26, h141_28, h141_29, h141_32, h141_33, h141_36, h141_37, h141_38, h141_39, h141_42, h141_44, h141_47, h141_48, h141_49, h141_50, h141_52, h141_55, h141_56_0, h141_56_1, h141_56_b, Option.bind_some, Option.toList_some, Option.toList_none, List.cons_append, List.nil_append, nI_ltc, nI_lec, nI_eqc, nI_ne5, n5_ne, n5_lt, bI_0, bI_1, nI_add, pk_mul, if_pos, if_neg, ite_not, if_true, if_false, not_true_eq_false, not_false_eq_true, true_and, false_and, and_true, and_false, Nat.reduceAdd, Nat.reduceMul]
      · simp (disch := first | omega | assumption) only [h141_0, h141_1, h141_2, h141_3, h141_6, h141_7, h141_10, h141_11, h141_12, h141_13, h141_17, h141_19, h141_22, h141_23, h141_26, h141_28, h141_29, h141_32, h141_33, h141_36, h141_37, h141_38, h141_39, h141_42, h141_44, h141_47, h141_48, h141_49, h141_50, h141_52, h141_55, h141_56_0, h141_56_1, h141_56_b, Option.bind_some, Option.toList_some, Option.toList_none, List.cons_append, List.nil_append, nI_ltc, nI_lec, nI_eqc, nI_ne5, n5_ne, n5_lt, bI_0, bI_1, nI_add, pk_mul, if_pos, if_neg, ite_not, if_true, if_false, not_true_eq_false, not_false_eq_true, true_and, false_and, and_true, and_false, Nat.reduceAdd, Nat.reduceMul]
    · obtain ⟨r0, r1⟩ := hB.2 c h1
      dsimp only at r0 r1
      obtain ⟨r1, -⟩ := r1 (k2_ne0 h2)
      obtain ⟨g1, g2, -⟩ := hI.bus h1 (k2_ne0 h2)
      rw [g2] at r1
      by_cases hc : c = x
      · subst hc
        obtain ⟨v, e1, e2, e3⟩ := ih (bn R c) (nI 1) (Or.inr rfl) h3
        refine ⟨v, ?_, fun _ => e2 (Or.inl rfl), fun h => absurd (Or.inr ⟨h1, Or.inl rfl⟩) h⟩
        rw [← e1]
        rcases hw with rfl | rfl
        · simp (disch := first | omega | assumption) only [h141_0, h141_1, h141_2, h141_3, h141_6, h141_7, h141_10, h141_11, h141_12, h141_13, h141_17, h141_19, h141_22, h141_23, h141_26, h141_28, h141_29, h141_32, h141_33, h141_36, h141_37, h141_38, h141_39, h141_42, h141_44, h141_47, h141_48, h141_49, h141_50, h141_52, h141_55, h141_56_0, h141_56_1, h141_56_b, Option.bind_some, Option.toList_some, Option.toList_none, List.cons_append, List.nil_append, nI_ltc, nI_lec, nI_eqc, nI_ne5, n5_ne, n5_lt, bI_0, bI_1, nI_add, pk_mul, if_pos, if_neg, ite_not, if_true, if_false, not_true_eq_false, not_false_eq_true, true_and, false_and, and_true, and_false, Nat.reduceAdd, Nat.reduceMul, m_at, r1]
        · simp (disch := first | omega | assumption) only [h141_0, h141_1, h141_2, h141_3, h141_6, h141_7, h141_10, h141_11, h141_12, h141_13, h141_17, h141_19, h141_22, h141_23, h141_26, h141_28, h141_29, h141_32, h141_33, h141_36, h141_37, h141_38, h141_39, h141_42, h141_44, h141_47, h141_48, h141_49, h141_50, h141_52, h141_55, h141_56_0, h141_56_1, h141_56_b, Option.bind_some, Option.toList_some, Option.toList_none, List.cons_append, List.nil_append, nI_ltc, nI_lec, nI_eqc, nI_ne5, n5_ne, n5_lt, bI_0, bI_1, nI_add, pk_mul, if_pos, if_neg, ite_not, if_true, if_false, not_true_eq_false, not_false_eq_true, true_and, false_and, and_true, and_false, Nat.reduceAdd, Nat.reduceMul, m_at, r1]
      · obtain ⟨v, e1, e2, e3⟩ := ih (bn R c) w hw h3
        have hq : (w = nI 1 ∨ anc R (n + 1) c x) ↔ (w = nI 1 ∨ anc R n (bn R c) x) := by
          show (w = nI 1 ∨ (c < 12 ∧ (c = x ∨ anc R n (bn R c) x))) ↔ _
          simp only [h1, true_and, hc, false_or]
        refine ⟨v, ?_, fun h => e2 (hq.mp h), fun h => e3 (fun q => h (hq.mpr q))⟩
        rw [← e1]
        rcases hw with rfl | rfl
        · simp (disch := first | omega | assumption) only [h141_0, h141_1, h141_2, h141_3, h141_6, h141_7, h141_10, h141_11, h141_12, h141_13, h141_17, h141_19, h141_22, h141_23, h141_26, h141_28, h141_29, h141_32, h141_33, h141_36, h141_37, h141_38, h141_39, h141_42, h141_44, h141_47, h141_48, h141_49, h141_50, h141_52, h141_55, h141_56_0, h141_56_1, h141_56_b, Option.bind_some, Option.toList_some, Option.toList_none, List.cons_append, List.nil_append, nI_ltc, nI_lec, nI_eqc, nI_ne5, n5_ne, n5_lt, bI_0, bI_1, nI_add, pk_mul, if_pos, if_neg, ite_not, if_true, if_false, not_true_eq_false, not_false_eq_true, true_and, false_and, and_true, and_false, Nat.reduceAdd, Nat.reduceMul, m_at, r1, hc]
        · simp (disch := first | omega | assumption) only [h141_0, h141_1, h141_2, h141_3, h141_6, h141_7, h141_10, h141_11, h141_12, h141_13, h141_17, h141_19, h141_22, h141_23, h141_26, h141_28, h141_29, h141_32, h141_33, h141_36, h141_37, h141_38, h141_39, h141_42, h141_44, h141_47, h141_48, h141_49, h141_50, h141_52, h141_55, h141_56_0, h141_56_1, h141_56_b, Option.bind_some, Option.toList_some, Option.toList_none, List.cons_append, List.nil_append, nI_ltc, nI_lec, nI_eqc, nI_ne5, n5_ne, n5_lt, bI_0, bI_1, nI_add, pk_mul, if_pos, if_neg, ite_not, if_true, if_false, not_true_eq_false, not_false_eq_true, true_and, false_and, and_true, and_false, Nat.reduceAdd, Nat.reduceMul, m_at, r1, hc]
theorem m_isBelow {R : RV} (hB : RelB R (fun t => mu 106 t)) (hI : InvT R) (j x : Nat) (hj : j < 12) (hk : ¬R 2 j = nI 0) (hx : x < 12) : ∃ v, zsem (d + 1) 141 0 [.inr (some 105), .inl (nI j), .inl (nI x), .inr none, .inr none] [] (HH L mu p) = some (some (.inl v), HH L mu p) ∧ (anc R 4 (bn R j) x → v = nI 1) ∧ (¬anc R 4 (bn R j) x → v = nI 0) := by
  obtain ⟨r0, r1⟩ := hB.2 j hj
  dsimp only at r0 r1
  obtain ⟨r1, -⟩ := r1 hk
  obtain ⟨g1, g2, -⟩ := hI.bus hj hk
  rw [g2] at r1
  obtain ⟨v, e1, e2, e3⟩ := m_belowL d L mu p hB hI (nI j) x hx 4 (bn R j) (nI 0) (Or.inl rfl) (hI.2.2.2 j hj hk)
  refine ⟨v, ?_, fun h => e2 (Or.inr h), fun h => e3 (fun q => q.elim (fun q => absurd q (by decide)) h)⟩
  rw [← e1]
  simp (disch := first | omega | assumption) only [h141_0, h141_1, h141_2, h141_3, h141_6, h141_7, h141_10, h141_11, h141_12, h141_13, h141_17, h141_19, h141_22, h141_23, h141_26, h141_28, h141_29, h141_32, h141_33, h141_36, h141_37, h141_38, h141_39, h141_42, h141_44, h141_47, h141_48, h141_49, h141_50, h141_52, h141_55, h141_56_0, h141_56_1, h141_56_b, Option.bind_some, Option.toList_some, Option.toList_none, List.cons_append, List.nil_append, nI_ltc, nI_lec, nI_eqc, nI_ne5, n5_ne, n5_lt, bI_0, bI_1, nI_add, pk_mul, if_pos, if_neg, ite_not, if_true, if_false, not_true_eq_false, not_false_eq_true, true_and, false_and, and_true, and_false, Nat.reduceAdd, Nat.reduceMul, m_at, r1]
end
