/-! detach -/
theorem anc_cong {R R' : RV} (h3 : R' 3 = R 3) (x : Nat) : ∀ n b, anc R' n b x = anc R n b x := by
  intro n
  induction n with
  | zero => intro b; rfl
  | succ n ih =>
    intro b
    show (b < 12 ∧ (b = x ∨ anc R' n (bn R' b) x)) = (b < 12 ∧ (b = x ∨ anc R n (bn R b) x))
    rw [bn_cong h3, ih]
theorem cnt3 (P : Nat → Prop) [DecidablePred P] (j : Nat) : cntP P (3 * (j + 1)) = cntP P (3 * j) + (if P (3 * j) then 1 else 0) + (if P (3 * j + 1) then 1 else 0) + (if P (3 * j + 2) then 1 else 0) := by
  rw [show 3 * (j + 1) = 3 * j + 1 + 1 + 1 by omega]
  rfl
/-- a region with a base -/
def bsP (mu : RV) (i : Nat) : Prop := mu 106 (20 * (i / 3)) = nI 1 ∧ ¬mu 106 (20 * (i / 3) + 3 + 3 * (i % 3) + 2) = -5
noncomputable def bsB (mu : RV) (i : Nat) : Bool := tb (bsP mu i)
theorem bs_iff (mu : RV) (j q : Nat) (hq : q < 3) : bsB mu (3 * j + q) = true ↔ (mu 106 (20 * j) = nI 1 ∧ ¬mu 106 (20 * j + 3 + 3 * q + 2) = -5) := by
  unfold bsB
  rw [tb_iff]
  unfold bsP
  rw [show (3 * j + q) / 3 = j by omega, show (3 * j + q) % 3 = q by omega]
theorem based_eq {R mu : RV} (hB : RelB R (fun t => mu 106 t)) (hA : InvA R) : cntP (fun i => bsB mu i = true) 36 = cntP (fun i => ¬R 8 i = -5) 36 := by
  refine cnt_cong _ _ 36 (fun i hi => ?_)
  have hi3 : i = 3 * (i / 3) + i % 3 := by omega
  have hu := bs_iff mu (i / 3) (i % 3) (by omega)
  rw [← hi3] at hu
  rw [hu]
  have hj : i / 3 < 12 := by omega
  have e3 : i / 3 * 3 + i % 3 = i := by omega
  obtain ⟨h0, h1⟩ := hB.dv hj
  dsimp only at h0 h1
  rw [h0]
  by_cases hk : R 2 (i / 3) = nI 1
  · have a2 := ((h1 (k1_ne0 hk)).2.2.1 (i % 3) (by omega)).2.1
    rw [e3] at a2
    rw [a2]
    exact ⟨fun q => q.2, fun q => ⟨hk, q⟩⟩
  · have a := (hA.1 (i / 3) hj hk (i % 3) (by omega)).2
    rw [e3] at a
    exact ⟨fun q => absurd q.1 hk, fun q => absurd a q⟩
theorem lost_sum (R : RV) (f : Nat → Bool) : ∀ n, n ≤ 12 → cntP (fun i => ¬R 8 i = -5) (3 * n) = cntP (fun i => ¬relS R f 12 8 i = -5) (3 * n) + lostS R f n := by
  intro n
  induction n with
  | zero => intro _; rfl
  | succ n ih =>
    intro hn
    have e := ih (by omega)
    rw [cnt3, cnt3, e]
    have r0 : 3 * n = n * 3 + 0 := by omega
    have r1 : 3 * n + 1 = n * 3 + 1 := by omega
    have r2 : 3 * n + 2 = n * 3 + 2 := by omega
    show _ = _ + (lostS R f n + if f n = true then lost R n else 0)
    by_cases hf : f n = true
    · obtain ⟨-, -, -, l⟩ := relS_l (R := R) (f := f) (n := 12) (d := n) ⟨by omega, hf⟩
      rw [if_pos hf]
      unfold lost
      rw [r1, r2]
      have r0' : ∀ (g : Nat → Prop), g (3 * n) = g (n * 3 + 0) := fun g => by rw [← r0]
      rw [show R 8 (3 * n) = R 8 (n * 3 + 0) by rw [← r0], show relS R f 12 8 (3 * n) = relS R f 12 8 (n * 3 + 0) by rw [← r0]]
      rw [l 0 (by omega), l 1 (by omega), l 2 (by omega)]
      simp only [ite_not, not_true_eq_false, if_false]
      omega
    · obtain ⟨-, -, -, l⟩ := relS_k (R := R) (f := f) (n := 12) (d := n) (fun q => hf q.2)
      rw [if_neg hf, r1, r2]
      rw [show R 8 (3 * n) = R 8 (n * 3 + 0) by rw [← r0], show relS R f 12 8 (3 * n) = relS R f 12 8 (n * 3 + 0) by rw [← r0]]
      rw [l 0 (by omega), l 1 (by omega), l 2 (by omega)]
      omega
section
variable (d L : Nat) (mu : RV) (p : Nat → Nat)
theorem m_basedI (j : Nat) (hj : j < 12) (hc : mu 106 (20 * j) = nI 1) : ∀ n q, q + n = 3 → zsem (d + 3) 164 12 [.inr (some 105), .inl (nI (cntP (fun i => bsB mu i = true) (3 * j + q))), .inl (nI j), .inl (nI q)] [] (HH L mu p) = zsem (d + 3) 164 4 [.inr (some 105), .inl (nI (cntP (fun i => bsB mu i = true) (3 * j + 3))), .inl (nI (j + 1)), .inl (nI 3)] [] (HH L mu p) := by
  intro n
  induction n with
  | zero =>
    intro q hq
    have : q = 3 := by omega
    subst this
    rw [h164_12]
    simp (disch := first | omega | assumption) only [h164_0, h164_1, h164_2, h164_3, h164_5, h164_7, h164_10, h164_11, h164_13, h164_14, h164_17, h164_18, h164_19, h164_22, h164_25, h164_26, h164_27, h164_30, h164_31, h164_32, h164_35, h164_36, h164_37, h164_38, h164_40, h164_43, h164_44, h164_47, h164_48, h164_49, h164_50, h164_53, h164_56, h164_59, h164_62, h164_63, Option.bind_some, Option.toList_some, Option.toList_none, List.cons_append, List.nil_append, nI_ltc, nI_lec, nI_eqc, nI_ne5, n5_ne, n5_lt, bI_0, bI_1, nI_add, pk_mul, if_pos, if_neg, ite_not, if_true, if_false, not_true_eq_false, not_false_eq_true, true_and, false_and, and_true, and_false, Nat.reduceAdd, Nat.reduceMul]
  | succ n ih =>
    intro q hq
    rw [← ih (q + 1) (by omega), h164_12, show 3 * j + (q + 1) = 3 * j + q + 1 by omega]
    have hu := bs_iff mu j q (by omega)
    by_cases h2 : mu 106 (20 * j + 3 + 3 * q + 2) = -5
    · rw [cnt_n (fun i => bsB mu i = true) (fun g => (hu.mp g).2 h2)]
      simp (disch := first | omega | assumption) only [h164_0, h164_1, h164_2, h164_3, h164_5, h164_7, h164_10, h164_11, h164_13, h164_14, h164_17, h164_18, h164_19, h164_22, h164_25, h164_26, h164_27, h164_30, h164_31, h164_32, h164_35, h164_36, h164_37, h164_38, h164_40, h164_43, h164_44, h164_47, h164_48, h164_49, h164_50, h164_53, h164_56, h164_59, h164_62, h164_63, Option.bind_some, Option.toList_some, Option.toList_none, List.cons_append, List.nil_append, nI_ltc, nI_lec, nI_eqc, nI_ne5, n5_ne, n5_lt, bI_0, bI_1, nI_add, pk_mul, if_pos, if_neg, ite_not, if_true, if_false, not_true_eq_false, not_false_eq_true, true_and, false_and, and_true, and_false, Nat.reduceAdd, Nat.reduceMul, m_isCard_n, hc, m_regionAt, h2, Nat.add_zero]
    · rw [cnt_s (fun i => bsB mu i = true) (hu.mpr ⟨hc, h2⟩)]
      simp (disch := first | omega | assumption) only [h164_0, h164_1, h164_2, h164_3, h164_5, h164_7, h164_10, h164_11, h164_13, h164_14, h164_17, h164_18, h164_19, h164_22, h164_25, h164_26, h164_27, h164_30, h164_31, h164_32, h164_35, h164_36, h164_37, h164_38, h164_40, h164_43, h164_44, h164_47, h164_48, h164_49, h164_50, h164_53, h164_56, h164_59, h164_62, h164_63, Option.bind_some, Option.toList_some, Option.toList_none, List.cons_append, List.nil_append, nI_ltc, nI_lec, nI_eqc, nI_ne5, n5_ne, n5_lt, bI_0, bI_1, nI_add, pk_mul, if_pos, if_neg, ite_not, if_true, if_false, not_true_eq_false, not_false_eq_true, true_and, false_and, and_true, and_false, Nat.reduceAdd, Nat.reduceMul, m_isCard_n, hc, m_regionAt, h2]
theorem m_basedL : ∀ n j a, j + n = 12 → zsem (d + 3) 164 4 [.inr (some 105), .inl (nI (cntP (fun i => bsB mu i = true) (3 * j))), .inl (nI j), a] [] (HH L mu p) = some (some (.inl (nI (cntP (fun i => bsB mu i = true) 36))), HH L mu p) := by
  intro n
  induction n with
  | zero =>
    intro j a hj
    have : j = 12 := by omega
    subst this
    rw [h164_4]
    simp (disch := first | omega | assumption) only [h164_0, h164_1, h164_2, h164_3, h164_5, h164_7, h164_10, h164_11, h164_13, h164_14, h164_17, h164_18, h164_19, h164_22, h164_25, h164_26, h164_27, h164_30, h164_31, h164_32, h164_35, h164_36, h164_37, h164_38, h164_40, h164_43, h164_44, h164_47, h164_48, h164_49, h164_50, h164_53, h164_56, h164_59, h164_62, h164_63, Option.bind_some, Option.toList_some, Option.toList_none, List.cons_append, List.nil_append, nI_ltc, nI_lec, nI_eqc, nI_ne5, n5_ne, n5_lt, bI_0, bI_1, nI_add, pk_mul, if_pos, if_neg, ite_not, if_true, if_false, not_true_eq_false, not_false_eq_true, true_and, false_and, and_true, and_false, Nat.reduceAdd, Nat.reduceMul]
  | succ n ih =>
    intro j a hj
    by_cases hc : mu 106 (20 * j) = nI 1
    · rw [← ih (j + 1) (.inl (nI 3)) (by omega), h164_4, show 3 * (j + 1) = 3 * j + 3 by omega, ← m_basedI d L mu p j (by omega) hc 3 0 rfl]
      simp (disch := first | omega | assumption) only [h164_0, h164_1, h164_2, h164_3, h164_5, h164_7, h164_10, h164_11, h164_13, h164_14, h164_17, h164_18, h164_19, h164_22, h164_25, h164_26, h164_27, h164_30, h164_31, h164_32, h164_35, h164_36, h164_37, h164_38, h164_40, h164_43, h164_44, h164_47, h164_48, h164_49, h164_50, h164_53, h164_56, h164_59, h164_62, h164_63, Option.bind_some, Option.toList_some, Option.toList_none, List.cons_append, List.nil_append, nI_ltc, nI_lec, nI_eqc, nI_ne5, n5_ne, n5_lt, bI_0, bI_1, nI_add, pk_mul, if_pos, if_neg, ite_not, if_true, if_false, not_true_eq_false, not_false_eq_true, true_and, false_and, and_true, and_false, Nat.reduceAdd, Nat.reduceMul, Nat.add_zero]
    · have e : cntP (fun i => bsB mu i = true) (3 * (j + 1)) = cntP (fun i => bsB mu i = true) (3 * j) := by
        rw [show 3 * (j + 1) = 3 * j + 0 + 1 + 1 + 1 by omega]
        rw [cnt_n (n := 3 * j + 0 + 1 + 1) _ (fun g => hc ((bs_iff mu j 2 (by omega)).mp g).1), cnt_n (n := 3 * j + 0 + 1) _ (fun g => hc ((bs_iff mu j 1 (by omega)).mp g).1), cnt_n (n := 3 * j + 0) _ (fun g => hc ((bs_iff mu j 0 (by omega)).mp g).1), Nat.add_zero]
      rw [← ih (j + 1) (.inl (nI 0)) (by omega), h164_4, e]
      simp (disch := first | omega | assumption) only [h164_0, h164_1, h164_2, h164_3, h164_5, h164_7, h164_10, h164_11, h164_13, h164_14, h164_17, h164_18, h164_19, h164_22, h164_25, h164_26, h164_27, h164_30, h164_31, h164_32, h164_35, h164_36, h164_37, h164_38, h164_40, h164_43, h164_44, h164_47, h164_48, h164_49, h164_50, h164_53, h164_56, h164_59, h164_62, h164_63, h164_12, Option.bind_some, Option.toList_some, Option.toList_none, List.cons_append, List.nil_append, nI_ltc, nI_lec, nI_eqc, nI_ne5, n5_ne, n5_lt, bI_0, bI_1, nI_add, pk_mul, if_pos, if_neg, ite_not, if_true, if_false, not_true_eq_false, not_false_eq_true, true_and, false_and, and_true, and_false, Nat.reduceAdd, Nat.reduceMul, ↓reduceIte, m_isCard_n, hc]
theorem m_based : zsem (d + 3) 164 0 [.inr (some 105), .inr none, .inr none, .inr none] [] (HH L mu p) = some (some (.inl (nI (cntP (fun i => bsB mu i = true) 36))), HH L mu p) := by
  rw [← m_basedL d L mu p 12 0 (.inr none) rfl]
  simp (disch := first | omega | assumption) only [h164_0, h164_1, h164_2, h164_3, h164_5, h164_7, h164_10, h164_11, h164_13, h164_14, h164_17, h164_18, h164_19, h164_22, h164_25, h164_26, h164_27, h164_30, h164_31, h164_32, h164_35, h164_36, h164_37, h164_38, h164_40, h164_43, h164_44, h164_47, h164_48, h164_49, h164_50, h164_53, h164_56, h164_59, h164_62, h164_63, Option.bind_some, Option.toList_some, Option.toList_none, List.cons_append, List.nil_append, nI_ltc, nI_lec, nI_eqc, nI_ne5, n5_ne, n5_lt, bI_0, bI_1, nI_add, pk_mul, if_pos, if_neg, ite_not, if_true, if_false, not_true_eq_false, not_false_eq_true, true_and, false_and, and_true, and_false, Nat.reduceAdd, Nat.reduceMul]
  rfl
theorem m_detachL {R : RV} (hB : RelB R (fun t => mu 106 t)) (hI : InvT R) (x : Nat) (hx : x < 12) (v : Int32) : ∀ n i, i + n = 12 → zsem (d + 4) 163 21 [.inr (some 105), .inl (nI x), .inl v, .inl (nI i)] [] (HH L (taS mu (famB R x) i) p) = zsem (d + 4) 163 21 [.inr (some 105), .inl (nI x), .inl v, .inl (nI 12)] [] (HH L (taS mu (famB R x) 12) p) := by
  intro n
  induction n with
  | zero =>
    intro i hi
    have : i = 12 := by omega
    subst this
    rfl
  | succ n ih =>
    intro i hi
    have hi12 : i < 12 := by omega
    rw [← ih (i + 1) (by omega), h163_21]
    have hB' := RelB_rel (f := famB R x) (n := i) (by omega) hB
    have r2 : relS R (famB R x) i 2 = R 2 := relS_row (by omega)
    have r3 : relS R (famB R x) i 3 = R 3 := relS_row (by omega)
    have hI' := InvT_cong r2 r3 (relS_row (f := famB R x) (n := i) (R := R) (by omega)) (relS_row (f := famB R x) (n := i) (R := R) (by omega)) hI
    have hk0 : taS mu (famB R x) i 106 (20 * i) = R 2 i := by
      rw [taS_k0 (by omega) (by omega)]; exact (hB.dv hi12).1
    by_cases hk : R 2 i = nI 0
    · have hf : ¬famB R x i = true := fun q => ((tb_iff _).mp q).1 hk
      rw [taS_n _ _ _ hf]
      simp (disch := first | omega | assumption) only [h163_0, h163_1, h163_2, h163_5, h163_8, h163_9, h163_10, h163_11, h163_14, h163_15, h163_18, h163_19, h163_20, h163_22, h163_24, h163_27, h163_28, h163_29, h163_32, h163_35, h163_36, h163_37, h163_40, h163_41, h163_42, h163_43, h163_46, h163_49, h163_50, h163_51, h163_54, h163_57, h163_60, h163_61, h163_62, h163_65, h163_66, Option.bind_some, Option.toList_some, Option.toList_none, List.cons_append, List.nil_append, nI_ltc, nI_lec, nI_eqc, nI_ne5, n5_ne, n5_lt, bI_0, bI_1, nI_add, pk_mul, if_pos, if_neg, ite_not, if_true, if_false, not_true_eq_false, not_false_eq_true, true_and, false_and, and_true, and_false, Nat.reduceAdd, Nat.reduceMul, m_isDevice_n, hk0, hk]
    · by_cases hix : i = x
      · have hf : famB R x i = true := (tb_iff _).mpr ⟨hk, Or.inl hix⟩
        rw [taS_s _ _ _ hf]
        subst hix
        simp (disch := first | omega | assumption) only [h163_0, h163_1, h163_2, h163_5, h163_8, h163_9, h163_10, h163_11, h163_14, h163_15, h163_18, h163_19, h163_20, h163_22, h163_24, h163_27, h163_28, h163_29, h163_32, h163_35, h163_36, h163_37, h163_40, h163_41, h163_42, h163_43, h163_46, h163_49, h163_50, h163_51, h163_54, h163_57, h163_60, h163_61, h163_62, h163_65, h163_66, Option.bind_some, Option.toList_some, Option.toList_none, List.cons_append, List.nil_append, nI_ltc, nI_lec, nI_eqc, nI_ne5, n5_ne, n5_lt, bI_0, bI_1, nI_add, pk_mul, if_pos, if_neg, ite_not, if_true, if_false, not_true_eq_false, not_false_eq_true, true_and, false_and, and_true, and_false, Nat.reduceAdd, Nat.reduceMul, m_isDevice_n, hk0, hk, m_takesAway]
      · obtain ⟨w, w1, w2, w3⟩ := m_isBelow (d + 2) L (taS mu (famB R x) i) p hB' hI' i x hi12 (by rw [r2]; exact hk) hx
        rw [anc_cong r3, bn_cong r3] at w2 w3
        by_cases ha : anc R 4 (bn R i) x
        · have hf : famB R x i = true := (tb_iff _).mpr ⟨hk, Or.inr ha⟩
          rw [taS_s _ _ _ hf]
          rw [w2 ha] at w1
          simp (disch := first | omega | assumption) only [h163_0, h163_1, h163_2, h163_5, h163_8, h163_9, h163_10, h163_11, h163_14, h163_15, h163_18, h163_19, h163_20, h163_22, h163_24, h163_27, h163_28, h163_29, h163_32, h163_35, h163_36, h163_37, h163_40, h163_41, h163_42, h163_43, h163_46, h163_49, h163_50, h163_51, h163_54, h163_57, h163_60, h163_61, h163_62, h163_65, h163_66, Option.bind_some, Option.toList_some, Option.toList_none, List.cons_append, List.nil_append, nI_ltc, nI_lec, nI_eqc, nI_ne5, n5_ne, n5_lt, bI_0, bI_1, nI_add, pk_mul, if_pos, if_neg, ite_not, if_true, if_false, not_true_eq_false, not_false_eq_true, true_and, false_and, and_true, and_false, Nat.reduceAdd, Nat.reduceMul, m_isDevice_n, hk0, hk, hix, w1, m_takesAway]
        · have hf : ¬famB R x i = true := fun q => ((tb_iff _).mp q).2.elim hix ha
          rw [taS_n _ _ _ hf]
          rw [w3 ha] at w1
          simp (disch := first | omega | assumption) only [h163_0, h163_1, h163_2, h163_5, h163_8, h163_9, h163_10, h163_11, h163_14, h163_15, h163_18, h163_19, h163_20, h163_22, h163_24, h163_27, h163_28, h163_29, h163_32, h163_35, h163_36, h163_37, h163_40, h163_41, h163_42, h163_43, h163_46, h163_49, h163_50, h163_51, h163_54, h163_57, h163_60, h163_61, h163_62, h163_65, h163_66, Option.bind_some, Option.toList_some, Option.toList_none, List.cons_append, List.nil_append, nI_ltc, nI_lec, nI_eqc, nI_ne5, n5_ne, n5_lt, bI_0, bI_1, nI_add, pk_mul, if_pos, if_neg, ite_not, if_true, if_false, not_true_eq_false, not_false_eq_true, true_and, false_and, and_true, and_false, Nat.reduceAdd, Nat.reduceMul, m_isDevice_n, hk0, hk, hix, w1]
theorem op_detach (h : Rel mu p) (x : Int32) : Pair (d + 4) L 73 [.inl x, .inr none, .inr none, .inr none] 163 [.inl x, .inr none, .inr none] mu p := by
  rcases ixo x 12 (by omega) with ⟨j, hj, rfl⟩ | hx
  · have hk2 := h.kind hj
    by_cases hk : mu 2 j = nI 0
    · refine ⟨-1, mu, p, mu, ?_, ?_, h⟩
      · simp (disch := first | omega | assumption) only [h73_0, h73_1, h73_4, h73_5, h73_8, h73_11, h73_12, h73_13, h73_14, h73_17, h73_18, h73_21, h73_24, h73_25, h73_28, h73_29, h73_32, h73_33, h73_34, h73_35, h73_36, h73_40, h73_42, h73_45, h73_46, h73_48, h73_51, h73_54, h73_55, h73_56, h73_59, h73_61, h73_64, h73_65, h73_66, h73_69, h73_72, h73_73, Option.bind_some, Option.toList_some, Option.toList_none, List.cons_append, List.nil_append, nI_ltc, nI_lec, nI_eqc, nI_ne5, n5_ne, n5_lt, bI_0, bI_1, nI_add, pk_mul, if_pos, if_neg, ite_not, if_true, if_false, not_true_eq_false, not_false_eq_true, true_and, false_and, and_true, and_false, Nat.reduceAdd, Nat.reduceMul, z_isDevice_n, hk]
      · simp (disch := first | omega | assumption) only [h163_0, h163_1, h163_2, h163_5, h163_8, h163_9, h163_10, h163_11, h163_14, h163_15, h163_18, h163_19, h163_20, h163_22, h163_24, h163_27, h163_28, h163_29, h163_32, h163_35, h163_36, h163_37, h163_40, h163_41, h163_42, h163_43, h163_46, h163_49, h163_50, h163_51, h163_54, h163_57, h163_60, h163_61, h163_62, h163_65, h163_66, Option.bind_some, Option.toList_some, Option.toList_none, List.cons_append, List.nil_append, nI_ltc, nI_lec, nI_eqc, nI_ne5, n5_ne, n5_lt, bI_0, bI_1, nI_add, pk_mul, if_pos, if_neg, ite_not, if_true, if_false, not_true_eq_false, not_false_eq_true, true_and, false_and, and_true, and_false, Nat.reduceAdd, Nat.reduceMul, m_isDevice_n, hk2, hk]
    · obtain ⟨mu1, p1, e1, hr⟩ := z_rec (d + 2) L mu p h
      have hO := h.2.2.1
      have hT := hO.1
      have eR1 := hr.rk
      have hT1 : InvT (rk mu1 1) := by rw [eR1]; exact hT
      have hfam := z_familyOf (d + 1) L mu1 p1 hT1 j hj
      rw [eR1] at hfam
      have hdl := z_detachL (d + 2) L mu1 p1 (famB (rk mu 1) j) _ (msk_lt (fun i => famB (rk mu 1) j i = true) 12) (fun i hi => msk_bit _ i 12 hi) (nI j) 12 0 rfl
      rw [relS_0] at hdl
      obtain ⟨mu3, e2, hm⟩ := rec_m (d + 2) L h hr (mu2 := relS mu1 (famB (rk mu 1) j) 12) (fun a ha => relS_row (by omega))
      have hB3 : RelB (rk mu 1) (fun t => mu3 106 t) := RelB_cong h.B (fun t ht => hm.b0 ht)
      have hml := m_detachL d L mu3 p1 hB3 hT j hj (nI (cntP (fun i => ¬rk mu 1 8 i = -5) 36)) 12 0 rfl
      rw [taS_0] at hml
      have hO2 := OK_rel (f := famB (rk mu 1) j) hO (fun d hd hkd hb hf => fam_dn hT j d hd hkd hb hf)
      have b1 := m_based d L mu3 p1
      rw [based_eq hB3 hO.2.1] at b1
      have hB4 := RelB_rel (f := famB (rk mu 1) j) (n := 12) (by omega) hB3
      have b2 := m_based d L (taS mu3 (famB (rk mu 1) j) 12) p1
      rw [based_eq hB4 hO2.2.1] at b2
      have hls := lost_sum (rk mu 1) (famB (rk mu 1) j) 12 (by omega)
      have hsub : nI (cntP (fun i => ¬rk mu 1 8 i = -5) 36) - nI (cntP (fun i => ¬relS (rk mu 1) (famB (rk mu 1) j) 12 8 i = -5) 36) = nI (lostS (rk mu 1) (famB (rk mu 1) j) 12) := by
        rw [show (3 * 12 : Nat) = 36 from rfl] at hls
        rw [hls, nI_sub (by omega)]
        congr 1
        omega
      have g3 : ¬relS mu1 (famB (rk mu 1) j) 12 106 (20 * j) = nI 0 := by
        rw [relS_row (by omega), hr.2.1 106 (by omega), hk2]; exact hk
      have g4 : ¬mu3 106 (20 * j) = nI 0 := by rw [hm.b0 (by omega), hk2]; exact hk
      have hlost : lostS mu1 (famB (rk mu 1) j) 12 = lostS (rk mu 1) (famB (rk mu 1) j) 12 := by
        have : ∀ n, n ≤ 12 → lostS mu1 (famB (rk mu 1) j) n = lostS (rk mu 1) (famB (rk mu 1) j) n := by
          intro n
          induction n with
          | zero => intro _; rfl
          | succ n ih =>
            intro hn
            show lostS _ _ n + _ = lostS _ _ n + _
            rw [ih (by omega)]
            have : lost mu1 n = lost (rk mu 1) n := by
              unfold lost
              rw [rk_8 (by omega), rk_8 (by omega), rk_8 (by omega), hr.2.1 8 (by omega)]
            rw [this]
        exact this 12 (Nat.le_refl _)
      rw [hlost] at hdl
      refine ⟨nI (lostS (rk mu 1) (famB (rk mu 1) j) 12), relS mu1 (famB (rk mu 1) j) 12, p1, taS mu3 (famB (rk mu 1) j) 12, ?_, ?_, ?_⟩
      · have hl0 : lostS mu1 (famB (rk mu 1) j) 0 = 0 := rfl
        rw [hl0] at hdl
        simp (disch := first | omega | assumption) only [h73_0, h73_1, h73_4, h73_5, h73_8, h73_11, h73_12, h73_13, h73_14, h73_17, h73_18, h73_21, h73_24, h73_25, h73_28, h73_29, h73_32, h73_33, h73_34, h73_35, h73_36, h73_40, h73_42, h73_45, h73_46, h73_48, h73_51, h73_54, h73_55, h73_56, h73_59, h73_61, h73_64, h73_65, h73_66, h73_69, h73_72, h73_73, Option.bind_some, Option.toList_some, Option.toList_none, List.cons_append, List.nil_append, nI_ltc, nI_lec, nI_eqc, nI_ne5, n5_ne, n5_lt, bI_0, bI_1, nI_add, pk_mul, if_pos, if_neg, ite_not, if_true, if_false, not_true_eq_false, not_false_eq_true, true_and, false_and, and_true, and_false, Nat.reduceAdd, Nat.reduceMul, z_isDevice_n, hk, e1, hfam, hdl]
      · simp (disch := first | omega | assumption) only [h163_0, h163_1, h163_2, h163_5, h163_8, h163_9, h163_10, h163_11, h163_14, h163_15, h163_18, h163_19, h163_20, h163_22, h163_24, h163_27, h163_28, h163_29, h163_32, h163_35, h163_36, h163_37, h163_40, h163_41, h163_42, h163_43, h163_46, h163_49, h163_50, h163_51, h163_54, h163_57, h163_60, h163_61, h163_62, h163_65, h163_66, Option.bind_some, Option.toList_some, Option.toList_none, List.cons_append, List.nil_append, nI_ltc, nI_lec, nI_eqc, nI_ne5, n5_ne, n5_lt, bI_0, bI_1, nI_add, pk_mul, if_pos, if_neg, ite_not, if_true, if_false, not_true_eq_false, not_false_eq_true, true_and, false_and, and_true, and_false, Nat.reduceAdd, Nat.reduceMul, m_isDevice_n, g3, e2, b1, hml]
        rw [h163_21]
        simp (disch := first | omega | assumption) only [h163_0, h163_1, h163_2, h163_5, h163_8, h163_9, h163_10, h163_11, h163_14, h163_15, h163_18, h163_19, h163_20, h163_22, h163_24, h163_27, h163_28, h163_29, h163_32, h163_35, h163_36, h163_37, h163_40, h163_41, h163_42, h163_43, h163_46, h163_49, h163_50, h163_51, h163_54, h163_57, h163_60, h163_61, h163_62, h163_65, h163_66, Option.bind_some, Option.toList_some, Option.toList_none, List.cons_append, List.nil_append, nI_ltc, nI_lec, nI_eqc, nI_ne5, n5_ne, n5_lt, bI_0, bI_1, nI_add, pk_mul, if_pos, if_neg, ite_not, if_true, if_false, not_true_eq_false, not_false_eq_true, true_and, false_and, and_true, and_false, Nat.reduceAdd, Nat.reduceMul, b2, hsub]
      · have eR : rk (relS mu1 (famB (rk mu 1) j) 12) 1 = relS (rk mu 1) (famB (rk mu 1) j) 12 := by
          rw [rk_relS (by omega), eR1]
        refine hm.fin (fun a ha => ?_) (fun i hi => ?_) (fun t h1 h2 => taS_n0 (by omega)) ?_ ?_
        · funext i
          unfold taS
          rw [if_neg (by omega), if_neg (by omega)]
        · unfold taS
          rw [if_neg (by omega), if_neg (by omega)]
        · rw [eR]; exact hO2
        · rw [eR]; exact hB4
  · refine ⟨-1, mu, p, mu, ?_, ?_, h⟩
    · simp (disch := first | omega | assumption) only [h73_0, h73_1, h73_4, h73_5, h73_8, h73_11, h73_12, h73_13, h73_14, h73_17, h73_18, h73_21, h73_24, h73_25, h73_28, h73_29, h73_32, h73_33, h73_34, h73_35, h73_36, h73_40, h73_42, h73_45, h73_46, h73_48, h73_51, h73_54, h73_55, h73_56, h73_59, h73_61, h73_64, h73_65, h73_66, h73_69, h73_72, h73_73, Option.bind_some, Option.toList_some, Option.toList_none, List.cons_append, List.nil_append, nI_ltc, nI_lec, nI_eqc, nI_ne5, n5_ne, n5_lt, bI_0, bI_1, nI_add, pk_mul, if_pos, if_neg, ite_not, if_true, if_false, not_true_eq_false, not_false_eq_true, true_and, false_and, and_true, and_false, Nat.reduceAdd, Nat.reduceMul, z_isDevice_o]
    · simp (disch := first | omega | assumption) only [h163_0, h163_1, h163_2, h163_5, h163_8, h163_9, h163_10, h163_11, h163_14, h163_15, h163_18, h163_19, h163_20, h163_22, h163_24, h163_27, h163_28, h163_29, h163_32, h163_35, h163_36, h163_37, h163_40, h163_41, h163_42, h163_43, h163_46, h163_49, h163_50, h163_51, h163_54, h163_57, h163_60, h163_61, h163_62, h163_65, h163_66, Option.bind_some, Option.toList_some, Option.toList_none, List.cons_append, List.nil_append, nI_ltc, nI_lec, nI_eqc, nI_ne5, n5_ne, n5_lt, bI_0, bI_1, nI_add, pk_mul, if_pos, if_neg, ite_not, if_true, if_false, not_true_eq_false, not_false_eq_true, true_and, false_and, and_true, and_false, Nat.reduceAdd, Nat.reduceMul, m_isDevice_o]
end
