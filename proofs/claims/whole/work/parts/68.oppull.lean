/-! pull: both sides -/
def gB (mu : RV) (f : Nat → Bool) (n : Nat) : RV := fun a k => if a = 115 ∧ k < n then (if f k = true then nI 1 else nI 0) else mu a k
theorem gB_s (mu : RV) (f : Nat → Bool) (n : Nat) : gB mu f (n + 1) = u2 (gB mu f n) 115 n (if f n = true then nI 1 else nI 0) := by
  funext a k
  by_cases h : a = 115 ∧ k = n
  · obtain ⟨rfl, rfl⟩ := h
    rw [u2_s]
    unfold gB
    rw [if_pos (by omega)]
  · rw [u2_o _ _ h]
    unfold gB
    by_cases h2 : a = 115 ∧ k < n
    · rw [if_pos h2, if_pos (by omega)]
    · rw [if_neg h2, if_neg (by omega)]
theorem gB_o {mu : RV} {f : Nat → Bool} {n a : Nat} (h : ¬a = 115) : gB mu f n a = mu a := by
  funext k
  unfold gB
  rw [if_neg (by omega)]
theorem gB_i {mu : RV} {f : Nat → Bool} {n k : Nat} (h : k < n) : gB mu f n 115 k = if f k = true then nI 1 else nI 0 := by
  unfold gB
  rw [if_pos ⟨rfl, h⟩]
def kB (mu : RV) (f : Nat → Bool) (n : Nat) : RV := fun a t => if a = 106 ∧ t % 20 = 0 ∧ t / 20 < n ∧ f (t / 20) = true then nI 0 else mu a t
theorem kB_0 (mu : RV) (f : Nat → Bool) : kB mu f 0 = mu := by
  funext a t
  unfold kB
  rw [if_neg (by omega)]
theorem kB_s (mu : RV) (f : Nat → Bool) (n : Nat) (h : f n = true) : kB mu f (n + 1) = u2 (kB mu f n) 106 (20 * n) (nI 0) := by
  funext a t
  by_cases h2 : a = 106 ∧ t = 20 * n
  · obtain ⟨rfl, rfl⟩ := h2
    rw [u2_s]
    unfold kB
    have e : 20 * n / 20 = n := by omega
    rw [if_pos ⟨rfl, by omega, by omega, by rw [e]; exact h⟩]
  · rw [u2_o _ _ h2]
    unfold kB
    by_cases h3 : a = 106 ∧ t % 20 = 0 ∧ t / 20 < n ∧ f (t / 20) = true
    · rw [if_pos h3, if_pos ⟨h3.1, h3.2.1, by omega, h3.2.2.2⟩]
    · rw [if_neg h3, if_neg (fun q => h3 ⟨q.1, q.2.1, by omega, q.2.2.2⟩)]
theorem kB_n (mu : RV) (f : Nat → Bool) (n : Nat) (h : ¬f n = true) : kB mu f (n + 1) = u2 (kB mu f n) 106 (20 * n) (kB mu f n 106 (20 * n)) := by
  funext a t
  by_cases h2 : a = 106 ∧ t = 20 * n
  · obtain ⟨rfl, rfl⟩ := h2
    rw [u2_s]
    unfold kB
    have e : 20 * n / 20 = n := by omega
    rw [if_neg (by rw [e]; exact fun q => h q.2.2.2), if_neg (by omega)]
  · rw [u2_o _ _ h2]
    unfold kB
    by_cases h3 : a = 106 ∧ t % 20 = 0 ∧ t / 20 < n ∧ f (t / 20) = true
    · rw [if_pos h3, if_pos ⟨h3.1, h3.2.1, by omega, h3.2.2.2⟩]
    · rw [if_neg h3, if_neg (fun q => h3 ⟨q.1, q.2.1, by omega, q.2.2.2⟩)]
theorem kB_o {mu : RV} {f : Nat → Bool} {n a : Nat} (h : ¬a = 106) : kB mu f n a = mu a := by
  funext k
  unfold kB
  rw [if_neg (by omega)]
theorem kB_x {mu : RV} {f : Nat → Bool} {n t : Nat} (h : ¬(t % 20 = 0 ∧ t / 20 < n ∧ f (t / 20) = true)) : kB mu f n 106 t = mu 106 t := by
  unfold kB
  rw [if_neg (fun q => h q.2)]
theorem nar_0 : vp_nar .boolean (nI 0) = nI 0 := by decide
theorem nar_1 : vp_nar .boolean (nI 1) = nI 1 := by decide
section
variable (d L : Nat) (mu : RV) (p : Nat → Nat)
theorem m_pullL1 {R : RV} (hB : RelB R (fun t => mu 106 t)) (hI : InvT R) (x : Nat) (hx : x < 12) (v : Int32) : ∀ n i, i + n = 12 → zsem (d + 4) 140 21 [.inr (some 105), .inl (nI x), .inl v, .inl (nI i)] [] (HH L (gB mu (famB R x) i) p) = zsem (d + 4) 140 21 [.inr (some 105), .inl (nI x), .inl v, .inl (nI 12)] [] (HH L (gB mu (famB R x) 12) p) := by
  intro n
  induction n with
  | zero =>
    intro i hi
    have : i = 12 := by omega
    subst this
    rfl
  | succ n ih =>
    intro i hi
    have hi12 : i < 12 := by omega
    rw [← ih (i + 1) (by omega), h140_21, gB_s]
    have hB' : RelB R (fun t => gB mu (famB R x) i 106 t) := by rw [gB_o (by omega)]; exact hB
    have hk0 : gB mu (famB R x) i 106 (20 * i) = R 2 i := by
      rw [gB_o (by omega)]; exact (hB.dv hi12).1
    by_cases hk : R 2 i = nI 0
    · have hf : ¬famB R x i = true := fun q => ((tb_iff _).mp q).1 hk
      rw [if_neg hf]
      simp (disch := first | omega | assumption) only [h140_0, h140_1, h140_2, h140_5, h140_8, h140_9, h140_10, h140_11, h140_14, h140_15, h140_18, h140_19, h140_20, h140_22, h140_24, h140_27, h140_28, h140_31, h140_32, h140_33, h140_34, h140_37, h140_40, h140_41, h140_42, h140_45, h140_46, h140_47, h140_48, h140_51, h140_54, h140_55, h140_58, h140_59, h140_60, h140_63, h140_66, h140_67, h140_69, h140_71, h140_74, h140_75, h140_78, h140_79, h140_82, h140_83, h140_86, h140_87, h140_88, h140_91, h140_92, h140_95, h140_96, h140_99, h140_100, h140_103, h140_104, h140_105, h140_108, h140_111, h140_112, h140_113, h140_116, h140_117, Option.bind_some, Option.toList_some, Option.toList_none, List.cons_append, List.nil_append, nI_ltc, nI_lec, nI_eqc, nI_ne5, n5_ne, n5_lt, bI_0, bI_1, nI_add, pk_mul, if_pos, if_neg, ite_not, if_true, if_false, not_true_eq_false, not_false_eq_true, true_and, false_and, and_true, and_false, Nat.reduceAdd, Nat.reduceMul, m_isDevice_n, hk0, hk, nar_0]
    · by_cases hix : i = x
      · have hf : famB R x i = true := (tb_iff _).mpr ⟨hk, Or.inl hix⟩
        rw [if_pos hf]
        subst hix
        simp (disch := first | omega | assumption) only [h140_0, h140_1, h140_2, h140_5, h140_8, h140_9, h140_10, h140_11, h140_14, h140_15, h140_18, h140_19, h140_20, h140_22, h140_24, h140_27, h140_28, h140_31, h140_32, h140_33, h140_34, h140_37, h140_40, h140_41, h140_42, h140_45, h140_46, h140_47, h140_48, h140_51, h140_54, h140_55, h140_58, h140_59, h140_60, h140_63, h140_66, h140_67, h140_69, h140_71, h140_74, h140_75, h140_78, h140_79, h140_82, h140_83, h140_86, h140_87, h140_88, h140_91, h140_92, h140_95, h140_96, h140_99, h140_100, h140_103, h140_104, h140_105, h140_108, h140_111, h140_112, h140_113, h140_116, h140_117, Option.bind_some, Option.toList_some, Option.toList_none, List.cons_append, List.nil_append, nI_ltc, nI_lec, nI_eqc, nI_ne5, n5_ne, n5_lt, bI_0, bI_1, nI_add, pk_mul, if_pos, if_neg, ite_not, if_true, if_false, not_true_eq_false, not_false_eq_true, true_and, false_and, and_true, and_false, Nat.reduceAdd, Nat.reduceMul, m_isDevice_n, hk0, hk, nar_1]
      · obtain ⟨w, w1, w2, w3⟩ := m_isBelow (d + 2) L (gB mu (famB R x) i) p hB' hI i x hi12 hk hx
        by_cases ha : anc R 4 (bn R i) x
        · have hf : famB R x i = true := (tb_iff _).mpr ⟨hk, Or.inr ha⟩
          rw [if_pos hf]
          rw [w2 ha] at w1
          simp (disch := first | omega | assumption) only [h140_0, h140_1, h140_2, h140_5, h140_8, h140_9, h140_10, h140_11, h140_14, h140_15, h140_18, h140_19, h140_20, h140_22, h140_24, h140_27, h140_28, h140_31, h140_32, h140_33, h140_34, h140_37, h140_40, h140_41, h140_42, h140_45, h140_46, h140_47, h140_48, h140_51, h140_54, h140_55, h140_58, h140_59, h140_60, h140_63, h140_66, h140_67, h140_69, h140_71, h140_74, h140_75, h140_78, h140_79, h140_82, h140_83, h140_86, h140_87, h140_88, h140_91, h140_92, h140_95, h140_96, h140_99, h140_100, h140_103, h140_104, h140_105, h140_108, h140_111, h140_112, h140_113, h140_116, h140_117, Option.bind_some, Option.toList_some, Option.toList_none, List.cons_append, List.nil_append, nI_ltc, nI_lec, nI_eqc, nI_ne5, n5_ne, n5_lt, bI_0, bI_1, nI_add, pk_mul, if_pos, if_neg, ite_not, if_true, if_false, not_true_eq_false, not_false_eq_true, true_and, false_and, and_true, and_false, Nat.reduceAdd, Nat.reduceMul, m_isDevice_n, hk0, hk, hix, w1, nar_1]
        · have hf : ¬famB R x i = true := fun q => ((tb_iff _).mp q).2.elim hix ha
          rw [if_neg hf]
          rw [w3 ha] at w1
          simp (disch := first | omega | assumption) only [h140_0, h140_1, h140_2, h140_5, h140_8, h140_9, h140_10, h140_11, h140_14, h140_15, h140_18, h140_19, h140_20, h140_22, h140_24, h140_27, h140_28, h140_31, h140_32, h140_33, h140_34, h140_37, h140_40, h140_41, h140_42, h140_45, h140_46, h140_47, h140_48, h140_51, h140_54, h140_55, h140_58, h140_59, h140_60, h140_63, h140_66, h140_67, h140_69, h140_71, h140_74, h140_75, h140_78, h140_79, h140_82, h140_83, h140_86, h140_87, h140_88, h140_91, h140_92, h140_95, h140_96, h140_99, h140_100, h140_103, h140_104, h140_105, h140_108, h140_111, h140_112, h140_113, h140_116, h140_117, Option.bind_some, Option.toList_some, Option.toList_none, List.cons_append, List.nil_append, nI_ltc, nI_lec, nI_eqc, nI_ne5, n5_ne, n5_lt, bI_0, bI_1, nI_add, pk_mul, if_pos, if_neg, ite_not, if_true, if_false, not_true_eq_false, not_false_eq_true, true_and, false_and, and_true, and_false, Nat.reduceAdd, Nat.reduceMul, m_isDevice_n, hk0, hk, hix, w1, nar_0]
theorem m_pullL2 (f : Nat → Bool) (x v : Int32) (hg : ∀ i, i < 12 → mu 115 i = if f i = true then nI 1 else nI 0) : ∀ n i, i + n = 12 → zsem (d + 4) 140 68 [.inr (some 105), .inl x, .inl v, .inl (nI i)] [] (HH L (kB mu f i) p) = zsem (d + 4) 140 68 [.inr (some 105), .inl x, .inl v, .inl (nI 12)] [] (HH L (kB mu f 12) p) := by
  intro n
  induction n with
  | zero =>
    intro i hi
    have : i = 12 := by omega
    subst this
    rfl
  | succ n ih =>
    intro i hi
    have hi12 : i < 12 := by omega
    rw [← ih (i + 1) (by omega), h140_68]
    have h1 := hg i hi12
    rw [← kB_o (mu := mu) (f := f) (n := i) (a := 115) (by omega)] at h1
    by_cases hf : f i = true
    · rw [if_pos hf] at h1
      rw [kB_s _ _ _ hf]
      simp (disch := first | omega | assumption) only [h140_0, h140_1, h140_2, h140_5, h140_8, h140_9, h140_10, h140_11, h140_14, h140_15, h140_18, h140_19, h140_20, h140_22, h140_24, h140_27, h140_28, h140_31, h140_32, h140_33, h140_34, h140_37, h140_40, h140_41, h140_42, h140_45, h140_46, h140_47, h140_48, h140_51, h140_54, h140_55, h140_58, h140_59, h140_60, h140_63, h140_66, h140_67, h140_69, h140_71, h140_74, h140_75, h140_78, h140_79, h140_82, h140_83, h140_86, h140_87, h140_88, h140_91, h140_92, h140_95, h140_96, h140_99, h140_100, h140_103, h140_104, h140_105, h140_108, h140_111, h140_112, h140_113, h140_116, h140_117, Option.bind_some, Option.toList_some, Option.toList_none, List.cons_append, List.nil_append, nI_ltc, nI_lec, nI_eqc, nI_ne5, n5_ne, n5_lt, bI_0, bI_1, nI_add, pk_mul, if_pos, if_neg, ite_not, if_true, if_false, not_true_eq_false, not_false_eq_true, true_and, false_and, and_true, and_false, Nat.reduceAdd, Nat.reduceMul, m_at, h1]
    · rw [if_neg hf] at h1
      rw [kB_n _ _ _ hf]
      simp (disch := first | omega | assumption) only [h140_0, h140_1, h140_2, h140_5, h140_8, h140_9, h140_10, h140_11, h140_14, h140_15, h140_18, h140_19, h140_20, h140_22, h140_24, h140_27, h140_28, h140_31, h140_32, h140_33, h140_34, h140_37, h140_40, h140_41, h140_42, h140_45, h140_46, h140_47, h140_48, h140_51, h140_54, h140_55, h140_58, h140_59, h140_60, h140_63, h140_66, h140_67, h140_69, h140_71, h140_74, h140_75, h140_78, h140_79, h140_82, h140_83, h140_86, h140_87, h140_88, h140_91, h140_92, h140_95, h140_96, h140_99, h140_100, h140_103, h140_104, h140_105, h140_108, h140_111, h140_112, h140_113, h140_116, h140_117, Option.bind_some, Option.toList_some, Option.toList_none, List.cons_append, List.nil_append, nI_ltc, nI_lec, nI_eqc, nI_ne5, n5_ne, n5_lt, bI_0, bI_1, nI_add, pk_mul, if_pos, if_neg, ite_not, if_true, if_false, not_true_eq_false, not_false_eq_true, true_and, false_and, and_true, and_false, Nat.reduceAdd, Nat.reduceMul, m_at, h1]
theorem cnt_split (P Q S : Nat → Prop) [DecidablePred P] [DecidablePred Q] [DecidablePred S] (h : ∀ i, (P i ↔ Q i ∨ S i) ∧ ¬(Q i ∧ S i)) : ∀ n, cntP P n = cntP Q n + cntP S n := by
  intro n
  induction n with
  | zero => rfl
  | succ n ih =>
    unfold cntP
    rw [ih]
    obtain ⟨h1, h2⟩ := h n
    by_cases hq : Q n
    · have hs : ¬S n := fun q => h2 ⟨hq, q⟩
      rw [if_pos hq, if_neg hs, if_pos (h1.mpr (Or.inl hq))]
      omega
    · by_cases hs : S n
      · rw [if_neg hq, if_pos hs, if_pos (h1.mpr (Or.inr hs))]
        omega
      · rw [if_neg hq, if_neg hs, if_neg (fun q => (h1.mp q).elim hq hs)]
        omega
theorem op_pull (h : Rel mu p) (x : Int32) : Pair (d + 4) L 37 [.inl x, .inr none, .inr none] 140 [.inl x, .inr none, .inr none] mu p := by
  rcases ixo x 12 (by omega) with ⟨j, hj, rfl⟩ | hx
  · have hk2 := h.kind hj
    by_cases hk : mu 2 j = nI 0
    · refine ⟨-1, mu, p, mu, ?_, ?_, h⟩
      · simp (disch := first | omega | assumption) only [h37_0, h37_1, h37_4, h37_5, h37_8, h37_11, h37_12, h37_13, h37_14, h37_17, h37_18, h37_21, h37_24, h37_25, h37_28, h37_29, h37_32, h37_33, h37_34, h37_36, h37_38, h37_41, h37_42, h37_43, h37_46, h37_49, h37_50, h37_53, h37_54, h37_57, h37_60, h37_63, h37_64, h37_67, Option.bind_some, Option.toList_some, Option.toList_none, List.cons_append, List.nil_append, nI_ltc, nI_lec, nI_eqc, nI_ne5, n5_ne, n5_lt, bI_0, bI_1, nI_add, pk_mul, if_pos, if_neg, ite_not, if_true, if_false, not_true_eq_false, not_false_eq_true, true_and, false_and, and_true, and_false, Nat.reduceAdd, Nat.reduceMul, z_isDevice_n, hk]
      · simp (disch := first | omega | assumption) only [h140_0, h140_1, h140_2, h140_5, h140_8, h140_9, h140_10, h140_11, h140_14, h140_15, h140_18, h140_19, h140_20, h140_22, h140_24, h140_27, h140_28, h140_31, h140_32, h140_33, h140_34, h140_37, h140_40, h140_41, h140_42, h140_45, h140_46, h140_47, h140_48, h140_51, h140_54, h140_55, h140_58, h140_59, h140_60, h140_63, h140_66, h140_67, h140_69, h140_71, h140_74, h140_75, h140_78, h140_79, h140_82, h140_83, h140_86, h140_87, h140_88, h140_91, h140_92, h140_95, h140_96, h140_99, h140_100, h140_103, h140_104, h140_105, h140_108, h140_111, h140_112, h140_113, h140_116, h140_117, Option.bind_some, Option.toList_some, Option.toList_none, List.cons_append, List.nil_append, nI_ltc, nI_lec, nI_eqc, nI_ne5, n5_ne, n5_lt, bI_0, bI_1, nI_add, pk_mul, if_pos, if_neg, ite_not, if_true, if_false, not_true_eq_false, not_false_eq_true, true_and, false_and, and_true, and_false, Nat.reduceAdd, Nat.reduceMul, m_isDevice_n, hk2, hk]
    · obtain ⟨mu1, p1, e1, hr⟩ := z_rec (d + 2) L mu p h
      have hO := h.2.2.1
      have hT := hO.1
      have eR1 := hr.rk
      have hT1 : InvT (rk mu1 1) := by rw [eR1]; exact hT
      have hfam := z_familyOf (d + 1) L mu1 p1 hT1 j hj
      rw [eR1] at hfam
      have hbs : ∀ i, i < 12 → famB (rk mu 1) j i = true → ∃ b s, b < 13 ∧ s < 4 ∧ mu1 3 i = nI b ∧ mu1 4 i = nI s := fun i hi hf => by
        obtain ⟨b, s, hb, hs, q1, q2, -⟩ := hT.2.1 i hi ((tb_iff _).mp hf).1
        rw [← eR1, rk_3 hi] at q1
        rw [← eR1, rk_4 hi] at q2
        exact ⟨b, s, hb, hs, q1, q2⟩
      have hdl := z_pullL (d + 1) L mu1 p1 (famB (rk mu 1) j) _ (msk_lt (fun i => famB (rk mu 1) j i = true) 12) (fun i hi => msk_bit _ i 12 hi) hbs (nI j) 12 0 rfl
      rw [bc_ok _ (msk_lt (fun i => famB (rk mu 1) j i = true) 12), pop_msk] at hdl
      obtain ⟨a34, a34'⟩ := remA_34 mu1 (famB (rk mu 1) j) 12
      have fr : ∀ a, a = 0 ∨ (14 ≤ a ∧ a ≤ 80) ∨ 104 ≤ a → remA mu1 (famB (rk mu 1) j) 12 a = mu1 a := fun a ha => by
        funext i
        obtain ⟨-, q⟩ := remA_at mu1 (famB (rk mu 1) j) 12 a i
        rw [(q (by omega)).2 (by omega), relS_row (by omega)]
      obtain ⟨mu3, e2, hm⟩ := rec_m (d + 2) L h hr (mu2 := remA mu1 (famB (rk mu 1) j) 12) fr
      have hB3 : RelB (rk mu 1) (fun t => mu3 106 t) := RelB_cong h.B (fun t ht => hm.b0 ht)
      have hml := m_pullL1 d L mu3 p1 hB3 hT j hj (nI (cntP (fun j => ¬mu3 106 (20 * j) = nI 0) 12)) 12 0 rfl
      have hg0 : gB mu3 (famB (rk mu 1) j) 0 = mu3 := by
        funext a k
        unfold gB
        rw [if_neg (by omega)]
      rw [hg0] at hml
      have hml2 := m_pullL2 d L (gB mu3 (famB (rk mu 1) j) 12) p1 (famB (rk mu 1) j) (nI j) (nI (cntP (fun j => ¬mu3 106 (20 * j) = nI 0) 12)) (fun i hi => gB_i hi) 12 0 rfl
      rw [kB_0] at hml2
      have hO2 := OK_rem (f := famB (rk mu 1) j) hO (fun d hd hf => ((tb_iff _).mp hf).1) (fun d hd hkd hb hf => fam_dn hT j d hd hkd hb hf)
      have fin106 : ∀ t, kB (gB mu3 (famB (rk mu 1) j) 12) (famB (rk mu 1) j) 12 106 t = if t % 20 = 0 ∧ t / 20 < 12 ∧ famB (rk mu 1) j (t / 20) = true then nI 0 else mu3 106 t := fun t => by
        by_cases q : t % 20 = 0 ∧ t / 20 < 12 ∧ famB (rk mu 1) j (t / 20) = true
        · rw [if_pos q]
          unfold kB
          rw [if_pos ⟨rfl, q⟩]
        · rw [if_neg q, kB_x q, gB_o (by omega)]
      have hsub : nI (cntP (fun j => ¬mu3 106 (20 * j) = nI 0) 12) - nI (cntP (fun i => ¬kB (gB mu3 (famB (rk mu 1) j) 12) (famB (rk mu 1) j) 12 106 (20 * i) = nI 0) 12) = nI (cntP (fun i => famB (rk mu 1) j i = true) 12) := by
        have e := cnt_split (fun i => i < 12 ∧ ¬mu3 106 (20 * i) = nI 0) (fun i => i < 12 ∧ ¬kB (gB mu3 (famB (rk mu 1) j) 12) (famB (rk mu 1) j) 12 106 (20 * i) = nI 0) (fun i => i < 12 ∧ famB (rk mu 1) j i = true) (fun i => by
          have ei : 20 * i / 20 = i := by omega
          have em : 20 * i % 20 = 0 := by omega
          rw [fin106, ei, em]
          by_cases hi : i < 12
          · by_cases hf : famB (rk mu 1) j i = true
            · have hk3 : ¬mu3 106 (20 * i) = nI 0 := by
                have q0 : mu3 106 (20 * i) = rk mu 1 2 i := (hB3.dv hi).1
                rw [q0]; exact ((tb_iff _).mp hf).1
              rw [if_pos ⟨rfl, hi, hf⟩]
              exact ⟨⟨fun _ => Or.inr ⟨hi, hf⟩, fun _ => ⟨hi, hk3⟩⟩, fun q => q.1.2 rfl⟩
            · rw [if_neg (fun q => hf q.2.2)]
              exact ⟨⟨fun q => Or.inl q, fun q => q.elim id (fun q => absurd q.2 hf)⟩, fun q => hf q.2.2⟩
          · exact ⟨⟨fun q => absurd q.1 hi, fun q => q.elim (fun q => absurd q.1 hi) (fun q => absurd q.1 hi)⟩, fun q => hi q.1.1⟩) 12
        rw [cnt_cong (fun i => i < 12 ∧ ¬mu3 106 (20 * i) = nI 0) (fun j => ¬mu3 106 (20 * j) = nI 0) 12 (fun i hi => ⟨fun q => q.2, fun q => ⟨hi, q⟩⟩)] at e
        rw [cnt_cong (fun i => i < 12 ∧ ¬kB (gB mu3 (famB (rk mu 1) j) 12) (famB (rk mu 1) j) 12 106 (20 * i) = nI 0) (fun i => ¬kB (gB mu3 (famB (rk mu 1) j) 12) (famB (rk mu 1) j) 12 106 (20 * i) = nI 0) 12 (fun i hi => ⟨fun q => q.2, fun q => ⟨hi, q⟩⟩)] at e
        rw [cnt_cong (fun i => i < 12 ∧ famB (rk mu 1) j i = true) (fun i => famB (rk mu 1) j i = true) 12 (fun i hi => ⟨fun q => q.2, fun q => ⟨hi, q⟩⟩)] at e
        rw [e, nI_sub (by omega)]
        congr 1
        omega
      have g3 : ¬remA mu1 (famB (rk mu 1) j) 12 106 (20 * j) = nI 0 := by
        rw [fr 106 (by omega), hr.2.1 106 (by omega), hk2]; exact hk
      refine ⟨nI (cntP (fun i => famB (rk mu 1) j i = true) 12), remA mu1 (famB (rk mu 1) j) 12, p1, kB (gB mu3 (famB (rk mu 1) j) 12) (famB (rk mu 1) j) 12, ?_, ?_, ?_⟩
      · have hl0 : remA mu1 (famB (rk mu 1) j) 0 = mu1 := rfl
        rw [hl0] at hdl
        simp (disch := first | omega | assumption) only [h37_0, h37_1, h37_4, h37_5, h37_8, h37_11, h37_12, h37_13, h37_14, h37_17, h37_18, h37_21, h37_24, h37_25, h37_28, h37_29, h37_32, h37_33, h37_34, h37_36, h37_38, h37_41, h37_42, h37_43, h37_46, h37_49, h37_50, h37_53, h37_54, h37_57, h37_60, h37_63, h37_64, h37_67, Option.bind_some, Option.toList_some, Option.toList_none, List.cons_append, List.nil_append, nI_ltc, nI_lec, nI_eqc, nI_ne5, n5_ne, n5_lt, bI_0, bI_1, nI_add, pk_mul, if_pos, if_neg, ite_not, if_true, if_false, not_true_eq_false, not_false_eq_true, true_and, false_and, and_true, and_false, Nat.reduceAdd, Nat.reduceMul, z_isDevice_n, hk, e1, hfam, hdl]
      · simp (disch := first | omega | assumption) only [h140_0, h140_1, h140_2, h140_5, h140_8, h140_9, h140_10, h140_11, h140_14, h140_15, h140_18, h140_19, h140_20, h140_22, h140_24, h140_27, h140_28, h140_31, h140_32, h140_33, h140_34, h140_37, h140_40, h140_41, h140_42, h140_45, h140_46, h140_47, h140_48, h140_51, h140_54, h140_55, h140_58, h140_59, h140_60, h140_63, h140_66, h140_67, h140_69, h140_71, h140_74, h140_75, h140_78, h140_79, h140_82, h140_83, h140_86, h140_87, h140_88, h140_91, h140_92, h140_95, h140_96, h140_99, h140_100, h140_103, h140_104, h140_105, h140_108, h140_111, h140_112, h140_113, h140_116, h140_117, Option.bind_some, Option.toList_some, Option.toList_none, List.cons_append, List.nil_append, nI_ltc, nI_lec, nI_eqc, nI_ne5, n5_ne, n5_lt, bI_0, bI_1, nI_add, pk_mul, if_pos, if_neg, ite_not, if_true, if_false, not_true_eq_false, not_false_eq_true, true_and, false_and, and_true, and_false, Nat.reduceAdd, Nat.reduceMul, m_isDevice_n, g3, e2, m_many, hml]
        rw [h140_21]
        simp (disch := first | omega | assumption) only [h140_0, h140_1, h140_2, h140_5, h140_8, h140_9, h140_10, h140_11, h140_14, h140_15, h140_18, h140_19, h140_20, h140_22, h140_24, h140_27, h140_28, h140_31, h140_32, h140_33, h140_34, h140_37, h140_40, h140_41, h140_42, h140_45, h140_46, h140_47, h140_48, h140_51, h140_54, h140_55, h140_58, h140_59, h140_60, h140_63, h140_66, h140_67, h140_69, h140_71, h140_74, h140_75, h140_78, h140_79, h140_82, h140_83, h140_86, h140_87, h140_88, h140_91, h140_92, h140_95, h140_96, h140_99, h140_100, h140_103, h140_104, h140_105, h140_108, h140_111, h140_112, h140_113, h140_116, h140_117, Option.bind_some, Option.toList_some, Option.toList_none, List.cons_append, List.nil_append, nI_ltc, nI_lec, nI_eqc, nI_ne5, n5_ne, n5_lt, bI_0, bI_1, nI_add, pk_mul, if_pos, if_neg, ite_not, if_true, if_false, not_true_eq_false, not_false_eq_true, true_and, false_and, and_true, and_false, Nat.reduceAdd, Nat.reduceMul, hml2]
        rw [h140_68]
        simp (disch := first | omega | assumption) only [h140_0, h140_1, h140_2, h140_5, h140_8, h140_9, h140_10, h140_11, h140_14, h140_15, h140_18, h140_19, h140_20, h140_22, h140_24, h140_27, h140_28, h140_31, h140_32, h140_33, h140_34, h140_37, h140_40, h140_41, h140_42, h140_45, h140_46, h140_47, h140_48, h140_51, h140_54, h140_55, h140_58, h140_59, h140_60, h140_63, h140_66, h140_67, h140_69, h140_71, h140_74, h140_75, h140_78, h140_79, h140_82, h140_83, h140_86, h140_87, h140_88, h140_91, h140_92, h140_95, h140_96, h140_99, h140_100, h140_103, h140_104, h140_105, h140_108, h140_111, h140_112, h140_113, h140_116, h140_117, Option.bind_some, Option.toList_some, Option.toList_none, List.cons_append, List.nil_append, nI_ltc, nI_lec, nI_eqc, nI_ne5, n5_ne, n5_lt, bI_0, bI_1, nI_add, pk_mul, if_pos, if_neg, ite_not, if_true, if_false, not_true_eq_false, not_false_eq_true, true_and, false_and, and_true, and_false, Nat.reduceAdd, Nat.reduceMul, m_many, hsub]
      · have eR : rk (remA mu1 (famB (rk mu 1) j) 12) 1 = remA (rk mu 1) (famB (rk mu 1) j) 12 := by
          rw [rk_remA _ 12 (Nat.le_refl _), eR1]
          intro i hi hf
          obtain ⟨b, s, hb, hs, q1, q2⟩ := hbs i hi hf
          rw [bn_of q1 hb]
          unfold sn
          rw [q2, nI_clamp (by omega)]
          omega
        refine hm.fin (fun a ha => by rw [kB_o (by omega), gB_o (by omega)]) (fun i hi => by rw [kB_o (by omega), gB_o (by omega)]) (fun t h1 h2 => by rw [kB_x (by omega), gB_o (by omega)]) ?_ ?_
        · rw [eR]; exact hO2
        · rw [eR]
          refine RelB_of ?_ (fun d hd => ?_)
          · rw [kB_x (by omega), gB_o (by omega), remA_row (by omega), relS_row (by omega)]
            exact hB3.1
          · by_cases hf : famB (rk mu 1) j d = true
            · have e0 : remA (rk mu 1) (famB (rk mu 1) j) 12 2 d = nI 0 := (remA_2 hd).1 hf
              refine ⟨?_, fun q => absurd e0 q⟩
              show kB (gB mu3 (famB (rk mu 1) j) 12) (famB (rk mu 1) j) 12 106 (20 * d) = _
              rw [e0, fin106, if_pos ⟨by omega, by omega, by rw [show 20 * d / 20 = d by omega]; exact hf⟩]
            · refine RelD_cong (hB3.dv hd) (fun k hk => ?_) (fun a ha => ?_) (fun a q ha hq => ?_) (fun a s ha hs => ?_)
              · rw [kB_x (by rw [show (20 * d + k) / 20 = d by omega]; exact fun q => hf q.2.2), gB_o (by omega)]
              · obtain ⟨l1, l2, l3, l4⟩ := relS_k (R := rk mu 1) (f := famB (rk mu 1) j) (n := 12) (d := d) (fun q => hf q.2)
                obtain ⟨x3, x4⟩ := remA_34 (rk mu 1) (famB (rk mu 1) j) 12
                rcases ha with rfl | rfl | rfl | rfl | rfl
                · exact (remA_2 hd).2 hf
                · rw [x3]
                · rw [x4]
                · rw [remA_row (by omega)]; exact l1
                · rw [remA_row (by omega)]; exact l2
              · obtain ⟨l1, l2, l3, l4⟩ := relS_k (R := rk mu 1) (f := famB (rk mu 1) j) (n := 12) (d := d) (fun q => hf q.2)
                rcases ha with rfl | rfl | rfl
                · rw [remA_row (by omega), relS_row (by omega)]
                · exact (remA_7 hd hq).2 hf
                · rw [remA_row (by omega)]; exact l4 q hq
              · obtain ⟨l1, l2, l3, l4⟩ := relS_k (R := rk mu 1) (f := famB (rk mu 1) j) (n := 12) (d := d) (fun q => hf q.2)
                rcases ha with rfl | rfl | rfl
                · exact (remA_9 hd hs).2 hf
                · rw [remA_row (by omega)]; exact (l3 s hs).1
                · rw [remA_row (by omega)]; exact (l3 s hs).2
  · refine ⟨-1, mu, p, mu, ?_, ?_, h⟩
    · simp (disch := first | omega | assumption) only [h37_0, h37_1, h37_4, h37_5, h37_8, h37_11, h37_12, h37_13, h37_14, h37_17, h37_18, h37_21, h37_24, h37_25, h37_28, h37_29, h37_32, h37_33, h37_34, h37_36, h37_38, h37_41, h37_42, h37_43, h37_46, h37_49, h37_50, h37_53, h37_54, h37_57, h37_60, h37_63, h37_64, h37_67, Option.bind_some, Option.toList_some, Option.toList_none, List.cons_append, List.nil_append, nI_ltc, nI_lec, nI_eqc, nI_ne5, n5_ne, n5_lt, bI_0, bI_1, nI_add, pk_mul, if_pos, if_neg, ite_not, if_true, if_false, not_true_eq_false, not_false_eq_true, true_and, false_and, and_true, and_false, Nat.reduceAdd, Nat.reduceMul, z_isDevice_o]
    · simp (disch := first | omega | assumption) only [h140_0, h140_1, h140_2, h140_5, h140_8, h140_9, h140_10, h140_11, h140_14, h140_15, h140_18, h140_19, h140_20, h140_22, h140_24, h140_27, h140_28, h140_31, h140_32, h140_33, h140_34, h140_37, h140_40, h140_41, h140_42, h140_45, h140_46, h140_47, h140_48, h140_51, h140_54, h140_55, h140_58, h140_59, h140_60, h140_63, h140_66, h140_67, h140_69, h140_71, h140_74, h140_75, h140_78, h140_79, h140_82, h140_83, h140_86, h140_87, h140_88, h140_91, h140_92, h140_95, h140_96, h140_99, h140_100, h140_103, h140_104, h140_105, h140_108, h140_111, h140_112, h140_113, h140_116, h140_117, Option.bind_some, Option.toList_some, Option.toList_none, List.cons_append, List.nil_append, nI_ltc, nI_lec, nI_eqc, nI_ne5, n5_ne, n5_lt, bI_0, bI_1, nI_add, pk_mul, if_pos, if_neg, ite_not, if_true, if_false, not_true_eq_false, not_false_eq_true, true_and, false_and, and_true, and_false, Nat.reduceAdd, Nat.reduceMul, m_isDevice_o]
end
