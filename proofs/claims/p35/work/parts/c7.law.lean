/-! the law's loop -/
section
variable (d L : Nat)
theorem y_cell (mu : RV) (p : Nat → Nat) (hL : L < 100000) (k : Nat) (hk : k < 100000) : ∃ x : Int32, zsem d 23 0 [.inr (.inl (some SC)), .inl (nI k)] [] (HH L mu p) = some (some (.inl x), HH L mu p) := by
  by_cases h : k < L
  · have hL2 : L < 2147483648 := by omega
    refine ⟨mu SC k, ?_⟩
    simp (disch := first | omega | assumption) only [h23_0, h23_1, h23_2, h23_3, h23_6, h23_7, h23_8, h23_9, h23_12, h23_14, h23_15, h23_16, h23_17, h23_18, h23_20, h23_21, Option.bind_some, Option.toList_some, Option.toList_none, List.cons_append, List.nil_append, nI_ltc, nI_lec, nI_eqc, nI_ne5, n5_ne, n5_lt, bI_0, bI_1, nI_add, pk_mul, if_pos, if_neg, ite_not, if_true, if_false, not_true_eq_false, not_false_eq_true, true_and, false_and, and_true, and_false, Nat.reduceAdd, Nat.reduceMul]
  · refine ⟨nI 765356867 * nI (k + 1) + nI 415756965, ?_⟩
    simp (disch := first | omega | assumption) only [h23_0, h23_1, h23_2, h23_3, h23_6, h23_7, h23_8, h23_9, h23_12, h23_14, h23_15, h23_16, h23_17, h23_18, h23_20, h23_21, Option.bind_some, Option.toList_some, Option.toList_none, List.cons_append, List.nil_append, nI_ltc, nI_lec, nI_eqc, nI_ne5, n5_ne, n5_lt, bI_0, bI_1, nI_add, pk_mul, if_pos, if_neg, ite_not, if_true, if_false, not_true_eq_false, not_false_eq_true, true_and, false_and, and_true, and_false, Nat.reduceAdd, Nat.reduceMul]
/-- the first nine calls -/
theorem y_lwA {mu : RV} {p : Nat → Nat} (hL : L < 100000) (hR : Rel mu p) (k : Nat) (hk : k < 9) (w4 w5 w7 : AV) : ∃ (x : Int32) (v : Int64) (t : Int32) (mu' : RV) (p' : Nat → Nat), Rel mu' p' ∧
    zsem (d + 11) 109 16 [.inr (.inl (some SC)), .inr (.inl (some 0)), .inl (nI 1), .inl (nI k), w4, w5, .inr (.inl none), w7] [] (HH L mu p) = zsem (d + 11) 109 213 [.inr (.inl (some SC)), .inr (.inl (some 0)), .inl (nI 1), .inl (nI k), .inl x, .inr (.inr v), .inr (.inl none), .inl t] [] (HH L mu' p') := by
  have hO := hR.2.2.1
  have hX := hR.2.2.2
  obtain ⟨x, c1⟩ := y_cell (d + 10) L mu p hL k (by omega)
  have l0 := y_low (d + 10) L mu p x 2 (by omega) (by omega)
  have l2 := y_low (d + 10) L mu p (x >>> (nI 4 &&& 31)) 4 (by omega) (by omega)
  have b0 := lowN_lt x (n := 2) (by omega)
  have b2 := lowN_lt (x >>> (nI 4 &&& 31)) (n := 4) (by omega)
  generalize lowN x 2 = r at *
  generalize lowN (x >>> (nI 4 &&& 31)) 4 = s at *
  -- the call
  have fin : ∀ (t : Int32) (mu' : RV) (p' : Nat → Nat), zsem (d + 11) 109 16 [.inr (.inl (some SC)), .inr (.inl (some 0)), .inl (nI 1), .inl (nI k), w4, w5, .inr (.inl none), w7] [] (HH L mu p) = zsem (d + 11) 109 130 [.inr (.inl (some SC)), .inr (.inl (some 0)), .inl (nI 1), .inl (nI k), .inl x, .inr (.inr 0), .inr (.inl none), w7] [.inl t] (HH L mu' p') → zsem (d + 11) 109 16 [.inr (.inl (some SC)), .inr (.inl (some 0)), .inl (nI 1), .inl (nI k), w4, w5, .inr (.inl none), w7] [] (HH L mu p) = zsem (d + 11) 109 213 [.inr (.inl (some SC)), .inr (.inl (some 0)), .inl (nI 1), .inl (nI k), .inl x, .inr (.inr 0), .inr (.inl none), .inl t] [] (HH L mu' p') := fun t mu' p' h => by
    rw [h]
    by_cases ht : nI 0 ≤ t
    · simp (disch := first | omega | assumption) only [h109_130, h109_132, h109_134, h109_137, h109_138, h109_140, h109_143, h109_144, h109_147, h109_149, h109_150, h109_153, h109_154, h109_157, h109_158, h109_159, h109_162, h109_163, h109_165, Option.bind_some, Option.toList_some, Option.toList_none, List.cons_append, List.nil_append, nI_ltc, nI_lec, nI_eqc, nI_ne5, n5_ne, n5_lt, bI_0, bI_1, nI_add, pk_mul, if_pos, if_neg, ite_not, if_true, if_false, not_true_eq_false, not_false_eq_true, true_and, false_and, and_true, and_false, Nat.reduceAdd, Nat.reduceMul]
    · simp (disch := first | omega | assumption) only [h109_130, h109_132, h109_134, h109_137, h109_138, h109_140, h109_143, h109_144, h109_147, h109_149, h109_150, h109_153, h109_154, h109_157, h109_158, h109_159, Option.bind_some, Option.toList_some, Option.toList_none, List.cons_append, List.nil_append, nI_ltc, nI_lec, nI_eqc, nI_ne5, n5_ne, n5_lt, bI_0, bI_1, nI_add, pk_mul, if_pos, if_neg, ite_not, if_true, if_false, not_true_eq_false, not_false_eq_true, true_and, false_and, and_true, and_false, Nat.reduceAdd, Nat.reduceMul]
  have key : ∀ {K : Nat} {ls : List AV}, OutS (d + 10) K ls (rk mu 1) → (∀ (t : Int32) (mu' : RV) (p' : Nat → Nat), zsem (d + 10) K 0 ls [] (HH L mu p) = some (some (.inl t), HH L mu' p') → zsem (d + 11) 109 16 [.inr (.inl (some SC)), .inr (.inl (some 0)), .inl (nI 1), .inl (nI k), w4, w5, .inr (.inl none), w7] [] (HH L mu p) = zsem (d + 11) 109 130 [.inr (.inl (some SC)), .inr (.inl (some 0)), .inl (nI 1), .inl (nI k), .inl x, .inr (.inr 0), .inr (.inl none), w7] [.inl t] (HH L mu' p')) → ∃ (x : Int32) (v : Int64) (t : Int32) (mu' : RV) (p' : Nat → Nat), Rel mu' p' ∧
    zsem (d + 11) 109 16 [.inr (.inl (some SC)), .inr (.inl (some 0)), .inl (nI 1), .inl (nI k), w4, w5, .inr (.inl none), w7] [] (HH L mu p) = zsem (d + 11) 109 213 [.inr (.inl (some SC)), .inr (.inl (some 0)), .inl (nI 1), .inl (nI k), .inl x, .inr (.inr v), .inr (.inl none), .inl t] [] (HH L mu' p') := fun {K ls} hS pre => by
    obtain ⟨t, R', h1, h2, h3⟩ := hS
    rcases h3 L mu p hR rfl with ⟨-, -, mu', g1, g2⟩ | ⟨-, mu', p', g1, g2⟩
    · exact ⟨x, 0, t, mu', p, Rel_fr hR g1, fin t mu' p (pre t mu' p g2)⟩
    · exact ⟨x, 0, t, mu', p', g1.1, fin t mu' p' (pre t mu' p' g2)⟩
  have brd : ∀ b, b < 13 → OutS (d + 10) 20 [.inr (.inl (some 0)), .inl (nI b), .inl (nI s)] (rk mu 1) := fun b hb => (op_add hO hX (Or.inr rfl) (b := b) (s := s) hb b2).out (d + 1) (fun L mu p v mu' p' h => pre_bridge (d + 1) L h)
  have crd : ∀ b, b < 13 → OutS (d + 10) 8 [.inr (.inl (some 0)), .inl (nI b), .inl (nI s)] (rk mu 1) := fun b hb => (op_add hO hX (Or.inl rfl) (b := b) (s := s) hb b2).out (d + 1) (fun L mu p v mu' p' h => pre_card (d + 1) L h)
  by_cases h4 : k < 4
  · by_cases hr : r = 0
    · subst hr
      refine key (brd 12 (by omega)) (fun t mu' p' h => ?_)
      rw [h109_16]
      simp (disch := first | omega | assumption) only [h109_17, h109_19, h109_22, h109_23, h109_26, h109_27, h109_28, h109_31, h109_33, h109_34, h109_36, h109_39, h109_40, h109_43, h109_46, h109_47, h109_49, h109_50, h109_51, h109_54, h109_55, h109_57, h109_58, h109_61, h109_64, h109_65, h109_68, h109_70, h109_73, h109_75, h109_76, h109_77, h109_78, h109_81, h109_83, h109_84, h109_85, h109_86, h109_89, h109_92, Option.bind_some, Option.toList_some, Option.toList_none, List.cons_append, List.nil_append, nI_ltc, nI_lec, nI_eqc, nI_ne5, n5_ne, n5_lt, bI_0, bI_1, nI_add, pk_mul, if_pos, if_neg, ite_not, if_true, if_false, not_true_eq_false, not_false_eq_true, true_and, false_and, and_true, and_false, Nat.reduceAdd, Nat.reduceMul, c1, l0, l2, h, eq_self]
    · by_cases hk0 : k = 0
      · subst hk0
        refine key (brd 12 (by omega)) (fun t mu' p' h => ?_)
        rw [h109_16]
        simp (disch := first | omega | assumption) only [h109_17, h109_19, h109_22, h109_23, h109_26, h109_27, h109_28, h109_31, h109_33, h109_34, h109_36, h109_39, h109_40, h109_43, h109_46, h109_47, h109_49, h109_50, h109_51, h109_54, h109_55, h109_57, h109_58, h109_61, h109_64, h109_65, h109_68, h109_70, h109_73, h109_75, h109_76, h109_77, h109_78, h109_81, h109_83, h109_84, h109_85, h109_86, h109_89, h109_92, Option.bind_some, Option.toList_some, Option.toList_none, List.cons_append, List.nil_append, nI_ltc, nI_lec, nI_eqc, nI_ne5, n5_ne, n5_lt, bI_0, bI_1, nI_add, pk_mul, if_pos, if_neg, ite_not, if_true, if_false, not_true_eq_false, not_false_eq_true, true_and, false_and, and_true, and_false, Nat.reduceAdd, Nat.reduceMul, c1, l0, l2, h, hr, eq_self]
      · have l1 := y_low (d + 10) L mu p (x >>> (nI 1 &&& 31)) k (by omega) (by omega)
        have b1 := lowN_lt (x >>> (nI 1 &&& 31)) (n := k) (by omega)
        generalize lowN (x >>> (nI 1 &&& 31)) k = b at *
        refine key (brd b (by omega)) (fun t mu' p' h => ?_)
        rw [h109_16]
        simp (disch := first | omega | assumption) only [h109_17, h109_19, h109_22, h109_23, h109_26, h109_27, h109_28, h109_31, h109_33, h109_34, h109_36, h109_39, h109_40, h109_43, h109_46, h109_47, h109_49, h109_50, h109_51, h109_54, h109_55, h109_57, h109_58, h109_61, h109_64, h109_65, h109_68, h109_70, h109_73, h109_75, h109_76, h109_77, h109_78, h109_81, h109_83, h109_84, h109_85, h109_86, h109_89, h109_92, Option.bind_some, Option.toList_some, Option.toList_none, List.cons_append, List.nil_append, nI_ltc, nI_lec, nI_eqc, nI_ne5, n5_ne, n5_lt, bI_0, bI_1, nI_add, pk_mul, if_pos, if_neg, ite_not, if_true, if_false, not_true_eq_false, not_false_eq_true, true_and, false_and, and_true, and_false, Nat.reduceAdd, Nat.reduceMul, c1, l0, l1, l2, h, hr, hk0]
  · have l1 := y_low (d + 10) L mu p (x >>> (nI 1 &&& 31)) k (by omega) (by omega)
    have b1 := lowN_lt (x >>> (nI 1 &&& 31)) (n := k) (by omega)
    generalize lowN (x >>> (nI 1 &&& 31)) k = b at *
    refine key (crd b (by omega)) (fun t mu' p' h => ?_)
    rw [h109_16]
    simp (disch := first | omega | assumption) only [h109_17, h109_19, h109_22, h109_23, h109_26, h109_27, h109_28, h109_31, h109_33, h109_34, h109_36, h109_39, h109_40, h109_43, h109_46, h109_47, h109_49, h109_50, h109_51, h109_54, h109_55, h109_57, h109_58, h109_61, h109_64, h109_65, h109_68, h109_70, h109_73, h109_75, h109_76, h109_77, h109_78, h109_81, h109_83, h109_84, h109_85, h109_86, h109_89, h109_92, h109_95, h109_96, h109_98, h109_101, h109_102, h109_104, h109_105, h109_106, h109_107, h109_110, h109_112, h109_113, h109_114, h109_115, h109_118, h109_121, Option.bind_some, Option.toList_some, Option.toList_none, List.cons_append, List.nil_append, nI_ltc, nI_lec, nI_eqc, nI_ne5, n5_ne, n5_lt, bI_0, bI_1, nI_add, pk_mul, if_pos, if_neg, ite_not, if_true, if_false, not_true_eq_false, not_false_eq_true, true_and, false_and, and_true, and_false, Nat.reduceAdd, Nat.reduceMul, c1, l1, l2, h]
/-- the calls behind them -/
theorem y_lwB {mu : RV} {p : Nat → Nat} (hL : L < 100000) (hR : Rel mu p) (k : Nat) (hk : 9 ≤ k) (hk2 : k < 40) (w4 w5 w7 : AV) : ∃ (x : Int32) (v : Int64) (t : Int32) (mu' : RV) (p' : Nat → Nat), Rel mu' p' ∧
    zsem (d + 11) 109 16 [.inr (.inl (some SC)), .inr (.inl (some 0)), .inl (nI 1), .inl (nI k), w4, w5, .inr (.inl none), w7] [] (HH L mu p) = zsem (d + 11) 109 213 [.inr (.inl (some SC)), .inr (.inl (some 0)), .inl (nI 1), .inl (nI k), .inl x, .inr (.inr v), .inr (.inl none), .inl t] [] (HH L mu' p') := by
  have hO := hR.2.2.1
  have hX := hR.2.2.2
  obtain ⟨x, c1⟩ := y_cell (d + 10) L mu p hL k (by omega)
  obtain ⟨mu1, f1, c2⟩ := y_print (d + 5) L mu p hR rfl
  have hR1 := Rel_fr hR f1
  have hm1 : rk mu1 1 = rk mu 1 := f1.rk (by omega)
  obtain ⟨t, R', o1, o2, o3⟩ := y_act d hO hX x
  have ls := lg_self (prV (rk mu 1))
  rcases o3 L mu1 p hR1 hm1 with ⟨g0, -, mu2, g1, g2⟩ | ⟨g0, mu2, p2, g1, g2⟩
  · -- refused
    have hR2 := Rel_fr hR1 g1
    have hm2 : rk mu2 1 = rk mu 1 := by rw [g1.rk (by omega)]; exact hm1
    obtain ⟨mu3, f3, c3⟩ := y_print (d + 5) L mu2 p hR2 hm2
    have ht : ¬nI 0 ≤ t := Int32.not_le.mpr g0
    refine ⟨x, prV (rk mu 1), t, mu3, p, Rel_fr hR2 f3, ?_⟩
    rw [h109_16]
    simp (disch := first | omega | assumption) only [h109_17, h109_19, h109_22, h109_23, h109_26, h109_27, h109_28, h109_31, h109_33, h109_34, h109_36, h109_39, h109_40, h109_43, h109_46, h109_47, h109_49, h109_50, h109_51, h109_54, h109_55, h109_57, h109_58, h109_61, h109_64, h109_65, h109_68, h109_70, h109_73, h109_75, h109_76, h109_77, h109_78, h109_81, h109_83, h109_84, h109_85, h109_86, h109_89, h109_92, h109_95, h109_96, h109_98, h109_101, h109_102, h109_104, h109_105, h109_106, h109_107, h109_110, h109_112, h109_113, h109_114, h109_115, h109_118, h109_121, h109_124, h109_125, h109_127, h109_130, h109_132, h109_134, h109_137, h109_138, h109_140, h109_143, h109_144, h109_147, h109_149, h109_150, h109_153, h109_154, h109_157, h109_158, h109_159, h109_162, h109_163, h109_165, h109_168, h109_170, h109_171, h109_172, h109_173, h109_176, h109_179, h109_180, h109_183, h109_186, h109_187, h109_190, h109_192, h109_193, h109_196, h109_197, h109_199, h109_202, h109_204, h109_207, h109_208, h109_211, h109_212, Option.bind_some, Option.toList_some, Option.toList_none, List.cons_append, List.nil_append, nI_ltc, nI_lec, nI_eqc, nI_ne5, n5_ne, n5_lt, bI_0, bI_1, nI_add, pk_mul, if_pos, if_neg, ite_not, if_true, if_false, not_true_eq_false, not_false_eq_true, true_and, false_and, and_true, and_false, Nat.reduceAdd, Nat.reduceMul, c1, c2, g2, c3, ls, eq_self]
  · have l5 := y_low (d + 10) L mu2 p2 (x >>> (nI 5 &&& 31)) 4 (by omega) (by omega)
    have b5 := lowN_lt (x >>> (nI 5 &&& 31)) (n := 4) (by omega)
    generalize lowN (x >>> (nI 5 &&& 31)) 4 = r at *
    by_cases hr : r = 0
    · -- taken back, and done again
      subst hr
      obtain ⟨hR2, hm2, c, hc, h27, hkc⟩ := g1
      obtain ⟨mu3, hR3, hm3, c3⟩ := y_undo (d + 8) L (mu := mu1) hR2 hc h27 hkc
      rw [hm1] at hm3
      obtain ⟨mu4, f4, c4⟩ := y_print (d + 5) L mu3 p2 hR3 hm3
      have hR4 := Rel_fr hR3 f4
      have hm4 : rk mu4 1 = rk mu 1 := by rw [f4.rk (by omega)]; exact hm3
      rcases o3 L mu4 p2 hR4 hm4 with ⟨q0, -⟩ | ⟨-, mu5, p5, q1, q2⟩
      · exact absurd q0 (Int32.not_lt.mpr g0)
      · refine ⟨x, prV (rk mu 1), t, mu5, p5, q1.1, ?_⟩
        rw [h109_16]
        simp (disch := first | omega | assumption) only [h109_17, h109_19, h109_22, h109_23, h109_26, h109_27, h109_28, h109_31, h109_33, h109_34, h109_36, h109_39, h109_40, h109_43, h109_46, h109_47, h109_49, h109_50, h109_51, h109_54, h109_55, h109_57, h109_58, h109_61, h109_64, h109_65, h109_68, h109_70, h109_73, h109_75, h109_76, h109_77, h109_78, h109_81, h109_83, h109_84, h109_85, h109_86, h109_89, h109_92, h109_95, h109_96, h109_98, h109_101, h109_102, h109_104, h109_105, h109_106, h109_107, h109_110, h109_112, h109_113, h109_114, h109_115, h109_118, h109_121, h109_124, h109_125, h109_127, h109_130, h109_132, h109_134, h109_137, h109_138, h109_140, h109_143, h109_144, h109_147, h109_149, h109_150, h109_153, h109_154, h109_157, h109_158, h109_159, h109_162, h109_163, h109_165, h109_168, h109_170, h109_171, h109_172, h109_173, h109_176, h109_179, h109_180, h109_183, h109_186, h109_187, h109_190, h109_192, h109_193, h109_196, h109_197, h109_199, h109_202, h109_204, h109_207, h109_208, h109_211, h109_212, Option.bind_some, Option.toList_some, Option.toList_none, List.cons_append, List.nil_append, nI_ltc, nI_lec, nI_eqc, nI_ne5, n5_ne, n5_lt, bI_0, bI_1, nI_add, pk_mul, if_pos, if_neg, ite_not, if_true, if_false, not_true_eq_false, not_false_eq_true, true_and, false_and, and_true, and_false, Nat.reduceAdd, Nat.reduceMul, c1, c2, g2, l5, c3, c4, q2, ls, eq_self]
    · refine ⟨x, prV (rk mu 1), t, mu2, p2, g1.1, ?_⟩
      rw [h109_16]
      simp (disch := first | omega | assumption) only [h109_17, h109_19, h109_22, h109_23, h109_26, h109_27, h109_28, h109_31, h109_33, h109_34, h109_36, h109_39, h109_40, h109_43, h109_46, h109_47, h109_49, h109_50, h109_51, h109_54, h109_55, h109_57, h109_58, h109_61, h109_64, h109_65, h109_68, h109_70, h109_73, h109_75, h109_76, h109_77, h109_78, h109_81, h109_83, h109_84, h109_85, h109_86, h109_89, h109_92, h109_95, h109_96, h109_98, h109_101, h109_102, h109_104, h109_105, h109_106, h109_107, h109_110, h109_112, h109_113, h109_114, h109_115, h109_118, h109_121, h109_124, h109_125, h109_127, h109_130, h109_132, h109_134, h109_137, h109_138, h109_140, h109_143, h109_144, h109_147, h109_149, h109_150, h109_153, h109_154, h109_157, h109_158, h109_159, h109_162, h109_163, h109_165, h109_168, h109_170, h109_171, h109_172, h109_173, h109_176, h109_179, h109_180, h109_183, h109_186, h109_187, h109_190, h109_192, h109_193, h109_196, h109_197, h109_199, h109_202, h109_204, h109_207, h109_208, h109_211, h109_212, Option.bind_some, Option.toList_some, Option.toList_none, List.cons_append, List.nil_append, nI_ltc, nI_lec, nI_eqc, nI_ne5, n5_ne, n5_lt, bI_0, bI_1, nI_add, pk_mul, if_pos, if_neg, ite_not, if_true, if_false, not_true_eq_false, not_false_eq_true, true_and, false_and, and_true, and_false, Nat.reduceAdd, Nat.reduceMul, c1, c2, g2, l5, hr]
/-- the checks behind a call -/
theorem y_lwC {mu : RV} {p : Nat → Nat} (hR : Rel mu p) (k : Nat) (hk2 : k < 40) (x t : Int32) (v : Int64) : ∃ (w4 w5 w7 : AV) (mu' : RV) (p' : Nat → Nat), Rel mu' p' ∧
    zsem (d + 11) 109 213 [.inr (.inl (some SC)), .inr (.inl (some 0)), .inl (nI 1), .inl (nI k), .inl x, .inr (.inr v), .inr (.inl none), .inl t] [] (HH L mu p) = zsem (d + 11) 109 16 [.inr (.inl (some SC)), .inr (.inl (some 0)), .inl (nI 1), .inl (nI (k + 1)), w4, w5, .inr (.inl none), w7] [] (HH L mu' p') := by
  have r3 := rem_0 (r := k) (g := 3) (by omega) (by omega) (by omega)
  have r8 := rem_0 (r := k) (g := 8) (by omega) (by omega) (by omega)
  have n3 : ¬nI 3 = nI 0 := by decide
  have n8 : ¬nI 8 = nI 0 := by decide
  have A : ∃ mu1, FrS mu mu1 ∧ zsem (d + 11) 109 213 [.inr (.inl (some SC)), .inr (.inl (some 0)), .inl (nI 1), .inl (nI k), .inl x, .inr (.inr v), .inr (.inl none), .inl t] [] (HH L mu p) = zsem (d + 11) 109 234 [.inr (.inl (some SC)), .inr (.inl (some 0)), .inl (nI 1), .inl (nI k), .inl x, .inr (.inr v), .inr (.inl none), .inl t] [] (HH L mu1 p) := by
    by_cases h : k % 3 = 0
    · rw [h] at r3
      obtain ⟨mu1, f, e⟩ := y_hangs (d + 3) L mu p hR (x >>> (nI 2 &&& 31))
      refine ⟨mu1, f, ?_⟩
      simp (disch := first | omega | assumption) only [h109_213, h109_214, h109_217, h109_218, h109_219, h109_220, h109_223, h109_224, h109_226, h109_227, h109_228, h109_231, Option.bind_some, Option.toList_some, Option.toList_none, List.cons_append, List.nil_append, nI_ltc, nI_lec, nI_eqc, nI_ne5, n5_ne, n5_lt, bI_0, bI_1, nI_add, pk_mul, if_pos, if_neg, ite_not, if_true, if_false, not_true_eq_false, not_false_eq_true, true_and, false_and, and_true, and_false, Nat.reduceAdd, Nat.reduceMul, r3, e]
    · refine ⟨mu, FrS.r mu, ?_⟩
      simp (disch := first | omega | assumption) only [h109_213, h109_214, h109_217, h109_218, h109_219, h109_220, h109_223, h109_224, h109_226, h109_227, h109_228, h109_231, Option.bind_some, Option.toList_some, Option.toList_none, List.cons_append, List.nil_append, nI_ltc, nI_lec, nI_eqc, nI_ne5, n5_ne, n5_lt, bI_0, bI_1, nI_add, pk_mul, if_pos, if_neg, ite_not, if_true, if_false, not_true_eq_false, not_false_eq_true, true_and, false_and, and_true, and_false, Nat.reduceAdd, Nat.reduceMul, r3]
  obtain ⟨mu1, f1, e1⟩ := A
  have hR1 := Rel_fr hR f1
  have B : ∃ mu2 p2, Rel mu2 p2 ∧ zsem (d + 11) 109 234 [.inr (.inl (some SC)), .inr (.inl (some 0)), .inl (nI 1), .inl (nI k), .inl x, .inr (.inr v), .inr (.inl none), .inl t] [] (HH L mu1 p) = zsem (d + 11) 109 252 [.inr (.inl (some SC)), .inr (.inl (some 0)), .inl (nI 1), .inl (nI k), .inl x, .inr (.inr v), .inr (.inl none), .inl t] [] (HH L mu2 p2) := by
    by_cases h : k % 8 = 0
    · rw [h] at r8
      obtain ⟨mu2, p2, hR2, e⟩ := y_plugs d L hR1 (x >>> (nI 3 &&& 31))
      refine ⟨mu2, p2, hR2, ?_⟩
      simp (disch := first | omega | assumption) only [h109_234, h109_235, h109_237, h109_238, h109_241, h109_242, h109_244, h109_245, h109_246, h109_249, Option.bind_some, Option.toList_some, Option.toList_none, List.cons_append, List.nil_append, nI_ltc, nI_lec, nI_eqc, nI_ne5, n5_ne, n5_lt, bI_0, bI_1, nI_add, pk_mul, if_pos, if_neg, ite_not, if_true, if_false, not_true_eq_false, not_false_eq_true, true_and, false_and, and_true, and_false, Nat.reduceAdd, Nat.reduceMul, r8, e]
    · refine ⟨mu1, p, hR1, ?_⟩
      simp (disch := first | omega | assumption) only [h109_234, h109_235, h109_237, h109_238, h109_241, h109_242, h109_244, h109_245, h109_246, h109_249, Option.bind_some, Option.toList_some, Option.toList_none, List.cons_append, List.nil_append, nI_ltc, nI_lec, nI_eqc, nI_ne5, n5_ne, n5_lt, bI_0, bI_1, nI_add, pk_mul, if_pos, if_neg, ite_not, if_true, if_false, not_true_eq_false, not_false_eq_true, true_and, false_and, and_true, and_false, Nat.reduceAdd, Nat.reduceMul, r8]
  obtain ⟨mu2, p2, hR2, e2⟩ := B
  refine ⟨.inl x, .inr (.inr v), .inl t, mu2, p2, hR2, ?_⟩
  rw [e1, e2]
  simp (disch := first | omega | assumption) only [h109_8, h109_9, h109_10, h109_13, h109_14, h109_15, h109_17, h109_19, h109_22, h109_23, h109_26, h109_27, h109_28, h109_31, h109_33, h109_34, h109_36, h109_39, h109_40, h109_43, h109_46, h109_47, h109_49, h109_50, h109_51, h109_54, h109_55, h109_57, h109_58, h109_61, h109_64, h109_65, h109_68, h109_70, h109_73, h109_75, h109_76, h109_77, h109_78, h109_81, h109_83, h109_84, h109_85, h109_86, h109_89, h109_92, h109_95, h109_96, h109_98, h109_101, h109_102, h109_104, h109_105, h109_106, h109_107, h109_110, h109_112, h109_113, h109_114, h109_115, h109_118, h109_121, h109_124, h109_125, h109_127, h109_130, h109_132, h109_134, h109_137, h109_138, h109_140, h109_143, h109_144, h109_147, h109_149, h109_150, h109_153, h109_154, h109_157, h109_158, h109_159, h109_162, h109_163, h109_165, h109_168, h109_170, h109_171, h109_172, h109_173, h109_176, h109_179, h109_180, h109_183, h109_186, h109_187, h109_190, h109_192, h109_193, h109_196, h109_197, h109_199, h109_202, h109_204, h109_207, h109_208, h109_211, h109_212, h109_213, h109_214, h109_217, h109_218, h109_219, h109_220, h109_223, h109_224, h109_226, h109_227, h109_228, h109_231, h109_234, h109_235, h109_237, h109_238, h109_241, h109_242, h109_244, h109_245, h109_246, h109_249, h109_252, h109_253, h109_256, h109_257, h109_258, h109_261, h109_264, h109_265, h109_268, h109_269, h109_270, h109_272, h109_275, h109_278, h109_281, h109_282, h109_285, h109_286_0, h109_286_1, h109_286_b, Option.bind_some, Option.toList_some, Option.toList_none, List.cons_append, List.nil_append, nI_ltc, nI_lec, nI_eqc, nI_ne5, n5_ne, n5_lt, bI_0, bI_1, nI_add, pk_mul, if_pos, if_neg, ite_not, if_true, if_false, not_true_eq_false, not_false_eq_true, true_and, false_and, and_true, and_false, Nat.reduceAdd, Nat.reduceMul]
theorem y_lwL (hL : L < 100000) : ∀ m k (mu : RV) (p : Nat → Nat) (w4 w5 w7 : AV), k + m = 40 → Rel mu p → ∃ (w4' w5' w7' : AV) (mu' : RV) (p' : Nat → Nat), Rel mu' p' ∧
    zsem (d + 11) 109 16 [.inr (.inl (some SC)), .inr (.inl (some 0)), .inl (nI 1), .inl (nI k), w4, w5, .inr (.inl none), w7] [] (HH L mu p) = zsem (d + 11) 109 16 [.inr (.inl (some SC)), .inr (.inl (some 0)), .inl (nI 1), .inl (nI 40), w4', w5', .inr (.inl none), w7'] [] (HH L mu' p') := by
  intro m
  induction m with
  | zero =>
    intro k mu p w4 w5 w7 h hR
    have : k = 40 := by omega
    subst this
    exact ⟨w4, w5, w7, mu, p, hR, rfl⟩
  | succ m ih =>
    intro k mu p w4 w5 w7 h hR
    have S : ∃ (x : Int32) (v : Int64) (t : Int32) (mu' : RV) (p' : Nat → Nat), Rel mu' p' ∧
        zsem (d + 11) 109 16 [.inr (.inl (some SC)), .inr (.inl (some 0)), .inl (nI 1), .inl (nI k), w4, w5, .inr (.inl none), w7] [] (HH L mu p) = zsem (d + 11) 109 213 [.inr (.inl (some SC)), .inr (.inl (some 0)), .inl (nI 1), .inl (nI k), .inl x, .inr (.inr v), .inr (.inl none), .inl t] [] (HH L mu' p') := by
      by_cases h9 : k < 9
      · exact y_lwA d L hL hR k h9 w4 w5 w7
      · exact y_lwB d L hL hR k (by omega) (by omega) w4 w5 w7
    obtain ⟨x, v, t, mu1, p1, hR1, e1⟩ := S
    obtain ⟨a4, a5, a7, mu2, p2, hR2, e2⟩ := y_lwC d L hR1 k (by omega) x t v
    obtain ⟨b4, b5, b7, mu3, p3, hR3, e3⟩ := ih (k + 1) mu2 p2 a4 a5 a7 (by omega) hR2
    exact ⟨b4, b5, b7, mu3, p3, hR3, by rw [e1, e2, e3]⟩
/-- the law over the first state -/
theorem y_law {mu : RV} {p : Nat → Nat} (hL : L < 100000) (hR : Rel mu p) : ∃ (mu' : RV) (p' : Nat → Nat), Rel mu' p' ∧ zsem (d + 11) 109 8 [.inr (.inl (some SC)), .inr (.inl (some 0)), .inr (.inl none), .inr (.inl none), .inr (.inl none), .inr (.inl none), .inr (.inl none), .inr (.inl none)] [] (HH L mu p) = some (some (.inl (nI 1)), HH L mu' p') := by
  obtain ⟨mu1, f1, e1⟩ := y_hangs (d + 3) L mu p hR (nI 0)
  obtain ⟨w4, w5, w7, mu2, p2, hR2, e2⟩ := y_lwL d L hL 40 0 mu1 p (.inr (.inl none)) (.inr (.inl none)) (.inr (.inl none)) rfl (Rel_fr hR f1)
  obtain ⟨x, c3⟩ := y_cell (d + 10) L mu2 p2 hL 41 (by omega)
  obtain ⟨mu4, f4, e4⟩ := y_hangs (d + 3) L mu2 p2 hR2 x
  refine ⟨mu4, p2, Rel_fr hR2 f4, ?_⟩
  have e5 : zsem (d + 11) 109 16 [.inr (.inl (some SC)), .inr (.inl (some 0)), .inl (nI 1), .inl (nI 40), w4, w5, .inr (.inl none), w7] [] (HH L mu2 p2) = some (some (.inl (nI 1)), HH L mu4 p2) := by
    rw [h109_16]
    simp (disch := first | omega | assumption) only [h109_8, h109_9, h109_10, h109_13, h109_14, h109_15, h109_17, h109_19, h109_22, h109_23, h109_26, h109_27, h109_28, h109_31, h109_33, h109_34, h109_36, h109_39, h109_40, h109_43, h109_46, h109_47, h109_49, h109_50, h109_51, h109_54, h109_55, h109_57, h109_58, h109_61, h109_64, h109_65, h109_68, h109_70, h109_73, h109_75, h109_76, h109_77, h109_78, h109_81, h109_83, h109_84, h109_85, h109_86, h109_89, h109_92, h109_95, h109_96, h109_98, h109_101, h109_102, h109_104, h109_105, h109_106, h109_107, h109_110, h109_112, h109_113, h109_114, h109_115, h109_118, h109_121, h109_124, h109_125, h109_127, h109_130, h109_132, h109_134, h109_137, h109_138, h109_140, h109_143, h109_144, h109_147, h109_149, h109_150, h109_153, h109_154, h109_157, h109_158, h109_159, h109_162, h109_163, h109_165, h109_168, h109_170, h109_171, h109_172, h109_173, h109_176, h109_179, h109_180, h109_183, h109_186, h109_187, h109_190, h109_192, h109_193, h109_196, h109_197, h109_199, h109_202, h109_204, h109_207, h109_208, h109_211, h109_212, h109_213, h109_214, h109_217, h109_218, h109_219, h109_220, h109_223, h109_224, h109_226, h109_227, h109_228, h109_231, h109_234, h109_235, h109_237, h109_238, h109_241, h109_242, h109_244, h109_245, h109_246, h109_249, h109_252, h109_253, h109_256, h109_257, h109_258, h109_261, h109_264, h109_265, h109_268, h109_269, h109_270, h109_272, h109_275, h109_278, h109_281, h109_282, h109_285, h109_286_0, h109_286_1, h109_286_b, Option.bind_some, Option.toList_some, Option.toList_none, List.cons_append, List.nil_append, nI_ltc, nI_lec, nI_eqc, nI_ne5, n5_ne, n5_lt, bI_0, bI_1, nI_add, pk_mul, if_pos, if_neg, ite_not, if_true, if_false, not_true_eq_false, not_false_eq_true, true_and, false_and, and_true, and_false, Nat.reduceAdd, Nat.reduceMul, c3, e4]
  rw [← e5, ← e2]
  simp (disch := first | omega | assumption) only [h109_8, h109_9, h109_10, h109_13, h109_14, h109_15, h109_17, h109_19, h109_22, h109_23, h109_26, h109_27, h109_28, h109_31, h109_33, h109_34, h109_36, h109_39, h109_40, h109_43, h109_46, h109_47, h109_49, h109_50, h109_51, h109_54, h109_55, h109_57, h109_58, h109_61, h109_64, h109_65, h109_68, h109_70, h109_73, h109_75, h109_76, h109_77, h109_78, h109_81, h109_83, h109_84, h109_85, h109_86, h109_89, h109_92, h109_95, h109_96, h109_98, h109_101, h109_102, h109_104, h109_105, h109_106, h109_107, h109_110, h109_112, h109_113, h109_114, h109_115, h109_118, h109_121, h109_124, h109_125, h109_127, h109_130, h109_132, h109_134, h109_137, h109_138, h109_140, h109_143, h109_144, h109_147, h109_149, h109_150, h109_153, h109_154, h109_157, h109_158, h109_159, h109_162, h109_163, h109_165, h109_168, h109_170, h109_171, h109_172, h109_173, h109_176, h109_179, h109_180, h109_183, h109_186, h109_187, h109_190, h109_192, h109_193, h109_196, h109_197, h109_199, h109_202, h109_204, h109_207, h109_208, h109_211, h109_212, h109_213, h109_214, h109_217, h109_218, h109_219, h109_220, h109_223, h109_224, h109_226, h109_227, h109_228, h109_231, h109_234, h109_235, h109_237, h109_238, h109_241, h109_242, h109_244, h109_245, h109_246, h109_249, h109_252, h109_253, h109_256, h109_257, h109_258, h109_261, h109_264, h109_265, h109_268, h109_269, h109_270, h109_272, h109_275, h109_278, h109_281, h109_282, h109_285, h109_286_0, h109_286_1, h109_286_b, Option.bind_some, Option.toList_some, Option.toList_none, List.cons_append, List.nil_append, nI_ltc, nI_lec, nI_eqc, nI_ne5, n5_ne, n5_lt, bI_0, bI_1, nI_add, pk_mul, if_pos, if_neg, ite_not, if_true, if_false, not_true_eq_false, not_false_eq_true, true_and, false_and, and_true, and_false, Nat.reduceAdd, Nat.reduceMul, e1]
end
