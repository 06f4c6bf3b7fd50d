/-! attach: both sides alike -/
section
variable (d L : Nat) (mu : RV) (p : Nat → Nat)
theorem z_attachCard (h : Rel mu p) {j : Nat} (hj : j < 12) (h2 : rk mu 1 2 j = nI 1) : ∃ mu1 p1 mu2 R1 R2 R3 c0 c1 c2, zsem (d + 4) 96 0 [.inr (.inl (some 0)), .inl (nI j), .inr (.inl none), .inr (.inl none), .inr (.inl none), .inr (.inl none), .inr (.inl none)] [] (HH L mu p) = some (some (.inl (nI (c0 + c1 + c2))), HH L mu2 p1) ∧ Rec mu p mu1 p1 ∧ CStep (rk mu 1) j 0 R1 c0 ∧ CStep R1 j 1 R2 c1 ∧ CStep R2 j 2 R3 c2 ∧ rk mu2 1 = R3 ∧ ∀ r, ¬r = 8 → mu2 r = mu1 r := by
  obtain ⟨mu1, p1, e1, hr⟩ := z_rec (d + 2) L mu p h
  have hO := h.2.2.1
  obtain ⟨R1, c0, m1, a4, a5, a6, f1, s1, r1, o1⟩ := z_acS d L p1 hO hj (q := 0) (by omega) h2 mu1 hr.rk 0 (.inr (.inl none)) (.inr (.inl none)) (.inr (.inl none))
  obtain ⟨hO1, k1, -⟩ := CStep_OK hO hj (by omega) h2 s1
  obtain ⟨R2, c1, m2, b4, b5, b6, f2, s2, r2, o2⟩ := z_acS d L p1 hO1 hj (q := 1) (by omega) k1 m1 r1 (0 + c0) a4 a5 a6
  obtain ⟨hO2, k2, -⟩ := CStep_OK hO1 hj (by omega) k1 s2
  obtain ⟨R3, c2, m3, d4, d5, d6, f3, s3, r3, o3⟩ := z_acS d L p1 hO2 hj (q := 2) (by omega) k2 m2 r2 (0 + c0 + c1) b4 b5 b6
  refine ⟨mu1, p1, m3, R1, R2, R3, c0, c1, c2, ?_, hr, s1, s2, s3, r3, fun r hr => by rw [o3 r hr, o2 r hr, o1 r hr]⟩
  have f : zsem (d + 4) 96 15 [.inr (.inl (some 0)), .inl (nI j), .inl (nI 0), .inl (nI 0), .inr (.inl none), .inr (.inl none), .inr (.inl none)] [] (HH L mu1 p1) = some (some (.inl (nI (c0 + c1 + c2))), HH L m3 p1) := by
    rw [f1, f2, f3, h96_15, Nat.zero_add]
    simp (disch := first | omega | assumption) only [h96_0, h96_1, h96_4, h96_5, h96_8, h96_11, h96_12, h96_13, h96_14, h96_16, h96_17, h96_20, h96_21, h96_22, h96_25, h96_27, h96_28, h96_31, h96_34, h96_36, h96_37, h96_39, h96_41, h96_44, h96_45, h96_48, h96_51, h96_53, h96_54, h96_56, h96_59, h96_60, h96_63, h96_64, h96_67, h96_70, h96_71, h96_72, h96_73, h96_76, h96_79, h96_81, h96_82, h96_84, h96_86, h96_89, h96_91, h96_92, h96_95, h96_98, h96_100, h96_102, h96_103, h96_104, h96_106, h96_108, h96_111, h96_112, h96_115, h96_116, h96_117, h96_118, h96_121, h96_124, h96_125, Option.bind_some, Option.toList_some, Option.toList_none, List.cons_append, List.nil_append, nI_ltc, nI_lec, nI_eqc, nI_ne5, n5_ne, n5_lt, bI_0, bI_1, nI_add, pk_mul, if_pos, if_neg, ite_not, if_true, if_false, not_true_eq_false, not_false_eq_true, true_and, false_and, and_true, and_false, Nat.reduceAdd, Nat.reduceMul]
  simp (disch := first | omega | assumption) only [h96_0, h96_1, h96_4, h96_5, h96_8, h96_11, h96_12, h96_13, h96_14, h96_16, h96_17, h96_20, h96_21, h96_22, h96_25, h96_27, h96_28, h96_31, h96_34, h96_36, h96_37, h96_39, h96_41, h96_44, h96_45, h96_48, h96_51, h96_53, h96_54, h96_56, h96_59, h96_60, h96_63, h96_64, h96_67, h96_70, h96_71, h96_72, h96_73, h96_76, h96_79, h96_81, h96_82, h96_84, h96_86, h96_89, h96_91, h96_92, h96_95, h96_98, h96_100, h96_102, h96_103, h96_104, h96_106, h96_108, h96_111, h96_112, h96_115, h96_116, h96_117, h96_118, h96_121, h96_124, h96_125, Option.bind_some, Option.toList_some, Option.toList_none, List.cons_append, List.nil_append, nI_ltc, nI_lec, nI_eqc, nI_ne5, n5_ne, n5_lt, bI_0, bI_1, nI_add, pk_mul, if_pos, if_neg, ite_not, if_true, if_false, not_true_eq_false, not_false_eq_true, true_and, false_and, and_true, and_false, Nat.reduceAdd, Nat.reduceMul, e1, f]
theorem z_windows {R : RV} (hO : OK R) {j : Nat} (hj : j < 12) (h2 : R 2 j = nI 2) (hR : rk mu 1 = R) : ∃ R1 R2 c0 c1 mu1 mu2, zsem (d + 4) 100 0 [.inr (.inl (some 0)), .inl (nI j), .inl (nI 0), .inr (.inl none), .inr (.inl none)] [] (HH L mu p) = some (some (.inl (nI c0)), HH L mu1 p) ∧ zsem (d + 4) 100 0 [.inr (.inl (some 0)), .inl (nI j), .inl (nI 1), .inr (.inl none), .inr (.inl none)] [] (HH L mu1 p) = some (some (.inl (nI c1)), HH L mu2 p) ∧ WStep R j 0 R1 c0 ∧ WStep R1 j 1 R2 c1 ∧ rk mu2 1 = R2 ∧ OK R2 ∧ (∀ r, ¬r = 8 → ¬r = 10 → ¬r = 11 → (r < 81 ∨ 87 < r) → mu2 r = mu r) ∧ c0 ≤ 36 ∧ c1 ≤ 36 := by
  obtain ⟨R1, c0, mu1, e1, e2, e3, e4, e5⟩ := z_attachWindow d L p hO hj (s := 0) (by omega) h2 mu hR
  obtain ⟨hO1, k1⟩ := WStep_OK hO hj (by omega) h2 e2
  obtain ⟨R2, c1, mu2, f1, f2, f3, f4, f5⟩ := z_attachWindow d L p hO1 hj (s := 1) (by omega) k1 mu1 e3
  obtain ⟨hO2, -⟩ := WStep_OK hO1 hj (by omega) k1 f2
  exact ⟨R1, R2, c0, c1, mu1, mu2, e1, f1, e2, f2, f3, hO2, fun r a b c e => by rw [f4 r a b c e, e4 r a b c e], e5, f5⟩
theorem NSp_v {R : RV} {j : Nat} {v : Int32} (h : NSp R j v) : v = -5 ∨ ∃ n, n ≤ 15 ∧ v = nI n := by
  obtain ⟨nb, la, h1, h2⟩ := h
  have hla : la ≤ 15 := by
    rcases h1 with ⟨-, -, q⟩ | ⟨-, q⟩
    · omega
    · exact q.2.2.2.2
  rcases h2 with ⟨n, -, a2, -, -, e⟩ | ⟨-, e⟩
  · exact Or.inr ⟨n, by omega, e⟩
  · exact Or.inl e
end
