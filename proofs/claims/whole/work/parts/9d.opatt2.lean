/-! attach: both sides alike -/
section
variable (d L : Nat) (mu : RV) (p : Nat → Nat)
theorem z_attachCard (h : Rel mu p) {j : Nat} (hj : j < 12) (h2 : rk mu 1 2 j = nI 1) : ∃ mu1 p1 mu2 R1 R2 R3 c0 c1 c2, zsem (d + 4) 63 0 [.inr (some 0), .inl (nI j), .inr none, .inr none, .inr none, .inr none, .inr none] [] (HH L mu p) = some (some (.inl (nI (c0 + c1 + c2))), HH L mu2 p1) ∧ Rec mu p mu1 p1 ∧ CStep (rk mu 1) j 0 R1 c0 ∧ CStep R1 j 1 R2 c1 ∧ CStep R2 j 2 R3 c2 ∧ rk mu2 1 = R3 ∧ ∀ r, ¬r = 8 → mu2 r = mu1 r := by
  obtain ⟨mu1, p1, e1, hr⟩ := z_rec (d + 2) L mu p h
  have hO := h.2.2.1
  obtain ⟨R1, c0, m1, a4, a5, a6, f1, s1, r1, o1⟩ := z_acS d L p1 hO hj (q := 0) (by omega) h2 mu1 hr.rk 0 (.inr none) (.inr none) (.inr none)
  obtain ⟨hO1, k1, -⟩ := CStep_OK hO hj (by omega) h2 s1
  obtain ⟨R2, c1, m2, b4, b5, b6, f2, s2, r2, o2⟩ := z_acS d L p1 hO1 hj (q := 1) (by omega) k1 m1 r1 (0 + c0) a4 a5 a6
  obtain ⟨hO2, k2, -⟩ := CStep_OK hO1 hj (by omega) k1 s2
  obtain ⟨R3, c2, m3, d4, d5, d6, f3, s3, r3, o3⟩ := z_acS d L p1 hO2 hj (q := 2) (by omega) k2 m2 r2 (0 + c0 + c1) b4 b5 b6
  refine ⟨mu1, p1, m3, R1, R2, R3, c0, c1, c2, ?_, hr, s1, s2, s3, r3, fun r hr => by rw [o3 r hr, o2 r hr, o1 r hr]⟩
  have f : zsem (d + 4) 63 15 [.inr (some 0), .inl (nI j), .inl (nI 0), .inl (nI 0), .inr none, .inr none, .inr none] [] (HH L mu1 p1) = some (some (.inl (nI (c0 + c1 + c2))), HH L m3 p1) := by
    rw [f1, f2, f3, h63_15, Nat.zero_add]
    simp (disch := first | omega | assumption) only [h63_0, h63_1, h63_4, h63_5, h63_8, h63_11, h63_12, h63_13, h63_14, h63_16, h63_17, h63_20, h63_21, h63_22, h63_25, h63_27, h63_28, h63_31, h63_34, h63_36, h63_37, h63_39, h63_41, h63_44, h63_45, h63_48, h63_51, h63_53, h63_54, h63_56, h63_59, h63_60, h63_63, h63_64, h63_67, h63_70, h63_71, h63_72, h63_73, h63_76, h63_79, h63_81, h63_82, h63_84, h63_86, h63_89, h63_91, h63_92, h63_95, h63_98, h63_100, h63_102, h63_103, h63_104, h63_106, h63_108, h63_111, h63_112, h63_115, h63_116, h63_117, h63_118, h63_121, h63_124, h63_125, Option.bind_some, Option.toList_some, Option.toList_none, List.cons_append, List.nil_append, nI_ltc, nI_lec, nI_eqc, nI_ne5, n5_ne, n5_lt, bI_0, bI_1, nI_add, pk_mul, if_pos, if_neg, ite_not, if_true, if_false, not_true_eq_false, not_false_eq_true, true_and, false_and, and_true, and_false, Nat.reduceAdd, Nat.reduceMul]
  simp (disch := first | omega | assumption) only [h63_0, h63_1, h63_4, h63_5, h63_8, h63_11, h63_12, h63_13, h63_14, h63_16, h63_17, h63_20, h63_21, h63_22, h63_25, h63_27, h63_28, h63_31, h63_34, h63_36, h63_37, h63_39, h63_41, h63_44, h63_45, h63_48, h63_51, h63_53, h63_54, h63_56, h63_59, h63_60, h63_63, h63_64, h63_67, h63_70, h63_71, h63_72, h63_73, h63_76, h63_79, h63_81, h63_82, h63_84, h63_86, h63_89, h63_91, h63_92, h63_95, h63_98, h63_100, h63_102, h63_103, h63_104, h63_106, h63_108, h63_111, h63_112, h63_115, h63_116, h63_117, h63_118, h63_121, h63_124, h63_125, Option.bind_some, Option.toList_some, Option.toList_none, List.cons_append, List.nil_append, nI_ltc, nI_lec, nI_eqc, nI_ne5, n5_ne, n5_lt, bI_0, bI_1, nI_add, pk_mul, if_pos, if_neg, ite_not, if_true, if_false, not_true_eq_false, not_false_eq_true, true_and, false_and, and_true, and_false, Nat.reduceAdd, Nat.reduceMul, e1, f]
theorem z_windows {R : RV} (hO : OK R) {j : Nat} (hj : j < 12) (h2 : R 2 j = nI 2) (hR : rk mu 1 = R) : ∃ R1 R2 c0 c1 mu1 mu2, zsem (d + 4) 72 0 [.inr (some 0), .inl (nI j), .inl (nI 0), .inr none, .inr none] [] (HH L mu p) = some (some (.inl (nI c0)), HH L mu1 p) ∧ zsem (d + 4) 72 0 [.inr (some 0), .inl (nI j), .inl (nI 1), .inr none, .inr none] [] (HH L mu1 p) = some (some (.inl (nI c1)), HH L mu2 p) ∧ WStep R j 0 R1 c0 ∧ WStep R1 j 1 R2 c1 ∧ rk mu2 1 = R2 ∧ OK R2 ∧ (∀ r, ¬r = 8 → ¬r = 10 → ¬r = 11 → (r < 81 ∨ 87 < r) → mu2 r = mu r) ∧ c0 ≤ 36 ∧ c1 ≤ 36 := by
  obtain ⟨R1, c0, mu1, e1, e2, e3, e4, e5⟩ := z_attachWindow d L p hO hj (s := 0) (by omega) h2 mu hR
  obtain ⟨hO1, k1⟩ := WStep_OK hO hj (by omega) h2 e2
  obtain ⟨R2, c1, mu2, f1, f2, f3, f4, f5⟩ := z_attachWindow d L p hO1 hj (s := 1) (by omega) k1 mu1 e3
  obtain ⟨hO2, -⟩ := WStep_OK hO1 hj (by omega) k1 f2
  exact ⟨R1, R2, c0, c1, mu1, mu2, e1, f1, e2, f2, f3, hO2, fun r a b c e => by rw [f4 r a b c e, e4 r a b c e], e5, f5⟩
theorem m_windows {R R1 R2 : RV} {c0 c1 : Nat} (hO : OK R) {j : Nat} (hj : j < 12) (h2 : R 2 j = nI 2) (hB : RelB R (fun t => mu 106 t)) (h0 : WStep R j 0 R1 c0) (h1 : WStep R1 j 1 R2 c1) (h13 : mu 105 13 = nI 0) (a2 : Int32) (w4 w5 : AV) : ∃ mu', zsem (d + 6) 162 36 [.inr (some 105), .inl (nI j), .inl a2, .inl (nI 0), w4, w5] [] (HH L mu p) = some (none, HH L mu' p) ∧ RelB R2 (fun t => mu' 106 t) ∧ mu' 105 13 = nI (c0 + c1) ∧ FrB mu mu' := by
  obtain ⟨hO1, k1⟩ := WStep_OK hO hj (by omega) h2 h0
  obtain ⟨m1, b4, b5, e1, e2, e3, e4⟩ := m_awS d L p hO hj (s := 0) (by omega) h2 mu hB h0 0 h13 a2 w4 w5
  obtain ⟨m2, d4, d5, f1, f2, f3, f4⟩ := m_awS d L p hO1 hj (s := 1) (by omega) k1 m1 e2 h1 (0 + c0) e3 a2 b4 b5
  refine ⟨m2, ?_, f2, by rw [f3, Nat.zero_add], e4.tr f4⟩
  rw [e1, f1, h162_36]
  simp (disch := first | omega | assumption) only [h162_0, h162_1, h162_2, h162_5, h162_8, h162_9, h162_12, h162_13, h162_16, h162_18, h162_19, h162_20, h162_21, h162_22, h162_25, h162_26, h162_29, h162_31, h162_32, h162_33, h162_34, h162_35, h162_37, h162_38, h162_41, h162_42, h162_45, h162_47, h162_48, h162_49, h162_50, h162_51, h162_53, h162_54, h162_55, h162_56, h162_59, h162_62, h162_63, h162_66, h162_68, h162_69, h162_72, h162_73, h162_74, h162_77, h162_78, h162_81, h162_82, h162_83, h162_84, h162_85, h162_86, h162_89, h162_91, h162_92, h162_93, h162_96, h162_98, h162_99, h162_102, h162_105, h162_107, h162_109, h162_111, h162_113, h162_116, h162_117, h162_120, h162_121, h162_124, h162_126, h162_127, h162_128, h162_129, h162_131, h162_132, h162_133, h162_136, h162_137, h162_140, h162_142, h162_143, h162_144, h162_145, h162_146, h162_149, h162_151, h162_152, h162_153, h162_154, h162_155, h162_156, h162_158, h162_159, h162_162, h162_165, h162_166, h162_167, h162_168, h162_171, h162_174, h162_177, Option.bind_some, Option.toList_some, Option.toList_none, List.cons_append, List.nil_append, nI_ltc, nI_lec, nI_eqc, nI_ne5, n5_ne, n5_lt, bI_0, bI_1, nI_add, pk_mul, if_pos, if_neg, ite_not, if_true, if_false, not_true_eq_false, not_false_eq_true, true_and, false_and, and_true, and_false, Nat.reduceAdd, Nat.reduceMul]
/-- both sides have changed the rack alone, behind a record -/
theorem fin_att {mu mu1 mu2 mu3 mu4 : RV} {p p1 : Nat → Nat} {R : RV} (hm : Mid mu p mu1 p1 mu2 mu3) (hO : OK R) (hR : rk mu2 1 = R) (hB : RelB R (fun t => mu4 106 t)) (hF : FrB mu3 mu4) : Rel mu4 p1 :=
  hm.fin (fun a ha => hF.1 a (by omega) (by omega) (by omega)) (fun i hi => hF.2.1 i (by omega) (by omega)) (fun t h1 _ => hF.2.2 t (by omega)) (by rw [hR]; exact hO) (by rw [hR]; exact hB)
theorem RelB_u12 {R mu : RV} (h : RelB R (fun t => mu 106 t)) {j : Nat} (hj : j < 12) (x y : Int32) : RelB (u2 (u2 R 12 j x) 13 j y) (fun t => u2 (u2 mu 106 (20 * j + 12) x) 106 (20 * j + 13) y 106 t) := by
  refine RelB_of ?_ (fun d hd => ?_)
  · show u2 (u2 mu 106 (20 * j + 12) x) 106 (20 * j + 13) y 106 240 = _
    rw [u2_o _ _ (by omega), u2_o _ _ (by omega), u2_row (by omega), u2_row (by omega)]
    exact h.1
  · by_cases e : d = j
    · subst e
      obtain ⟨h0, h1⟩ := h.dv hd
      have B : ∀ t, ¬t = 20 * d + 12 → ¬t = 20 * d + 13 → u2 (u2 mu 106 (20 * d + 12) x) 106 (20 * d + 13) y 106 t = mu 106 t := fun t h1 h2 => by rw [u2_o _ _ (by omega), u2_o _ _ (by omega)]
      have RR : ∀ a, ¬a = 12 → ¬a = 13 → u2 (u2 R 12 d x) 13 d y a = R a := fun a h1 h2 => by rw [u2_row h2, u2_row h1]
      refine ⟨?_, fun hk => ?_⟩
      · show u2 (u2 mu 106 (20 * d + 12) x) 106 (20 * d + 13) y 106 (20 * d) = _
        rw [B _ (by omega) (by omega), RR 2 (by omega) (by omega)]
        exact h0
      · rw [RR 2 (by omega) (by omega)] at hk
        obtain ⟨a1, a2, a3, a4, a5, a6⟩ := h1 hk
        refine ⟨?_, ?_, fun q' hq' => ⟨?_, ?_, fun hz => ?_⟩, ?_, ?_, fun s' hs' => ⟨?_, ?_, ?_⟩⟩
        · show u2 (u2 mu 106 (20 * d + 12) x) 106 (20 * d + 13) y 106 (20 * d + 1) = _
          rw [B _ (by omega) (by omega), RR 3 (by omega) (by omega)]; exact a1
        · show u2 (u2 mu 106 (20 * d + 12) x) 106 (20 * d + 13) y 106 (20 * d + 2) = _
          rw [B _ (by omega) (by omega), RR 4 (by omega) (by omega)]; exact a2
        · show u2 (u2 mu 106 (20 * d + 12) x) 106 (20 * d + 13) y 106 (20 * d + 3 + 3 * q' + 1) = _
          rw [B _ (by omega) (by omega), RR 7 (by omega) (by omega)]; exact (a3 q' hq').1
        · show u2 (u2 mu 106 (20 * d + 12) x) 106 (20 * d + 13) y 106 (20 * d + 3 + 3 * q' + 2) = _
          rw [B _ (by omega) (by omega), RR 8 (by omega) (by omega)]; exact (a3 q' hq').2.1
        · show u2 (u2 mu 106 (20 * d + 12) x) 106 (20 * d + 13) y 106 (20 * d + 3 + 3 * q') = _
          rw [RR 7 (by omega) (by omega)] at hz
          rw [B _ (by omega) (by omega), RR 6 (by omega) (by omega)]; exact (a3 q' hq').2.2 hz
        · show u2 (u2 mu 106 (20 * d + 12) x) 106 (20 * d + 13) y 106 (20 * d + 12) = _
          rw [u2_o _ _ (by omega), u2_s, u2_row (by omega), u2_s]
        · show u2 (u2 mu 106 (20 * d + 12) x) 106 (20 * d + 13) y 106 (20 * d + 13) = _
          rw [u2_s, u2_s]
        · show u2 (u2 mu 106 (20 * d + 12) x) 106 (20 * d + 13) y 106 (20 * d + 14 + s') = _
          rw [B _ (by omega) (by omega), RR 10 (by omega) (by omega)]; exact (a6 s' hs').1
        · show u2 (u2 mu 106 (20 * d + 12) x) 106 (20 * d + 13) y 106 (20 * d + 16 + s') = _
          rw [B _ (by omega) (by omega), RR 11 (by omega) (by omega)]; exact (a6 s' hs').2.1
        · show u2 (u2 mu 106 (20 * d + 12) x) 106 (20 * d + 13) y 106 (20 * d + 18 + s') = _
          rw [B _ (by omega) (by omega), RR 9 (by omega) (by omega)]; exact (a6 s' hs').2.2
    · exact RelD_cong (h.dv hd) (fun k hk => by
        show u2 (u2 mu 106 (20 * j + 12) x) 106 (20 * j + 13) y 106 (20 * d + k) = _
        rw [u2_o _ _ (by omega), u2_o _ _ (by omega)]) (fun a ha => by rw [u2_o _ _ (by omega), u2_o _ _ (by omega)]) (fun a q' ha hq' => by rw [u2_row (by omega), u2_row (by omega)]) (fun a s' ha hs' => by rw [u2_row (by omega), u2_row (by omega)])
theorem NSp_v {R : RV} {j : Nat} {v : Int32} (h : NSp R j v) : v = -5 ∨ ∃ n, n ≤ 15 ∧ v = nI n := by
  obtain ⟨nb, la, h1, h2⟩ := h
  have hla : la ≤ 15 := by
    rcases h1 with ⟨-, -, q⟩ | ⟨-, q⟩
    · omega
    · exact q.2.2.2.2
  rcases h2 with ⟨n, -, a2, -, -, e⟩ | ⟨-, e⟩
  · exact Or.inr ⟨n, by omega, e⟩
  · exact Or.inl e
theorem op_attach (h : Rel mu p) (x : Int32) : Pair (d + 7) L 61 [.inl x] 155 [.inl x, .inr none] mu p := by
  rcases ixo x 12 (by omega) with ⟨j, hj, rfl⟩ | hx
  case inr =>
    refine ⟨-1, mu, p, mu, ?_, ?_, h⟩
    · simp (disch := first | omega | assumption) only [h61_0, h61_1, h61_4, h61_5, h61_8, h61_11, h61_12, h61_13, h61_14, h61_17, h61_18, h61_21, h61_24, h61_25, h61_26, h61_29, h61_31, h61_34, h61_36, h61_37, h61_38, h61_41, h61_42, h61_45, h61_48, h61_49, h61_50, h61_53, h61_56, h61_57, h61_58, h61_61, Option.bind_some, Option.toList_some, Option.toList_none, List.cons_append, List.nil_append, nI_ltc, nI_lec, nI_eqc, nI_ne5, n5_ne, n5_lt, bI_0, bI_1, nI_add, pk_mul, if_pos, if_neg, ite_not, if_true, if_false, not_true_eq_false, not_false_eq_true, true_and, false_and, and_true, and_false, Nat.reduceAdd, Nat.reduceMul, z_isDevice_o]
    · simp (disch := first | omega | assumption) only [h155_0, h155_1, h155_2, h155_5, h155_8, h155_9, h155_10, h155_11, h155_12, h155_15, h155_18, h155_19, h155_20, h155_23, h155_26, h155_27, h155_28, h155_31, h155_32, h155_35, h155_36, h155_37, h155_38, h155_41, h155_43, h155_46, h155_47, h155_48, h155_51, h155_54, h155_55, h155_56, h155_57, h155_58, h155_61, h155_62, h155_65, h155_66, h155_67, h155_68, h155_71, h155_73, h155_76, h155_77, h155_79, h155_82, h155_84, h155_85, h155_86, h155_89, h155_90, h155_91, h155_94, h155_95, h155_96, h155_99, h155_102, h155_103, h155_104, h155_107, h155_110, h155_111, h155_112, h155_113, h155_116, h155_117, h155_120, Option.bind_some, Option.toList_some, Option.toList_none, List.cons_append, List.nil_append, nI_ltc, nI_lec, nI_eqc, nI_ne5, n5_ne, n5_lt, bI_0, bI_1, nI_add, pk_mul, if_pos, if_neg, ite_not, if_true, if_false, not_true_eq_false, not_false_eq_true, true_and, false_and, and_true, and_false, Nat.reduceAdd, Nat.reduceMul, m_isDevice_o]
  have hk2 := h.kind hj
  by_cases hk : mu 2 j = nI 0
  · refine ⟨-1, mu, p, mu, ?_, ?_, h⟩
    · simp (disch := first | omega | assumption) only [h61_0, h61_1, h61_4, h61_5, h61_8, h61_11, h61_12, h61_13, h61_14, h61_17, h61_18, h61_21, h61_24, h61_25, h61_26, h61_29, h61_31, h61_34, h61_36, h61_37, h61_38, h61_41, h61_42, h61_45, h61_48, h61_49, h61_50, h61_53, h61_56, h61_57, h61_58, h61_61, Option.bind_some, Option.toList_some, Option.toList_none, List.cons_append, List.nil_append, nI_ltc, nI_lec, nI_eqc, nI_ne5, n5_ne, n5_lt, bI_0, bI_1, nI_add, pk_mul, if_pos, if_neg, ite_not, if_true, if_false, not_true_eq_false, not_false_eq_true, true_and, false_and, and_true, and_false, Nat.reduceAdd, Nat.reduceMul, z_isDevice_n, hk]
    · simp (disch := first | omega | assumption) only [h155_0, h155_1, h155_2, h155_5, h155_8, h155_9, h155_10, h155_11, h155_12, h155_15, h155_18, h155_19, h155_20, h155_23, h155_26, h155_27, h155_28, h155_31, h155_32, h155_35, h155_36, h155_37, h155_38, h155_41, h155_43, h155_46, h155_47, h155_48, h155_51, h155_54, h155_55, h155_56, h155_57, h155_58, h155_61, h155_62, h155_65, h155_66, h155_67, h155_68, h155_71, h155_73, h155_76, h155_77, h155_79, h155_82, h155_84, h155_85, h155_86, h155_89, h155_90, h155_91, h155_94, h155_95, h155_96, h155_99, h155_102, h155_103, h155_104, h155_107, h155_110, h155_111, h155_112, h155_113, h155_116, h155_117, h155_120, Option.bind_some, Option.toList_some, Option.toList_none, List.cons_append, List.nil_append, nI_ltc, nI_lec, nI_eqc, nI_ne5, n5_ne, n5_lt, bI_0, bI_1, nI_add, pk_mul, if_pos, if_neg, ite_not, if_true, if_false, not_true_eq_false, not_false_eq_true, true_and, false_and, and_true, and_false, Nat.reduceAdd, Nat.reduceMul, m_isDevice_n, hk2, hk]
  have hO := h.2.2.1
  have hkR : ¬rk mu 1 2 j = nI 0 := by rw [rk_2 hj]; exact hk
  have m3 : mu 3 j = nI (bn (rk mu 1) j) := by rw [← (hO.T.bus hj hkR).2.1, rk_3 hj]
  have q0 : ¬mu 106 (20 * j) = nI 0 := by rw [hk2]; exact hk
  have rb : mu 106 (20 * j + 1) = nI (bn (rk mu 1) j) := by rw [(h.B.dev hj hkR).1, (hO.T.bus hj hkR).2.1]
  have r12 : mu 106 (20 * j + 12) = rk mu 1 12 j := (h.B.dev hj hkR).2.2.1
  have m12 : mu 12 j = rk mu 1 12 j := by rw [rk_12 hj]
  -- the number of the bus
  have hbus : (bn (rk mu 1) j < 12 ∧ rk mu 1 2 (bn (rk mu 1) j) = nI 2 ∧ rk mu 1 12 (bn (rk mu 1) j) = -5) ∨ ∃ nb la, numb (rk mu 1) (bn (rk mu 1) j) nb la := by
    rcases bus_ok hO hj hkR with q | ⟨q1, q2⟩
    · exact Or.inr ⟨0, 15, Or.inl ⟨q, rfl, rfl⟩⟩
    · rcases hO.2.2.2.2.2.1.1 _ q1 with ⟨n1, -⟩ | ⟨a, b, n⟩
      · exact Or.inl ⟨q1, q2, n1⟩
      · exact Or.inr ⟨a, b, Or.inr ⟨q1, n⟩⟩
  rcases hbus with ⟨b1, b2, b3⟩ | ⟨nb, la, hnb⟩
  · -- the bus has no number
    have zn := z_numberOf_b (d + 5) L p mu _ b1 (by rw [← rk_2 (mu := mu) b1]; exact b2)
    rw [← rk_12 (mu := mu) b1, b3] at zn
    have mn := m_numberOf_b (d + 5) L p mu _ b1
    have r12b : mu 106 (20 * bn (rk mu 1) j + 12) = -5 := by rw [(h.B.dev b1 (k2_ne0 b2)).2.2.1]; exact b3
    rw [r12b] at mn
    have hnm := m_isNumbered (d + 5) L mu p j hj
    refine ⟨-4, mu, p, mu, ?_, ?_, h⟩
    · simp (disch := first | omega | assumption) only [h61_0, h61_1, h61_4, h61_5, h61_8, h61_11, h61_12, h61_13, h61_14, h61_17, h61_18, h61_21, h61_24, h61_25, h61_26, h61_29, h61_31, h61_34, h61_36, h61_37, h61_38, h61_41, h61_42, h61_45, h61_48, h61_49, h61_50, h61_53, h61_56, h61_57, h61_58, h61_61, Option.bind_some, Option.toList_some, Option.toList_none, List.cons_append, List.nil_append, nI_ltc, nI_lec, nI_eqc, nI_ne5, n5_ne, n5_lt, bI_0, bI_1, nI_add, pk_mul, if_pos, if_neg, ite_not, if_true, if_false, not_true_eq_false, not_false_eq_true, true_and, false_and, and_true, and_false, Nat.reduceAdd, Nat.reduceMul, z_isDevice_n, hk, m3, zn]
    · by_cases hb : mu 2 j = nI 2
      · by_cases hn : mu 106 (20 * j + 12) = -5
        · rw [bI_f (fun q => q hn)] at hnm
          simp (disch := first | omega | assumption) only [h155_0, h155_1, h155_2, h155_5, h155_8, h155_9, h155_10, h155_11, h155_12, h155_15, h155_18, h155_19, h155_20, h155_23, h155_26, h155_27, h155_28, h155_31, h155_32, h155_35, h155_36, h155_37, h155_38, h155_41, h155_43, h155_46, h155_47, h155_48, h155_51, h155_54, h155_55, h155_56, h155_57, h155_58, h155_61, h155_62, h155_65, h155_66, h155_67, h155_68, h155_71, h155_73, h155_76, h155_77, h155_79, h155_82, h155_84, h155_85, h155_86, h155_89, h155_90, h155_91, h155_94, h155_95, h155_96, h155_99, h155_102, h155_103, h155_104, h155_107, h155_110, h155_111, h155_112, h155_113, h155_116, h155_117, h155_120, Option.bind_some, Option.toList_some, Option.toList_none, List.cons_append, List.nil_append, nI_ltc, nI_lec, nI_eqc, nI_ne5, n5_ne, n5_lt, bI_0, bI_1, nI_add, pk_mul, if_pos, if_neg, ite_not, if_true, if_false, not_true_eq_false, not_false_eq_true, true_and, false_and, and_true, and_false, Nat.reduceAdd, Nat.reduceMul, m_isDevice_n, q0, m_isBridge_n, hk2, hb, hnm, m_at, rb, mn]
        · rw [bI_t hn] at hnm
          simp (disch := first | omega | assumption) only [h155_0, h155_1, h155_2, h155_5, h155_8, h155_9, h155_10, h155_11, h155_12, h155_15, h155_18, h155_19, h155_20, h155_23, h155_26, h155_27, h155_28, h155_31, h155_32, h155_35, h155_36, h155_37, h155_38, h155_41, h155_43, h155_46, h155_47, h155_48, h155_51, h155_54, h155_55, h155_56, h155_57, h155_58, h155_61, h155_62, h155_65, h155_66, h155_67, h155_68, h155_71, h155_73, h155_76, h155_77, h155_79, h155_82, h155_84, h155_85, h155_86, h155_89, h155_90, h155_91, h155_94, h155_95, h155_96, h155_99, h155_102, h155_103, h155_104, h155_107, h155_110, h155_111, h155_112, h155_113, h155_116, h155_117, h155_120, Option.bind_some, Option.toList_some, Option.toList_none, List.cons_append, List.nil_append, nI_ltc, nI_lec, nI_eqc, nI_ne5, n5_ne, n5_lt, bI_0, bI_1, nI_add, pk_mul, if_pos, if_neg, ite_not, if_true, if_false, not_true_eq_false, not_false_eq_true, true_and, false_and, and_true, and_false, Nat.reduceAdd, Nat.reduceMul, m_isDevice_n, q0, m_isBridge_n, hk2, hb, hnm, m_at, rb, mn]
      · simp (disch := first | omega | assumption) only [h155_0, h155_1, h155_2, h155_5, h155_8, h155_9, h155_10, h155_11, h155_12, h155_15, h155_18, h155_19, h155_20, h155_23, h155_26, h155_27, h155_28, h155_31, h155_32, h155_35, h155_36, h155_37, h155_38, h155_41, h155_43, h155_46, h155_47, h155_48, h155_51, h155_54, h155_55, h155_56, h155_57, h155_58, h155_61, h155_62, h155_65, h155_66, h155_67, h155_68, h155_71, h155_73, h155_76, h155_77, h155_79, h155_82, h155_84, h155_85, h155_86, h155_89, h155_90, h155_91, h155_94, h155_95, h155_96, h155_99, h155_102, h155_103, h155_104, h155_107, h155_110, h155_111, h155_112, h155_113, h155_116, h155_117, h155_120, Option.bind_some, Option.toList_some, Option.toList_none, List.cons_append, List.nil_append, nI_ltc, nI_lec, nI_eqc, nI_ne5, n5_ne, n5_lt, bI_0, bI_1, nI_add, pk_mul, if_pos, if_neg, ite_not, if_true, if_false, not_true_eq_false, not_false_eq_true, true_and, false_and, and_true, and_false, Nat.reduceAdd, Nat.reduceMul, m_isDevice_n, q0, m_isBridge_n, hk2, hb, m_at, rb, mn]
  · -- it has one
    have hnb15 : nb < 16 := by
      rcases hnb with ⟨-, q, -⟩ | ⟨-, q⟩
      · omega
      · have := q.2.2.2; omega
    have ok5 : ¬nI nb = -5 := fun q => by rw [nI_ne5 (by omega)] at q; exact q
    have zn : zsem (d + 6) 62 0 [.inr (some 1), .inl (nI (bn (rk mu 1) j))] [] (HH L mu p) = some (some (.inl (nI nb)), HH L mu p) := by
      rcases hnb with ⟨q1, q2, -⟩ | ⟨q1, q2⟩
      · rw [q1, q2]; exact z_numberOf_r (d + 5) L p mu
      · have := z_numberOf_b (d + 5) L p mu _ q1 (by rw [← rk_2 (mu := mu) q1]; exact numd_k hO.2.1 q1 q2)
        rw [← rk_12 (mu := mu) q1, q2.1] at this
        exact this
    have mn : zsem (d + 6) 156 0 [.inr (some 105), .inl (nI (bn (rk mu 1) j))] [] (HH L mu p) = some (some (.inl (nI nb)), HH L mu p) := by
      rcases hnb with ⟨q1, q2, -⟩ | ⟨q1, q2⟩
      · rw [q1, q2]; exact m_numberOf_r (d + 5) L p mu
      · have := m_numberOf_b (d + 5) L p mu _ q1
        have k2 := numd_k hO.2.1 q1 q2
        have e : mu 106 (20 * bn (rk mu 1) j + 12) = nI nb := by rw [(h.B.dev q1 (k2_ne0 k2)).2.2.1]; exact q2.1
        rw [e] at this
        exact this
    -- the heap of the class does not reach the reference's numbers
    rcases (h.kinds hj).resolve_left hk with h1 | h1
    · -- a card
      obtain ⟨mu1, p1, mu2, R1, R2, R3, c0, c1, c2, e1, hr, s0, s1, s2, r3, fr⟩ := z_attachCard (d + 2) L mu p h hj (by rw [rk_2 hj]; exact h1)
      have h1R : rk mu 1 2 j = nI 1 := by rw [rk_2 hj]; exact h1
      obtain ⟨hO1, k1, l0⟩ := CStep_OK hO hj (by omega) h1R s0
      obtain ⟨hO2, k2, l1⟩ := CStep_OK hO1 hj (by omega) k1 s1
      obtain ⟨hO3, k3, l2⟩ := CStep_OK hO2 hj (by omega) k2 s2
      obtain ⟨mu3, e2, hm⟩ := rec_m (d + 5) L h hr (mu2 := mu2) (fun a ha => fr a (by omega))
      have f106 : mu2 106 = mu 106 := by rw [fr 106 (by omega), hr.2.1 106 (by omega)]
      have hB3 : RelB (rk mu 1) (fun t => u2 mu3 105 13 (nI 0) 106 t) := RelB_cong h.B (fun t ht => by rw [u2_row (by omega)]; exact hm.b0 ht)
      obtain ⟨n1, v1, g1, g2, g3, g4⟩ := m_acS (d + 1) L p1 hO hj (q := 0) (by omega) h1R _ hB3 s0 0 (u2_s _ _ _ _) (.inr none)
      obtain ⟨n2, v2, g5, g6, g7, g8⟩ := m_acS (d + 1) L p1 hO1 hj (q := 1) (by omega) k1 n1 g2 s1 (0 + c0) g3 v1
      obtain ⟨n3, v3, g9, g10, g11, g12⟩ := m_acS (d + 1) L p1 hO2 hj (q := 2) (by omega) k2 n2 g6 s2 (0 + c0 + c1) g7 v2
      have g13 : zsem (d + 6) 158 2 [.inr (some 105), .inl (nI j), .inl (nI 0), .inr none] [] (HH L (u2 mu3 105 13 (nI 0)) p1) = some (none, HH L n3 p1) := by
        rw [g1, g5, g9, h158_2]
        simp (disch := first | omega | assumption) only [h158_0, h158_1, h158_3, h158_4, h158_7, h158_8, h158_9, h158_12, h158_13, h158_14, h158_17, h158_18, h158_19, h158_20, h158_21, h158_24, h158_25, h158_28, h158_29, h158_30, h158_31, h158_32, h158_34, h158_37, h158_38, h158_41, h158_42, h158_43, h158_44, h158_45, h158_46, h158_49, h158_50, h158_53, h158_54, h158_55, h158_56, h158_57, h158_60, h158_61, h158_62, h158_63, h158_66, h158_67, h158_68, h158_69, h158_70, h158_71, h158_74, h158_75, h158_76, h158_77, h158_78, h158_81, h158_82, h158_83, h158_84, h158_87, h158_88, h158_91, h158_92, h158_93, h158_94, h158_95, h158_97, h158_100, h158_101, h158_104, h158_105, h158_106, h158_109, h158_112, h158_115, Option.bind_some, Option.toList_some, Option.toList_none, List.cons_append, List.nil_append, nI_ltc, nI_lec, nI_eqc, nI_ne5, n5_ne, n5_lt, bI_0, bI_1, nI_add, pk_mul, if_pos, if_neg, ite_not, if_true, if_false, not_true_eq_false, not_false_eq_true, true_and, false_and, and_true, and_false, Nat.reduceAdd, Nat.reduceMul]
      have f0 : FrB mu3 (u2 mu3 105 13 (nI 0)) := ⟨fun r q1 _ _ => u2_row q1, fun i _ q => u2_o _ _ (by omega), fun t _ => by rw [u2_row (by omega)]⟩
      have k106 : ∀ t, t < 241 → u2 mu3 105 13 (nI 0) 106 t = mu 106 t := fun t ht => by rw [u2_row (by omega)]; exact hm.b0 ht
      have w1 : mu2 106 (20 * j) = nI 1 := by rw [f106, hk2, h1]
      have w2 : mu2 106 (20 * j + 1) = nI (bn (rk mu 1) j) := by rw [f106, rb]
      have w3 : u2 mu3 105 13 (nI 0) 106 (20 * j) = nI 1 := by rw [k106 _ (by omega), hk2, h1]
      have mn2 : zsem (d + 6) 156 0 [.inr (some 105), .inl (nI (bn (rk mu 1) j))] [] (HH L mu2 p1) = some (some (.inl (nI nb)), HH L mu2 p1) := by
        rcases hnb with ⟨q1, q2, -⟩ | ⟨q1, q2⟩
        · rw [q1, q2]; exact m_numberOf_r (d + 5) L p1 mu2
        · have := m_numberOf_b (d + 5) L p1 mu2 _ q1
          have k2 := numd_k hO.2.1 q1 q2
          have e : mu2 106 (20 * bn (rk mu 1) j + 12) = nI nb := by rw [f106, (h.B.dev q1 (k2_ne0 k2)).2.2.1]; exact q2.1
          rw [e] at this
          exact this
      have g11' : n3 105 13 = nI (c0 + c1 + c2) := by rw [g11, Nat.zero_add]
      refine ⟨nI (c0 + c1 + c2), mu2, p1, n3, ?_, ?_, fin_att hm hO3 r3 g10 (f0.tr (g4.tr (g8.tr g12)))⟩
      · simp (disch := first | omega | assumption) only [h61_0, h61_1, h61_4, h61_5, h61_8, h61_11, h61_12, h61_13, h61_14, h61_17, h61_18, h61_21, h61_24, h61_25, h61_26, h61_29, h61_31, h61_34, h61_36, h61_37, h61_38, h61_41, h61_42, h61_45, h61_48, h61_49, h61_50, h61_53, h61_56, h61_57, h61_58, h61_61, Option.bind_some, Option.toList_some, Option.toList_none, List.cons_append, List.nil_append, nI_ltc, nI_lec, nI_eqc, nI_ne5, n5_ne, n5_lt, bI_0, bI_1, nI_add, pk_mul, if_pos, if_neg, ite_not, if_true, if_false, not_true_eq_false, not_false_eq_true, true_and, false_and, and_true, and_false, Nat.reduceAdd, Nat.reduceMul, z_isDevice_n, hk, m3, zn, ok5, z_isCard_n, h1, e1]
      · have n0 : ¬nI 0 = -5 := by decide
        simp (disch := first | omega | assumption) only [h155_0, h155_1, h155_2, h155_5, h155_8, h155_9, h155_10, h155_11, h155_12, h155_15, h155_18, h155_19, h155_20, h155_23, h155_26, h155_27, h155_28, h155_31, h155_32, h155_35, h155_36, h155_37, h155_38, h155_41, h155_43, h155_46, h155_47, h155_48, h155_51, h155_54, h155_55, h155_56, h155_57, h155_58, h155_61, h155_62, h155_65, h155_66, h155_67, h155_68, h155_71, h155_73, h155_76, h155_77, h155_79, h155_82, h155_84, h155_85, h155_86, h155_89, h155_90, h155_91, h155_94, h155_95, h155_96, h155_99, h155_102, h155_103, h155_104, h155_107, h155_110, h155_111, h155_112, h155_113, h155_116, h155_117, h155_120, Option.bind_some, Option.toList_some, Option.toList_none, List.cons_append, List.nil_append, nI_ltc, nI_lec, nI_eqc, nI_ne5, n5_ne, n5_lt, bI_0, bI_1, nI_add, pk_mul, if_pos, if_neg, ite_not, if_true, if_false, not_true_eq_false, not_false_eq_true, true_and, false_and, and_true, and_false, Nat.reduceAdd, Nat.reduceMul, m_isDevice_n, m_isBridge_n, w1, m_at, w2, mn2, ok5, n0, e2, m_isCard_n, w3]
        simp (disch := first | omega | assumption) only [h158_0, h158_1, h158_3, h158_4, h158_7, h158_8, h158_9, h158_12, h158_13, h158_14, h158_17, h158_18, h158_19, h158_20, h158_21, h158_24, h158_25, h158_28, h158_29, h158_30, h158_31, h158_32, h158_34, h158_37, h158_38, h158_41, h158_42, h158_43, h158_44, h158_45, h158_46, h158_49, h158_50, h158_53, h158_54, h158_55, h158_56, h158_57, h158_60, h158_61, h158_62, h158_63, h158_66, h158_67, h158_68, h158_69, h158_70, h158_71, h158_74, h158_75, h158_76, h158_77, h158_78, h158_81, h158_82, h158_83, h158_84, h158_87, h158_88, h158_91, h158_92, h158_93, h158_94, h158_95, h158_97, h158_100, h158_101, h158_104, h158_105, h158_106, h158_109, h158_112, h158_115, Option.bind_some, Option.toList_some, Option.toList_none, List.cons_append, List.nil_append, nI_ltc, nI_lec, nI_eqc, nI_ne5, n5_ne, n5_lt, bI_0, bI_1, nI_add, pk_mul, if_pos, if_neg, ite_not, if_true, if_false, not_true_eq_false, not_false_eq_true, true_and, false_and, and_true, and_false, Nat.reduceAdd, Nat.reduceMul]
        rw [g13]
        simp (disch := first | omega | assumption) only [h155_0, h155_1, h155_2, h155_5, h155_8, h155_9, h155_10, h155_11, h155_12, h155_15, h155_18, h155_19, h155_20, h155_23, h155_26, h155_27, h155_28, h155_31, h155_32, h155_35, h155_36, h155_37, h155_38, h155_41, h155_43, h155_46, h155_47, h155_48, h155_51, h155_54, h155_55, h155_56, h155_57, h155_58, h155_61, h155_62, h155_65, h155_66, h155_67, h155_68, h155_71, h155_73, h155_76, h155_77, h155_79, h155_82, h155_84, h155_85, h155_86, h155_89, h155_90, h155_91, h155_94, h155_95, h155_96, h155_99, h155_102, h155_103, h155_104, h155_107, h155_110, h155_111, h155_112, h155_113, h155_116, h155_117, h155_120, Option.bind_some, Option.toList_some, Option.toList_none, List.cons_append, List.nil_append, nI_ltc, nI_lec, nI_eqc, nI_ne5, n5_ne, n5_lt, bI_0, bI_1, nI_add, pk_mul, if_pos, if_neg, ite_not, if_true, if_false, not_true_eq_false, not_false_eq_true, true_and, false_and, and_true, and_false, Nat.reduceAdd, Nat.reduceMul, g11']
    · -- a bridge
      have h2R : rk mu 1 2 j = nI 2 := by rw [rk_2 hj]; exact h1
      have n0 : ¬nI 0 = -5 := by decide
      have mnn : ∀ (m : RV) (pp : Nat → Nat), m 106 = mu 106 → zsem (d + 6) 156 0 [.inr (some 105), .inl (nI (bn (rk mu 1) j))] [] (HH L m pp) = some (some (.inl (nI nb)), HH L m pp) := fun m pp f106 => by
        rcases hnb with ⟨q1, q2, -⟩ | ⟨q1, q2⟩
        · rw [q1, q2]; exact m_numberOf_r (d + 5) L pp m
        · have := m_numberOf_b (d + 5) L pp m _ q1
          have k2 := numd_k hO.2.1 q1 q2
          have e : m 106 (20 * bn (rk mu 1) j + 12) = nI nb := by rw [f106, (h.B.dev q1 (k2_ne0 k2)).2.2.1]; exact q2.1
          rw [e] at this
          exact this
      rcases hO.2.2.2.2.2.1.1 j hj with ⟨x1, x2⟩ | ⟨a, b, hab⟩
      · -- not numbered
        obtain ⟨v, e0, e0'⟩ := z_leastFor (d + 3) L p hO hj hkR hnb mu rfl
        rw [x1] at m12 r12
        have hcn := z_isNumbered_n (d + 5) L mu p j hj
        rw [bI_f (fun q => q m12)] at hcn
        rcases NSp_v e0' with rfl | ⟨n, hn, rfl⟩
        · obtain ⟨v', f1, f2⟩ := m_freeNumber (d + 3) L p hO hj hkR x1 hnb mu h.B
          have := NSp_one e0' f2
          subst this
          have hnm := m_isNumbered (d + 5) L mu p j hj
          rw [bI_f (fun q => q r12)] at hnm
          have zb : zsem (d + 6) 69 0 [.inr (some 0), .inl (nI j), .inr none, .inr none] [] (HH L mu p) = some (some (.inl (-4)), HH L mu p) := by
            simp (disch := first | omega | assumption) only [h69_0, h69_1, h69_4, h69_5, h69_8, h69_11, h69_12, h69_15, h69_16, h69_17, h69_18, h69_21, h69_22, h69_25, h69_26, h69_29, h69_32, h69_33, h69_36, h69_39, h69_40, h69_41, h69_42, h69_43, h69_45, h69_48, h69_50, h69_51, h69_52, h69_55, h69_56, h69_59, h69_62, h69_63, h69_66, h69_67, h69_70, h69_73, h69_74, h69_75, h69_76, h69_77, h69_80, h69_83, h69_84, h69_85, h69_86, h69_87, h69_88, h69_89, h69_92, h69_93, h69_94, h69_95, h69_98, h69_99, Option.bind_some, Option.toList_some, Option.toList_none, List.cons_append, List.nil_append, nI_ltc, nI_lec, nI_eqc, nI_ne5, n5_ne, n5_lt, bI_0, bI_1, nI_add, pk_mul, if_pos, if_neg, ite_not, if_true, if_false, not_true_eq_false, not_false_eq_true, true_and, false_and, and_true, and_false, Nat.reduceAdd, Nat.reduceMul, hcn, e0]
          refine ⟨-4, mu, p, mu, ?_, ?_, h⟩
          · simp (disch := first | omega | assumption) only [h61_0, h61_1, h61_4, h61_5, h61_8, h61_11, h61_12, h61_13, h61_14, h61_17, h61_18, h61_21, h61_24, h61_25, h61_26, h61_29, h61_31, h61_34, h61_36, h61_37, h61_38, h61_41, h61_42, h61_45, h61_48, h61_49, h61_50, h61_53, h61_56, h61_57, h61_58, h61_61, Option.bind_some, Option.toList_some, Option.toList_none, List.cons_append, List.nil_append, nI_ltc, nI_lec, nI_eqc, nI_ne5, n5_ne, n5_lt, bI_0, bI_1, nI_add, pk_mul, if_pos, if_neg, ite_not, if_true, if_false, not_true_eq_false, not_false_eq_true, true_and, false_and, and_true, and_false, Nat.reduceAdd, Nat.reduceMul, z_isDevice_n, hk, m3, zn, ok5, z_isCard_n, h1, zb]
          · simp (disch := first | omega | assumption) only [h155_0, h155_1, h155_2, h155_5, h155_8, h155_9, h155_10, h155_11, h155_12, h155_15, h155_18, h155_19, h155_20, h155_23, h155_26, h155_27, h155_28, h155_31, h155_32, h155_35, h155_36, h155_37, h155_38, h155_41, h155_43, h155_46, h155_47, h155_48, h155_51, h155_54, h155_55, h155_56, h155_57, h155_58, h155_61, h155_62, h155_65, h155_66, h155_67, h155_68, h155_71, h155_73, h155_76, h155_77, h155_79, h155_82, h155_84, h155_85, h155_86, h155_89, h155_90, h155_91, h155_94, h155_95, h155_96, h155_99, h155_102, h155_103, h155_104, h155_107, h155_110, h155_111, h155_112, h155_113, h155_116, h155_117, h155_120, Option.bind_some, Option.toList_some, Option.toList_none, List.cons_append, List.nil_append, nI_ltc, nI_lec, nI_eqc, nI_ne5, n5_ne, n5_lt, bI_0, bI_1, nI_add, pk_mul, if_pos, if_neg, ite_not, if_true, if_false, not_true_eq_false, not_false_eq_true, true_and, false_and, and_true, and_false, Nat.reduceAdd, Nat.reduceMul, m_isDevice_n, q0, m_isBridge_n, hk2, h1, hnm, m_at, rb, mn, ok5, f1]
        · have okn : ¬nI n = -5 := fun q => by rw [nI_ne5 (by omega)] at q; exact q
          obtain ⟨mu1, p1, e1, hr⟩ := z_rec (d + 4) L mu p h
          have hOn := OK_num hO hj h2R x1 e0' (by omega)
          have hRn : rk (u2 (u2 mu1 12 j (nI n)) 13 j (nI n)) 1 = u2 (u2 (rk mu 1) 12 j (nI n)) 13 j (nI n) := by
            rw [rk_u (by omega) (show j < 12 from hj), rk_u (by omega) (show j < 12 from hj), hr.rk]
          have h2n : u2 (u2 (rk mu 1) 12 j (nI n)) 13 j (nI n) 2 j = nI 2 := by rw [u2_row (by omega), u2_row (by omega)]; exact h2R
          obtain ⟨R1, R2, c0, c1, ma, mb, z1, z2, s0, s1, r2, hO2, fr, l0, l1⟩ := z_windows (d + 1) L (u2 (u2 mu1 12 j (nI n)) 13 j (nI n)) p1 hOn hj h2n hRn
          have frm : ∀ r, r = 0 ∨ (14 ≤ r ∧ r ≤ 80) ∨ 104 ≤ r → mb r = mu1 r := fun r hr => by rw [fr r (by omega) (by omega) (by omega) (by omega), u2_row (by omega), u2_row (by omega)]
          obtain ⟨mu3, e2, hm⟩ := rec_m (d + 5) L h hr (mu2 := mb) frm
          have f106 : mb 106 = mu 106 := by rw [frm 106 (by omega), hr.2.1 106 (by omega)]
          obtain ⟨v', f1, f2⟩ := m_freeNumber (d + 3) L p1 hO hj hkR x1 hnb mb (by rw [f106]; exact h.B)
          have := NSp_one e0' f2
          subst this
          have hB3 : RelB (rk mu 1) (fun t => u2 mu3 105 13 (nI 0) 106 t) := RelB_cong h.B (fun t ht => by rw [u2_row (by omega)]; exact hm.b0 ht)
          have hB4 := RelB_u12 hB3 hj (nI n) (nI n)
          obtain ⟨mu4, g1, g2, g3, g4⟩ := m_windows d L (u2 (u2 (u2 mu3 105 13 (nI 0)) 106 (20 * j + 12) (nI n)) 106 (20 * j + 13) (nI n)) p1 hOn hj h2n hB4 s0 s1 (by rw [u2_row (by omega), u2_row (by omega), u2_s]) (nI n) (.inr none) (.inr none)
          have k106 : ∀ t, t < 241 → u2 mu3 105 13 (nI 0) 106 t = mu 106 t := fun t ht => by rw [u2_row (by omega)]; exact hm.b0 ht
          have w1 : mb 106 (20 * j) = nI 2 := by rw [f106, hk2, h1]
          have w2 : mb 106 (20 * j + 1) = nI (bn (rk mu 1) j) := by rw [f106, rb]
          have w3 : u2 mu3 105 13 (nI 0) 106 (20 * j) = nI 2 := by rw [k106 _ (by omega), hk2, h1]
          have w4 : u2 mu3 105 13 (nI 0) 106 (20 * j + 12) = -5 := by rw [k106 _ (by omega)]; exact r12
          have hnm := m_isNumbered (d + 5) L mb p1 j hj
          rw [bI_f (fun q => q (by rw [f106]; exact r12))] at hnm
          have hnm3 := m_isNumbered (d + 4) L (u2 mu3 105 13 (nI 0)) p1 j hj
          rw [bI_f (fun q => q w4)] at hnm3
          have mn2 := mnn mb p1 f106
          have zb : zsem (d + 6) 69 0 [.inr (some 0), .inl (nI j), .inr none, .inr none] [] (HH L mu p) = some (some (.inl (nI (c0 + c1))), HH L mb p1) := by
            simp (disch := first | omega | assumption) only [h69_0, h69_1, h69_4, h69_5, h69_8, h69_11, h69_12, h69_15, h69_16, h69_17, h69_18, h69_21, h69_22, h69_25, h69_26, h69_29, h69_32, h69_33, h69_36, h69_39, h69_40, h69_41, h69_42, h69_43, h69_45, h69_48, h69_50, h69_51, h69_52, h69_55, h69_56, h69_59, h69_62, h69_63, h69_66, h69_67, h69_70, h69_73, h69_74, h69_75, h69_76, h69_77, h69_80, h69_83, h69_84, h69_85, h69_86, h69_87, h69_88, h69_89, h69_92, h69_93, h69_94, h69_95, h69_98, h69_99, Option.bind_some, Option.toList_some, Option.toList_none, List.cons_append, List.nil_append, nI_ltc, nI_lec, nI_eqc, nI_ne5, n5_ne, n5_lt, bI_0, bI_1, nI_add, pk_mul, if_pos, if_neg, ite_not, if_true, if_false, not_true_eq_false, not_false_eq_true, true_and, false_and, and_true, and_false, Nat.reduceAdd, Nat.reduceMul, hcn, e0, okn, e1, z1, z2]
          have mb2 : zsem (d + 6) 162 0 [.inr (some 105), .inl (nI j), .inl (nI n), .inr none, .inr none, .inr none] [] (HH L (u2 mu3 105 13 (nI 0)) p1) = some (none, HH L mu4 p1) := by
            rw [← g1]
            simp (disch := first | omega | assumption) only [h162_0, h162_1, h162_2, h162_5, h162_8, h162_9, h162_12, h162_13, h162_16, h162_18, h162_19, h162_20, h162_21, h162_22, h162_25, h162_26, h162_29, h162_31, h162_32, h162_33, h162_34, h162_35, h162_37, h162_38, h162_41, h162_42, h162_45, h162_47, h162_48, h162_49, h162_50, h162_51, h162_53, h162_54, h162_55, h162_56, h162_59, h162_62, h162_63, h162_66, h162_68, h162_69, h162_72, h162_73, h162_74, h162_77, h162_78, h162_81, h162_82, h162_83, h162_84, h162_85, h162_86, h162_89, h162_91, h162_92, h162_93, h162_96, h162_98, h162_99, h162_102, h162_105, h162_107, h162_109, h162_111, h162_113, h162_116, h162_117, h162_120, h162_121, h162_124, h162_126, h162_127, h162_128, h162_129, h162_131, h162_132, h162_133, h162_136, h162_137, h162_140, h162_142, h162_143, h162_144, h162_145, h162_146, h162_149, h162_151, h162_152, h162_153, h162_154, h162_155, h162_156, h162_158, h162_159, h162_162, h162_165, h162_166, h162_167, h162_168, h162_171, h162_174, h162_177, Option.bind_some, Option.toList_some, Option.toList_none, List.cons_append, List.nil_append, nI_ltc, nI_lec, nI_eqc, nI_ne5, n5_ne, n5_lt, bI_0, bI_1, nI_add, pk_mul, if_pos, if_neg, ite_not, if_true, if_false, not_true_eq_false, not_false_eq_true, true_and, false_and, and_true, and_false, Nat.reduceAdd, Nat.reduceMul, hnm3, m_at]
          refine ⟨nI (c0 + c1), mb, p1, mu4, ?_, ?_, fin_att hm hO2 r2 g2 (FrB.tr ⟨fun r q1 q2 _ => by rw [u2_row q2, u2_row q2, u2_row q1], fun i _ q => by rw [u2_row (by omega), u2_row (by omega), u2_o _ _ (by omega)], fun t ht => by rw [u2_o _ _ (by omega), u2_o _ _ (by omega), u2_row (by omega)]⟩ g4)⟩
          · simp (disch := first | omega | assumption) only [h61_0, h61_1, h61_4, h61_5, h61_8, h61_11, h61_12, h61_13, h61_14, h61_17, h61_18, h61_21, h61_24, h61_25, h61_26, h61_29, h61_31, h61_34, h61_36, h61_37, h61_38, h61_41, h61_42, h61_45, h61_48, h61_49, h61_50, h61_53, h61_56, h61_57, h61_58, h61_61, Option.bind_some, Option.toList_some, Option.toList_none, List.cons_append, List.nil_append, nI_ltc, nI_lec, nI_eqc, nI_ne5, n5_ne, n5_lt, bI_0, bI_1, nI_add, pk_mul, if_pos, if_neg, ite_not, if_true, if_false, not_true_eq_false, not_false_eq_true, true_and, false_and, and_true, and_false, Nat.reduceAdd, Nat.reduceMul, z_isDevice_n, hk, m3, zn, ok5, z_isCard_n, h1, zb]
          · simp (disch := first | omega | assumption) only [h155_0, h155_1, h155_2, h155_5, h155_8, h155_9, h155_10, h155_11, h155_12, h155_15, h155_18, h155_19, h155_20, h155_23, h155_26, h155_27, h155_28, h155_31, h155_32, h155_35, h155_36, h155_37, h155_38, h155_41, h155_43, h155_46, h155_47, h155_48, h155_51, h155_54, h155_55, h155_56, h155_57, h155_58, h155_61, h155_62, h155_65, h155_66, h155_67, h155_68, h155_71, h155_73, h155_76, h155_77, h155_79, h155_82, h155_84, h155_85, h155_86, h155_89, h155_90, h155_91, h155_94, h155_95, h155_96, h155_99, h155_102, h155_103, h155_104, h155_107, h155_110, h155_111, h155_112, h155_113, h155_116, h155_117, h155_120, Option.bind_some, Option.toList_some, Option.toList_none, List.cons_append, List.nil_append, nI_ltc, nI_lec, nI_eqc, nI_ne5, n5_ne, n5_lt, bI_0, bI_1, nI_add, pk_mul, if_pos, if_neg, ite_not, if_true, if_false, not_true_eq_false, not_false_eq_true, true_and, false_and, and_true, and_false, Nat.reduceAdd, Nat.reduceMul, m_isDevice_n, m_isBridge_n, w1, hnm, m_at, w2, mn2, ok5, f1, okn, e2, m_isCard_n, w3, mb2, g3]
      · -- numbered
        obtain ⟨a1, a2, a3, a4, a5⟩ := hab
        rw [a1] at m12 r12
        have oka : ¬nI a = -5 := fun q => by rw [nI_ne5 (by omega)] at q; exact q
        have hcn := z_isNumbered_n (d + 5) L mu p j hj
        rw [bI_t (by rw [m12]; exact oka)] at hcn
        obtain ⟨mu1, p1, e1, hr⟩ := z_rec (d + 4) L mu p h
        obtain ⟨R1, R2, c0, c1, ma, mb, z1, z2, s0, s1, r2, hO2, fr, l0, l1⟩ := z_windows (d + 1) L mu1 p1 hO hj h2R hr.rk
        have frm : ∀ r, r = 0 ∨ (14 ≤ r ∧ r ≤ 80) ∨ 104 ≤ r → mb r = mu1 r := fun r hr => fr r (by omega) (by omega) (by omega) (by omega)
        obtain ⟨mu3, e2, hm⟩ := rec_m (d + 5) L h hr (mu2 := mb) frm
        have f106 : mb 106 = mu 106 := by rw [frm 106 (by omega), hr.2.1 106 (by omega)]
        have hB3 : RelB (rk mu 1) (fun t => u2 mu3 105 13 (nI 0) 106 t) := RelB_cong h.B (fun t ht => by rw [u2_row (by omega)]; exact hm.b0 ht)
        obtain ⟨mu4, g1, g2, g3, g4⟩ := m_windows d L (u2 mu3 105 13 (nI 0)) p1 hO hj h2R hB3 s0 s1 (u2_s _ _ _ _) (nI 0) (.inr none) (.inr none)
        have k106 : ∀ t, t < 241 → u2 mu3 105 13 (nI 0) 106 t = mu 106 t := fun t ht => by rw [u2_row (by omega)]; exact hm.b0 ht
        have w1 : mb 106 (20 * j) = nI 2 := by rw [f106, hk2, h1]
        have w2 : mb 106 (20 * j + 1) = nI (bn (rk mu 1) j) := by rw [f106, rb]
        have w3 : u2 mu3 105 13 (nI 0) 106 (20 * j) = nI 2 := by rw [k106 _ (by omega), hk2, h1]
        have w4 : u2 mu3 105 13 (nI 0) 106 (20 * j + 12) = nI a := by rw [k106 _ (by omega)]; exact r12
        have hnm := m_isNumbered (d + 5) L mb p1 j hj
        rw [bI_t (by rw [f106, r12]; exact oka)] at hnm
        have hnm3 := m_isNumbered (d + 4) L (u2 mu3 105 13 (nI 0)) p1 j hj
        rw [bI_t (by rw [w4]; exact oka)] at hnm3
        have mn2 := mnn mb p1 f106
        have zb : zsem (d + 6) 69 0 [.inr (some 0), .inl (nI j), .inr none, .inr none] [] (HH L mu p) = some (some (.inl (nI (c0 + c1))), HH L mb p1) := by
          simp (disch := first | omega | assumption) only [h69_0, h69_1, h69_4, h69_5, h69_8, h69_11, h69_12, h69_15, h69_16, h69_17, h69_18, h69_21, h69_22, h69_25, h69_26, h69_29, h69_32, h69_33, h69_36, h69_39, h69_40, h69_41, h69_42, h69_43, h69_45, h69_48, h69_50, h69_51, h69_52, h69_55, h69_56, h69_59, h69_62, h69_63, h69_66, h69_67, h69_70, h69_73, h69_74, h69_75, h69_76, h69_77, h69_80, h69_83, h69_84, h69_85, h69_86, h69_87, h69_88, h69_89, h69_92, h69_93, h69_94, h69_95, h69_98, h69_99, Option.bind_some, Option.toList_some, Option.toList_none, List.cons_append, List.nil_append, nI_ltc, nI_lec, nI_eqc, nI_ne5, n5_ne, n5_lt, bI_0, bI_1, nI_add, pk_mul, if_pos, if_neg, ite_not, if_true, if_false, not_true_eq_false, not_false_eq_true, true_and, false_and, and_true, and_false, Nat.reduceAdd, Nat.reduceMul, hcn, m12, oka, e1, z1, z2]
        have mb2 : zsem (d + 6) 162 0 [.inr (some 105), .inl (nI j), .inl (nI 0), .inr none, .inr none, .inr none] [] (HH L (u2 mu3 105 13 (nI 0)) p1) = some (none, HH L mu4 p1) := by
          rw [← g1]
          simp (disch := first | omega | assumption) only [h162_0, h162_1, h162_2, h162_5, h162_8, h162_9, h162_12, h162_13, h162_16, h162_18, h162_19, h162_20, h162_21, h162_22, h162_25, h162_26, h162_29, h162_31, h162_32, h162_33, h162_34, h162_35, h162_37, h162_38, h162_41, h162_42, h162_45, h162_47, h162_48, h162_49, h162_50, h162_51, h162_53, h162_54, h162_55, h162_56, h162_59, h162_62, h162_63, h162_66, h162_68, h162_69, h162_72, h162_73, h162_74, h162_77, h162_78, h162_81, h162_82, h162_83, h162_84, h162_85, h162_86, h162_89, h162_91, h162_92, h162_93, h162_96, h162_98, h162_99, h162_102, h162_105, h162_107, h162_109, h162_111, h162_113, h162_116, h162_117, h162_120, h162_121, h162_124, h162_126, h162_127, h162_128, h162_129, h162_131, h162_132, h162_133, h162_136, h162_137, h162_140, h162_142, h162_143, h162_144, h162_145, h162_146, h162_149, h162_151, h162_152, h162_153, h162_154, h162_155, h162_156, h162_158, h162_159, h162_162, h162_165, h162_166, h162_167, h162_168, h162_171, h162_174, h162_177, Option.bind_some, Option.toList_some, Option.toList_none, List.cons_append, List.nil_append, nI_ltc, nI_lec, nI_eqc, nI_ne5, n5_ne, n5_lt, bI_0, bI_1, nI_add, pk_mul, if_pos, if_neg, ite_not, if_true, if_false, not_true_eq_false, not_false_eq_true, true_and, false_and, and_true, and_false, Nat.reduceAdd, Nat.reduceMul, hnm3]
        refine ⟨nI (c0 + c1), mb, p1, mu4, ?_, ?_, fin_att hm hO2 r2 g2 (FrB.tr ⟨fun r q1 q2 _ => u2_row q1, fun i _ q => u2_o _ _ (by omega), fun t ht => by rw [u2_row (by omega)]⟩ g4)⟩
        · simp (disch := first | omega | assumption) only [h61_0, h61_1, h61_4, h61_5, h61_8, h61_11, h61_12, h61_13, h61_14, h61_17, h61_18, h61_21, h61_24, h61_25, h61_26, h61_29, h61_31, h61_34, h61_36, h61_37, h61_38, h61_41, h61_42, h61_45, h61_48, h61_49, h61_50, h61_53, h61_56, h61_57, h61_58, h61_61, Option.bind_some, Option.toList_some, Option.toList_none, List.cons_append, List.nil_append, nI_ltc, nI_lec, nI_eqc, nI_ne5, n5_ne, n5_lt, bI_0, bI_1, nI_add, pk_mul, if_pos, if_neg, ite_not, if_true, if_false, not_true_eq_false, not_false_eq_true, true_and, false_and, and_true, and_false, Nat.reduceAdd, Nat.reduceMul, z_isDevice_n, hk, m3, zn, ok5, z_isCard_n, h1, zb]
        · simp (disch := first | omega | assumption) only [h155_0, h155_1, h155_2, h155_5, h155_8, h155_9, h155_10, h155_11, h155_12, h155_15, h155_18, h155_19, h155_20, h155_23, h155_26, h155_27, h155_28, h155_31, h155_32, h155_35, h155_36, h155_37, h155_38, h155_41, h155_43, h155_46, h155_47, h155_48, h155_51, h155_54, h155_55, h155_56, h155_57, h155_58, h155_61, h155_62, h155_65, h155_66, h155_67, h155_68, h155_71, h155_73, h155_76, h155_77, h155_79, h155_82, h155_84, h155_85, h155_86, h155_89, h155_90, h155_91, h155_94, h155_95, h155_96, h155_99, h155_102, h155_103, h155_104, h155_107, h155_110, h155_111, h155_112, h155_113, h155_116, h155_117, h155_120, Option.bind_some, Option.toList_some, Option.toList_none, List.cons_append, List.nil_append, nI_ltc, nI_lec, nI_eqc, nI_ne5, n5_ne, n5_lt, bI_0, bI_1, nI_add, pk_mul, if_pos, if_neg, ite_not, if_true, if_false, not_true_eq_false, not_false_eq_true, true_and, false_and, and_true, and_false, Nat.reduceAdd, Nat.reduceMul, m_isDevice_n, m_isBridge_n, w1, hnm, m_at, w2, mn2, ok5, n0, e2, m_isCard_n, w3, mb2, g3]
end
