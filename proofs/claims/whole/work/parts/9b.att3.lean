/-! attaching: reference -/
/-- what attaching leaves alone -/
def FrB (mu mu' : RV) : Prop := (∀ r, ¬r = 105 → ¬r = 106 → (r < 108 ∨ 114 < r) → mu' r = mu r) ∧ (∀ i, ¬i = 7 → ¬i = 13 → mu' 105 i = mu 105 i) ∧ ∀ t, 240 ≤ t → mu' 106 t = mu 106 t
theorem FrB.tr {mu mu1 mu2 : RV} (h : FrB mu mu1) (h' : FrB mu1 mu2) : FrB mu mu2 := ⟨fun r g1 g2 g3 => by rw [h'.1 r g1 g2 g3, h.1 r g1 g2 g3], fun i g1 g2 => by rw [h'.2.1 i g1 g2, h.2.1 i g1 g2], fun t ht => by rw [h'.2.2 t ht, h.2.2 t ht]⟩
theorem FrB.rfl' (mu : RV) : FrB mu mu := ⟨fun _ _ _ _ => rfl, fun _ _ _ => rfl, fun _ _ => rfl⟩
theorem FrN.B {mu mu' : RV} (h : FrN mu mu') : FrB mu mu' := ⟨fun r g1 _ g3 => h.1 r g1 (by omega), fun i g1 _ => h.2 i g1, fun t _ => by rw [h.1 106 (by omega) (by omega)]⟩
theorem FrR.B {mu mu' : RV} (h : FrR mu mu') : FrB mu mu' := ⟨fun r g1 g2 g3 => h.1 r g1 g2 (by omega), h.2.1, h.2.2⟩
theorem LF_B (mu : RV) (P : Nat → Prop) : FrB mu (LF mu P) := ⟨fun r _ _ h => LF_r (by omega), fun i _ _ => LF_o (by omega), fun t _ => LF_o (by omega)⟩
section
variable (d L : Nat) (p : Nat → Nat)
theorem m_acS {R R' : RV} {c : Nat} (hO : OK R) {j q : Nat} (hj : j < 12) (hq : q < 3) (h2 : R 2 j = nI 1) (mu : RV) (hB : RelB R (fun t => mu 106 t)) (hc : CStep R j q R' c) (g : Nat) (h13 : mu 105 13 = nI g) (w : AV) : ∃ mu' w', zsem (d + 5) 158 2 [.inr (some 105), .inl (nI j), .inl (nI q), w] [] (HH L mu p) = zsem (d + 5) 158 2 [.inr (some 105), .inl (nI j), .inl (nI (q + 1)), w'] [] (HH L mu' p) ∧ RelB R' (fun t => mu' 106 t) ∧ mu' 105 13 = nI (g + c) ∧ FrB mu mu' := by
  obtain ⟨r1, r2, r3⟩ := hB.reg hj (k1_ne0 h2) hq
  have rb : mu 106 (20 * j + 1) = nI (bn R j) := by rw [(hB.dev hj (k1_ne0 h2)).1, (hO.T.bus hj (k1_ne0 h2)).2.1]
  rcases hc with ⟨h0, hRR, rfl⟩ | ⟨s, n, v, a1, a2, a3, a4, a5, a6, a7, rfl, rfl⟩
  · refine ⟨mu, .inl (nI (20 * j + 3 + 3 * q)), ?_, by rw [hRR]; exact hB, by rw [Nat.add_zero]; exact h13, FrB.rfl' mu⟩
    obtain ⟨n, n1, n2⟩ := hO.sz7 hj hq
    rw [n2] at r1
    rw [h158_2]
    by_cases hn : n = 0
    · subst hn
      simp (disch := first | omega | assumption) only [h158_0, h158_1, h158_3, h158_4, h158_7, h158_8, h158_9, h158_12, h158_13, h158_14, h158_17, h158_18, h158_19, h158_20, h158_21, h158_24, h158_25, h158_28, h158_29, h158_30, h158_31, h158_32, h158_34, h158_37, h158_38, h158_41, h158_42, h158_43, h158_44, h158_45, h158_46, h158_49, h158_50, h158_53, h158_54, h158_55, h158_56, h158_57, h158_60, h158_61, h158_62, h158_63, h158_66, h158_67, h158_68, h158_69, h158_70, h158_71, h158_74, h158_75, h158_76, h158_77, h158_78, h158_81, h158_82, h158_83, h158_84, h158_87, h158_88, h158_91, h158_92, h158_93, h158_94, h158_95, h158_97, h158_100, h158_101, h158_104, h158_105, h158_106, h158_109, h158_112, h158_115, Option.bind_some, Option.toList_some, Option.toList_none, List.cons_append, List.nil_append, nI_ltc, nI_lec, nI_eqc, nI_ne5, n5_ne, n5_lt, bI_0, bI_1, nI_add, pk_mul, if_pos, if_neg, ite_not, if_true, if_false, not_true_eq_false, not_false_eq_true, true_and, false_and, and_true, and_false, Nat.reduceAdd, Nat.reduceMul, m_regionAt, r1]
    · have h8 : ¬mu 106 (20 * j + 3 + 3 * q + 2) = -5 := fun z => h0 ⟨by rw [n2, nI_eqc (by omega) (by omega)]; exact hn, by rw [← r2]; exact z⟩
      have l1 : ¬nI n ≤ nI 0 := by rw [nI_lec (by omega) (by omega)]; omega
      simp (disch := first | omega | assumption) only [h158_0, h158_1, h158_3, h158_4, h158_7, h158_8, h158_9, h158_12, h158_13, h158_14, h158_17, h158_18, h158_19, h158_20, h158_21, h158_24, h158_25, h158_28, h158_29, h158_30, h158_31, h158_32, h158_34, h158_37, h158_38, h158_41, h158_42, h158_43, h158_44, h158_45, h158_46, h158_49, h158_50, h158_53, h158_54, h158_55, h158_56, h158_57, h158_60, h158_61, h158_62, h158_63, h158_66, h158_67, h158_68, h158_69, h158_70, h158_71, h158_74, h158_75, h158_76, h158_77, h158_78, h158_81, h158_82, h158_83, h158_84, h158_87, h158_88, h158_91, h158_92, h158_93, h158_94, h158_95, h158_97, h158_100, h158_101, h158_104, h158_105, h158_106, h158_109, h158_112, h158_115, Option.bind_some, Option.toList_some, Option.toList_none, List.cons_append, List.nil_append, nI_ltc, nI_lec, nI_eqc, nI_ne5, n5_ne, n5_lt, bI_0, bI_1, nI_add, pk_mul, if_pos, if_neg, ite_not, if_true, if_false, not_true_eq_false, not_false_eq_true, true_and, false_and, and_true, and_false, Nat.reduceAdd, Nat.reduceMul, m_regionAt, r1, l1, h8]
  · obtain ⟨e, he, hn⟩ : ∃ e, e ≤ lex s ∧ n = grn s * 2 ^ e := by
      obtain ⟨sp, s1, s2, s3⟩ := hO.2.2.2.1 j q hj hq
      rw [a4, nI_eqc (by omega) (by omega)] at s2
      subst s2
      rcases s3 with ⟨s4, -⟩ | ⟨e, he, s4⟩
      · rw [a5, nI_eqc (by omega) (by omega)] at s4; exact absurd s4 a3
      · have := sz_lt he
        rw [a5, nI_eqc (by omega) (by omega)] at s4
        exact ⟨e, he, s4⟩
    have hpos : 0 < 2 ^ e := Nat.pow_pos (by omega)
    obtain ⟨v', P, f1, f2⟩ := m_fits d L mu p hO hB (bn R j) s (2 ^ e) (2 ^ e) a1 (bus_ok hO hj (k1_ne0 h2)) hpos (by omega) hpos (by omega)
    rw [← hn] at f1 f2
    have := FSp_one a7 f2
    subst this
    rw [a5] at r1
    rw [a6] at r2
    have r3 := r3 (by rw [a5, nI_eqc (by omega) (by omega)]; exact a3)
    rw [a4] at r3
    have l1 : ¬nI n ≤ nI 0 := by rw [nI_lec (by omega) (by omega)]; omega
    have hu : u2 (LF mu P) 106 (20 * j + 3 + 3 * q + 2) v' 106 (20 * j + 3 + 3 * q + 2) = v' := u2_s _ _ _ _
    have hB1 : RelB R (fun t => LF mu P 106 t) := RelB_cong hB (fun t _ => LF_o (by omega))
    have hB2 := RelB_u8 hB1 hj hq v'
    refine ⟨u2 (u2 (LF mu P) 106 (20 * j + 3 + 3 * q + 2) v') 105 13 (nI (g + if v' = -5 then 0 else 1)), .inl (nI (20 * j + 3 + 3 * q)), ?_, RelB_cong hB2 (fun t _ => by rw [u2_row (by omega)]), u2_s _ _ _ _, FrB.tr (LF_B mu P) ⟨fun r q1 q2 _ => by rw [u2_row q1, u2_row q2], fun i q1 q2 => by rw [u2_o _ _ (by omega), u2_row (by omega)], fun t ht => by rw [u2_row (by omega), u2_o _ _ (by omega)]⟩⟩
    rw [h158_2]
    by_cases hv : v' = -5
    · rw [if_pos hv]
      subst hv
      simp (disch := first | omega | assumption) only [h158_0, h158_1, h158_3, h158_4, h158_7, h158_8, h158_9, h158_12, h158_13, h158_14, h158_17, h158_18, h158_19, h158_20, h158_21, h158_24, h158_25, h158_28, h158_29, h158_30, h158_31, h158_32, h158_34, h158_37, h158_38, h158_41, h158_42, h158_43, h158_44, h158_45, h158_46, h158_49, h158_50, h158_53, h158_54, h158_55, h158_56, h158_57, h158_60, h158_61, h158_62, h158_63, h158_66, h158_67, h158_68, h158_69, h158_70, h158_71, h158_74, h158_75, h158_76, h158_77, h158_78, h158_81, h158_82, h158_83, h158_84, h158_87, h158_88, h158_91, h158_92, h158_93, h158_94, h158_95, h158_97, h158_100, h158_101, h158_104, h158_105, h158_106, h158_109, h158_112, h158_115, Option.bind_some, Option.toList_some, Option.toList_none, List.cons_append, List.nil_append, nI_ltc, nI_lec, nI_eqc, nI_ne5, n5_ne, n5_lt, bI_0, bI_1, nI_add, pk_mul, if_pos, if_neg, ite_not, if_true, if_false, not_true_eq_false, not_false_eq_true, true_and, false_and, and_true, and_false, Nat.reduceAdd, Nat.reduceMul, m_regionAt, r1, r2, r3, l1, m_at, rb, f1, hu, u2_oa, LF_o, h13, Nat.add_zero]
    · rw [if_neg hv]
      simp (disch := first | omega | assumption) only [h158_0, h158_1, h158_3, h158_4, h158_7, h158_8, h158_9, h158_12, h158_13, h158_14, h158_17, h158_18, h158_19, h158_20, h158_21, h158_24, h158_25, h158_28, h158_29, h158_30, h158_31, h158_32, h158_34, h158_37, h158_38, h158_41, h158_42, h158_43, h158_44, h158_45, h158_46, h158_49, h158_50, h158_53, h158_54, h158_55, h158_56, h158_57, h158_60, h158_61, h158_62, h158_63, h158_66, h158_67, h158_68, h158_69, h158_70, h158_71, h158_74, h158_75, h158_76, h158_77, h158_78, h158_81, h158_82, h158_83, h158_84, h158_87, h158_88, h158_91, h158_92, h158_93, h158_94, h158_95, h158_97, h158_100, h158_101, h158_104, h158_105, h158_106, h158_109, h158_112, h158_115, Option.bind_some, Option.toList_some, Option.toList_none, List.cons_append, List.nil_append, nI_ltc, nI_lec, nI_eqc, nI_ne5, n5_ne, n5_lt, bI_0, bI_1, nI_add, pk_mul, if_pos, if_neg, ite_not, if_true, if_false, not_true_eq_false, not_false_eq_true, true_and, false_and, and_true, and_false, Nat.reduceAdd, Nat.reduceMul, m_regionAt, r1, r2, r3, l1, m_at, rb, f1, hu, hv, u2_oa, LF_o, h13]
theorem m_awS {R R' : RV} {c : Nat} (hO : OK R) {j s : Nat} (hj : j < 12) (hs : s < 2) (h2 : R 2 j = nI 2) (mu : RV) (hB : RelB R (fun t => mu 106 t)) (hc : WStep R j s R' c) (g : Nat) (h13 : mu 105 13 = nI g) (a2 : Int32) (w4 w5 : AV) : ∃ mu' w4' w5', zsem (d + 6) 162 36 [.inr (some 105), .inl (nI j), .inl a2, .inl (nI s), w4, w5] [] (HH L mu p) = zsem (d + 6) 162 36 [.inr (some 105), .inl (nI j), .inl a2, .inl (nI (s + 1)), w4', w5'] [] (HH L mu' p) ∧ RelB R' (fun t => mu' 106 t) ∧ mu' 105 13 = nI (g + c) ∧ FrB mu mu' := by
  obtain ⟨mu1, e1, e2, e3⟩ := m_reckons (d + 1) L p hO mu hB
  have hB1 : RelB R (fun t => mu1 106 t) := RelB_cong hB (fun t _ => by rw [e2.1 106 (by omega) (by omega)])
  obtain ⟨g1, g2⟩ := e3 s j hs hj h2
  obtain ⟨n1, n2, ⟨e, n3, n4⟩, -⟩ := need_ok hO hs hj h2
  have rb : mu1 106 (20 * j + 1) = nI (bn R j) := by rw [(hB1.dev hj (k2_ne0 h2)).1, (hO.T.bus hj (k2_ne0 h2)).2.1]
  have rw10 := (hB1.win hj (k2_ne0 h2) hs).1
  have hwm := m_hasWindow (d + 4) L mu1 p j s hj hs
  have h13' : mu1 105 13 = nI g := by rw [e2.2 13 (by omega)]; exact h13
  have hpos : 0 < 2 ^ e := Nat.pow_pos (by omega)
  have hszl := sz_lt n3
  obtain ⟨cc, hcc⟩ : ∃ c, fN R s j = grn s * c := by
    have := Nat.div_add_mod (fN R s j) (grn s)
    rw [n2, Nat.add_zero] at this
    exact ⟨_, this.symm⟩
  have hfit : fN R s j ≠ 0 → ∃ v P, zsem (d + 5) 159 0 [.inr (some 105), .inl (nI (bn R j)), .inl (nI s), .inl (nI (fN R s j)), .inl (nI (aN R s j)), .inr none, .inr none, .inr none] [] (HH L mu1 p) = some (some (.inl v), HH L (LF mu1 P) p) ∧ FSp R s (bn R j) (fN R s j) (aN R s j) v := fun hf => by
    have hc0 : 0 < cc := by
      rcases Nat.eq_zero_or_pos cc with q | q
      · rw [q, Nat.mul_zero] at hcc; exact absurd hcc hf
      · exact q
    have := m_fits (d + 1) L mu1 p hO hB1 (bn R j) s (2 ^ e) cc hs (bus_ok hO hj (k2_ne0 h2)) hpos (by omega) hc0 (by omega)
    rw [← hcc, ← n4] at this
    exact this
  rcases hc with ⟨h0, hRR, rfl⟩ | ⟨a1, a3, a4, hRR, rfl⟩ | ⟨y, a0, a1, a3, a4, rfl, rfl⟩
  · refine ⟨mu1, .inl (nI (12 * s + j)), .inl (-5), ?_, by rw [hRR]; exact hB1, by rw [Nat.add_zero]; exact h13', e2.B⟩
    rw [h162_36]
    by_cases hw : mu1 106 (20 * j + 14 + s) = -5
    · rw [bI_f (fun q => q hw)] at hwm
      have hf : fN R s j = 0 := h0.resolve_right (fun q => q (by rw [← rw10]; exact hw))
      rw [hf] at g1
      simp (disch := first | omega | assumption) only [h162_0, h162_1, h162_2, h162_5, h162_8, h162_9, h162_12, h162_13, h162_16, h162_18, h162_19, h162_20, h162_21, h162_22, h162_25, h162_26, h162_29, h162_31, h162_32, h162_33, h162_34, h162_35, h162_37, h162_38, h162_41, h162_42, h162_45, h162_47, h162_48, h162_49, h162_50, h162_51, h162_53, h162_54, h162_55, h162_56, h162_59, h162_62, h162_63, h162_66, h162_68, h162_69, h162_72, h162_73, h162_74, h162_77, h162_78, h162_81, h162_82, h162_83, h162_84, h162_85, h162_86, h162_89, h162_91, h162_92, h162_93, h162_96, h162_98, h162_99, h162_102, h162_105, h162_107, h162_109, h162_111, h162_113, h162_116, h162_117, h162_120, h162_121, h162_124, h162_126, h162_127, h162_128, h162_129, h162_131, h162_132, h162_133, h162_136, h162_137, h162_140, h162_142, h162_143, h162_144, h162_145, h162_146, h162_149, h162_151, h162_152, h162_153, h162_154, h162_155, h162_156, h162_158, h162_159, h162_162, h162_165, h162_166, h162_167, h162_168, h162_171, h162_174, h162_177, Option.bind_some, Option.toList_some, Option.toList_none, List.cons_append, List.nil_append, nI_ltc, nI_lec, nI_eqc, nI_ne5, n5_ne, n5_lt, bI_0, bI_1, nI_add, pk_mul, if_pos, if_neg, ite_not, if_true, if_false, not_true_eq_false, not_false_eq_true, true_and, false_and, and_true, and_false, Nat.reduceAdd, Nat.reduceMul, e1, hwm, g1]
    · rw [bI_t hw] at hwm
      simp (disch := first | omega | assumption) only [h162_0, h162_1, h162_2, h162_5, h162_8, h162_9, h162_12, h162_13, h162_16, h162_18, h162_19, h162_20, h162_21, h162_22, h162_25, h162_26, h162_29, h162_31, h162_32, h162_33, h162_34, h162_35, h162_37, h162_38, h162_41, h162_42, h162_45, h162_47, h162_48, h162_49, h162_50, h162_51, h162_53, h162_54, h162_55, h162_56, h162_59, h162_62, h162_63, h162_66, h162_68, h162_69, h162_72, h162_73, h162_74, h162_77, h162_78, h162_81, h162_82, h162_83, h162_84, h162_85, h162_86, h162_89, h162_91, h162_92, h162_93, h162_96, h162_98, h162_99, h162_102, h162_105, h162_107, h162_109, h162_111, h162_113, h162_116, h162_117, h162_120, h162_121, h162_124, h162_126, h162_127, h162_128, h162_129, h162_131, h162_132, h162_133, h162_136, h162_137, h162_140, h162_142, h162_143, h162_144, h162_145, h162_146, h162_149, h162_151, h162_152, h162_153, h162_154, h162_155, h162_156, h162_158, h162_159, h162_162, h162_165, h162_166, h162_167, h162_168, h162_171, h162_174, h162_177, Option.bind_some, Option.toList_some, Option.toList_none, List.cons_append, List.nil_append, nI_ltc, nI_lec, nI_eqc, nI_ne5, n5_ne, n5_lt, bI_0, bI_1, nI_add, pk_mul, if_pos, if_neg, ite_not, if_true, if_false, not_true_eq_false, not_false_eq_true, true_and, false_and, and_true, and_false, Nat.reduceAdd, Nat.reduceMul, e1, hwm]
  · rw [a3] at rw10
    rw [bI_f (fun q => q rw10)] at hwm
    obtain ⟨v, P, f1, f2⟩ := hfit a1
    have := FSp_one a4 f2
    subst this
    have l1 : ¬nI (fN R s j) ≤ nI 0 := by rw [nI_lec (by omega) (by omega)]; omega
    refine ⟨LF mu1 P, .inl (nI (12 * s + j)), .inl (-5), ?_, by rw [hRR]; exact RelB_cong hB1 (fun t _ => LF_o (by omega)), by rw [Nat.add_zero, LF_o (by omega)]; exact h13', FrB.tr e2.B (LF_B mu1 P)⟩
    rw [h162_36]
    simp (disch := first | omega | assumption) only [h162_0, h162_1, h162_2, h162_5, h162_8, h162_9, h162_12, h162_13, h162_16, h162_18, h162_19, h162_20, h162_21, h162_22, h162_25, h162_26, h162_29, h162_31, h162_32, h162_33, h162_34, h162_35, h162_37, h162_38, h162_41, h162_42, h162_45, h162_47, h162_48, h162_49, h162_50, h162_51, h162_53, h162_54, h162_55, h162_56, h162_59, h162_62, h162_63, h162_66, h162_68, h162_69, h162_72, h162_73, h162_74, h162_77, h162_78, h162_81, h162_82, h162_83, h162_84, h162_85, h162_86, h162_89, h162_91, h162_92, h162_93, h162_96, h162_98, h162_99, h162_102, h162_105, h162_107, h162_109, h162_111, h162_113, h162_116, h162_117, h162_120, h162_121, h162_124, h162_126, h162_127, h162_128, h162_129, h162_131, h162_132, h162_133, h162_136, h162_137, h162_140, h162_142, h162_143, h162_144, h162_145, h162_146, h162_149, h162_151, h162_152, h162_153, h162_154, h162_155, h162_156, h162_158, h162_159, h162_162, h162_165, h162_166, h162_167, h162_168, h162_171, h162_174, h162_177, Option.bind_some, Option.toList_some, Option.toList_none, List.cons_append, List.nil_append, nI_ltc, nI_lec, nI_eqc, nI_ne5, n5_ne, n5_lt, bI_0, bI_1, nI_add, pk_mul, if_pos, if_neg, ite_not, if_true, if_false, not_true_eq_false, not_false_eq_true, true_and, false_and, and_true, and_false, Nat.reduceAdd, Nat.reduceMul, e1, hwm, g1, g2, l1, m_at, rb, f1]
  · rw [a3] at rw10
    rw [bI_f (fun q => q rw10)] at hwm
    obtain ⟨v, P, f1, f2⟩ := hfit a1
    have := FSp_one a4 f2
    subst this
    have l1 : ¬nI (fN R s j) ≤ nI 0 := by rw [nI_lec (by omega) (by omega)]; omega
    have ok5 : ¬nI y = -5 := fun q => by rw [nI_ne5 (by omega)] at q; exact q
    obtain ⟨o1, o2, o3, o4⟩ := OK_opn hO hs hj h2 a3 a4 (by omega) a1
    obtain ⟨p1, p2⟩ := fN_L (opn_L R s j y) s
    have hB2 : RelB R (fun t => LF mu1 P 106 t) := RelB_cong hB1 (fun t _ => LF_o (by omega))
    have hB3 : RelB (opn R s j y) (fun t => u2 (u2 (LF mu1 P) 106 (20 * j + 14 + s) (nI y)) 106 (20 * j + 16 + s) (nI (fN R s j)) 106 t) := RelB_u10 hB2 hj hs _ _
    obtain ⟨mu2, mu3, f3, f4, f5, f6, f7⟩ := m_placing d L p o1 hs (b0 := j) (by omega) o2 o4 _ g hB3 (fun i hi hk => by
      rw [opn_L _ _ _ _ 2 (by omega) (by omega) (by omega)] at hk
      rw [p1, p2, u2_row (by omega), u2_row (by omega), u2_row (by omega), u2_row (by omega), LF_o (by omega), LF_o (by omega)]
      exact e3 s i hs hi hk) (by rw [u2_row (by omega), u2_row (by omega), LF_o (by omega)]; exact h13')
    refine ⟨mu3, .inl (nI (12 * s + j)), .inl (nI y), ?_, f5, f6, FrB.tr e2.B (FrB.tr (LF_B mu1 P) (FrB.tr ⟨fun r q1 q2 _ => by rw [u2_row q2, u2_row q2], fun i _ _ => by rw [u2_row (by omega), u2_row (by omega)], fun t ht => by rw [u2_o _ _ (by omega), u2_o _ _ (by omega)]⟩ f7.B))⟩
    rw [h162_36]
    simp (disch := first | omega | assumption) only [h162_0, h162_1, h162_2, h162_5, h162_8, h162_9, h162_12, h162_13, h162_16, h162_18, h162_19, h162_20, h162_21, h162_22, h162_25, h162_26, h162_29, h162_31, h162_32, h162_33, h162_34, h162_35, h162_37, h162_38, h162_41, h162_42, h162_45, h162_47, h162_48, h162_49, h162_50, h162_51, h162_53, h162_54, h162_55, h162_56, h162_59, h162_62, h162_63, h162_66, h162_68, h162_69, h162_72, h162_73, h162_74, h162_77, h162_78, h162_81, h162_82, h162_83, h162_84, h162_85, h162_86, h162_89, h162_91, h162_92, h162_93, h162_96, h162_98, h162_99, h162_102, h162_105, h162_107, h162_109, h162_111, h162_113, h162_116, h162_117, h162_120, h162_121, h162_124, h162_126, h162_127, h162_128, h162_129, h162_131, h162_132, h162_133, h162_136, h162_137, h162_140, h162_142, h162_143, h162_144, h162_145, h162_146, h162_149, h162_151, h162_152, h162_153, h162_154, h162_155, h162_156, h162_158, h162_159, h162_162, h162_165, h162_166, h162_167, h162_168, h162_171, h162_174, h162_177, Option.bind_some, Option.toList_some, Option.toList_none, List.cons_append, List.nil_append, nI_ltc, nI_lec, nI_eqc, nI_ne5, n5_ne, n5_lt, bI_0, bI_1, nI_add, pk_mul, if_pos, if_neg, ite_not, if_true, if_false, not_true_eq_false, not_false_eq_true, true_and, false_and, and_true, and_false, Nat.reduceAdd, Nat.reduceMul, e1, hwm, g1, g2, l1, m_at, rb, f1, ok5, u2_oa, LF_o, m_addresses, f3, f4]
end
