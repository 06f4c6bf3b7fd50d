/-! attaching: class -/
def CStep (R : RV) (j q : Nat) (R' : RV) (c : Nat) : Prop :=
  (¬(¬R 7 (j * 3 + q) = nI 0 ∧ R 8 (j * 3 + q) = -5) ∧ R' = R ∧ c = 0) ∨
  (∃ s n v, s < 2 ∧ n ≤ 1024 ∧ n ≠ 0 ∧ R 6 (j * 3 + q) = nI s ∧ R 7 (j * 3 + q) = nI n ∧ R 8 (j * 3 + q) = -5 ∧ FSp R s (bn R j) n n v ∧ R' = u2 R 8 (j * 3 + q) v ∧ c = if v = -5 then 0 else 1)
theorem CStep_OK {R R' : RV} {j q c : Nat} (hO : OK R) (hj : j < 12) (hq : q < 3) (h2 : R 2 j = nI 1) (h : CStep R j q R' c) : OK R' ∧ R' 2 j = nI 1 ∧ c ≤ 1 := by
  rcases h with ⟨-, rfl, rfl⟩ | ⟨s, n, v, a1, a2, a3, a4, a5, a6, a7, rfl, rfl⟩
  · exact ⟨hO, h2, by omega⟩
  · exact ⟨OK_u8 hO hj hq a1 h2 a4 a5 a2 a6 a3 a7, by rw [u2_row (by omega)]; exact h2, by split <;> omega⟩
theorem sz_kk {s e : Nat} (hs : s < 2) (he : e ≤ lex s) : ∃ kk, grn s * 2 ^ e = 2 ^ kk ∧ (kk = 2 ∨ kk = 3 ∨ kk = 4 ∨ kk = 5 ∨ kk = 6 ∨ kk = 7 ∨ kk = 8 ∨ kk = 9 ∨ kk = 10) := by
  rcases (show s = 0 ∨ s = 1 by omega) with rfl | rfl
  · refine ⟨4 + e, by rw [Nat.pow_add]; rfl, ?_⟩
    have : e ≤ 6 := he
    omega
  · refine ⟨2 + e, by rw [Nat.pow_add]; rfl, ?_⟩
    have : e ≤ 4 := he
    omega
theorem FSp_v {R : RV} {s b size al : Nat} {v : Int32} (h : FSp R s b size al v) : v = -5 ∨ ∃ y, y ≤ 8192 ∧ v = nI y := by
  have ha := @adr_fac s
  rcases h with ⟨y, A, E, hr, -, h2, h3, -, -, e⟩ | ⟨-, e⟩
  · refine Or.inr ⟨y, ?_, e⟩
    rcases hr with ⟨-, r1, r2⟩ | ⟨-, r1, r2, -⟩ <;> omega
  · exact Or.inl e
theorem FSp_lt {R : RV} (hO : OK R) {s b size al y : Nat} (hs : s < 2) (hb : b < 13) (hk : b < 12 → R 2 b = nI 2) (h : FSp R s b size al (nI y)) (hy : y < 2147483648) : y ≤ adr s ∧ y + size ≤ adr s := by
  rcases h with ⟨y', A, E, hr, h1, h2, h3, h4, -, e⟩ | ⟨-, e⟩
  · have hrt : rt R 5 b := by
      by_cases q : b < 12
      · exact Or.inr ⟨q, hk q, hO.T.2.2.2 b q (k2_ne0 (hk q))⟩
      · exact Or.inl (by omega)
    have := room_adr (hO.W hs) 5 b A E hrt hr
    have ha := @adr_fac s
    rw [nI_eqc hy (by omega)] at e
    omega
  · rw [nI_ne5 hy] at e; exact e.elim
section
variable (d L : Nat) (p : Nat → Nat)
theorem bus_ok {R : RV} (hO : OK R) {j : Nat} (hj : j < 12) (hk : ¬R 2 j = nI 0) : bn R j = 12 ∨ (bn R j < 12 ∧ R 2 (bn R j) = nI 2) := by
  obtain ⟨g1, g2, g3⟩ := hO.T.bus hj hk
  by_cases q : bn R j < 12
  · exact Or.inr ⟨q, g3 q⟩
  · exact Or.inl (by omega)
theorem z_acS {R : RV} (hO : OK R) {j q : Nat} (hj : j < 12) (hq : q < 3) (h2 : R 2 j = nI 1) (mu : RV) (hR : rk mu 1 = R) (c0 : Nat) (w4 w5 w6 : AV) : ∃ R' c mu' w4' w5' w6', zsem (d + 4) 96 15 [.inr (.inl (some 0)), .inl (nI j), .inl (nI c0), .inl (nI q), w4, w5, w6] [] (HH L mu p) = zsem (d + 4) 96 15 [.inr (.inl (some 0)), .inl (nI j), .inl (nI (c0 + c)), .inl (nI (q + 1)), w4', w5', w6'] [] (HH L mu' p) ∧ CStep R j q R' c ∧ rk mu' 1 = R' ∧ ∀ r, ¬r = 8 → mu' r = mu r := by
  have m3 : mu 3 j = nI (bn R j) := by rw [← (hO.T.bus hj (k1_ne0 h2)).2.1, ← hR, rk_3 hj]
  have m6 : mu 6 (j * 3 + q) = R 6 (j * 3 + q) := by rw [← hR, rk_6 (by omega)]
  have m7 : mu 7 (j * 3 + q) = R 7 (j * 3 + q) := by rw [← hR, rk_7 (by omega)]
  have m8 : mu 8 (j * 3 + q) = R 8 (j * 3 + q) := by rw [← hR, rk_8 (by omega)]
  have hb13 := hO.T.b13 hj (k1_ne0 h2)
  obtain ⟨sp, s1, s2, s3⟩ := hO.2.2.2.1 j q hj hq
  rcases s3 with ⟨s4, s5⟩ | ⟨e, he, s4⟩
  · rw [s4] at m7
    refine ⟨R, 0, mu, .inl (nI (j * 3 + q)), .inl (nI 0), w6, ?_, Or.inl ⟨fun z => z.1 s4, rfl, rfl⟩, hR, fun _ _ => rfl⟩
    rw [h96_15]
    simp (disch := first | omega | assumption) only [h96_0, h96_1, h96_4, h96_5, h96_8, h96_11, h96_12, h96_13, h96_14, h96_16, h96_17, h96_20, h96_21, h96_22, h96_25, h96_27, h96_28, h96_31, h96_34, h96_36, h96_37, h96_39, h96_41, h96_44, h96_45, h96_48, h96_51, h96_53, h96_54, h96_56, h96_59, h96_60, h96_63, h96_64, h96_67, h96_70, h96_71, h96_72, h96_73, h96_76, h96_79, h96_81, h96_82, h96_84, h96_86, h96_89, h96_91, h96_92, h96_95, h96_98, h96_100, h96_102, h96_103, h96_104, h96_106, h96_108, h96_111, h96_112, h96_115, h96_116, h96_117, h96_118, h96_121, h96_124, h96_125, Option.bind_some, Option.toList_some, Option.toList_none, List.cons_append, List.nil_append, nI_ltc, nI_lec, nI_eqc, nI_ne5, n5_ne, n5_lt, bI_0, bI_1, nI_add, pk_mul, if_pos, if_neg, ite_not, if_true, if_false, not_true_eq_false, not_false_eq_true, true_and, false_and, and_true, and_false, Nat.reduceAdd, Nat.reduceMul, z_regionIndex, m7, Nat.add_zero]
  · have hsz := sz_lt he
    have hl1 : ¬nI (grn sp * 2 ^ e) ≤ nI 0 := by rw [nI_lec (by omega) (by omega)]; omega
    rw [s4] at m7
    by_cases h8 : R 8 (j * 3 + q) = -5
    · obtain ⟨kk, k1, k2⟩ := sz_kk s1 he
      have hbk : bn R j = 12 ∨ (bn R j < 12 ∧ mu 2 (bn R j) = nI 2) := by
        rcases bus_ok hO hj (k1_ne0 h2) with g | ⟨g1, g2⟩
        · exact Or.inl g
        · exact Or.inr ⟨g1, by rw [← rk_2 (mu := mu) g1, hR]; exact g2⟩
      have hpos : 0 < 2 ^ e := Nat.pow_pos (by omega)
      obtain ⟨v, f1, f2⟩ := z_fit d L mu p (by rw [hR]; exact hO) (bn R j) sp (2 ^ e) (2 ^ e) kk s1 hbk k1 k2 hpos (by omega)
      rw [hR] at f2
      rw [s2] at m6
      rw [h8] at m8
      have hu : u2 mu 8 (j * 3 + q) v 8 (j * 3 + q) = v := u2_s _ _ _ _
      refine ⟨u2 R 8 (j * 3 + q) v, (if v = -5 then 0 else 1), u2 mu 8 (j * 3 + q) v, .inl (nI (j * 3 + q)), .inl (nI (grn sp * 2 ^ e)), .inl v, ?_, Or.inr ⟨sp, grn sp * 2 ^ e, v, s1, by omega, by omega, s2, s4, h8, f2, rfl, rfl⟩, by rw [rk_u (by omega) (show j * 3 + q < 36 by omega), hR], fun r hr => u2_row hr⟩
      rw [h96_15]
      by_cases hv : v = -5
      · rw [if_pos hv]
        subst hv
        simp (disch := first | omega | assumption) only [h96_0, h96_1, h96_4, h96_5, h96_8, h96_11, h96_12, h96_13, h96_14, h96_16, h96_17, h96_20, h96_21, h96_22, h96_25, h96_27, h96_28, h96_31, h96_34, h96_36, h96_37, h96_39, h96_41, h96_44, h96_45, h96_48, h96_51, h96_53, h96_54, h96_56, h96_59, h96_60, h96_63, h96_64, h96_67, h96_70, h96_71, h96_72, h96_73, h96_76, h96_79, h96_81, h96_82, h96_84, h96_86, h96_89, h96_91, h96_92, h96_95, h96_98, h96_100, h96_102, h96_103, h96_104, h96_106, h96_108, h96_111, h96_112, h96_115, h96_116, h96_117, h96_118, h96_121, h96_124, h96_125, Option.bind_some, Option.toList_some, Option.toList_none, List.cons_append, List.nil_append, nI_ltc, nI_lec, nI_eqc, nI_ne5, n5_ne, n5_lt, bI_0, bI_1, nI_add, pk_mul, if_pos, if_neg, ite_not, if_true, if_false, not_true_eq_false, not_false_eq_true, true_and, false_and, and_true, and_false, Nat.reduceAdd, Nat.reduceMul, z_regionIndex, m7, hl1, m8, m3, m6, f1, Nat.add_zero]
      · rw [if_neg hv]
        simp (disch := first | omega | assumption) only [h96_0, h96_1, h96_4, h96_5, h96_8, h96_11, h96_12, h96_13, h96_14, h96_16, h96_17, h96_20, h96_21, h96_22, h96_25, h96_27, h96_28, h96_31, h96_34, h96_36, h96_37, h96_39, h96_41, h96_44, h96_45, h96_48, h96_51, h96_53, h96_54, h96_56, h96_59, h96_60, h96_63, h96_64, h96_67, h96_70, h96_71, h96_72, h96_73, h96_76, h96_79, h96_81, h96_82, h96_84, h96_86, h96_89, h96_91, h96_92, h96_95, h96_98, h96_100, h96_102, h96_103, h96_104, h96_106, h96_108, h96_111, h96_112, h96_115, h96_116, h96_117, h96_118, h96_121, h96_124, h96_125, Option.bind_some, Option.toList_some, Option.toList_none, List.cons_append, List.nil_append, nI_ltc, nI_lec, nI_eqc, nI_ne5, n5_ne, n5_lt, bI_0, bI_1, nI_add, pk_mul, if_pos, if_neg, ite_not, if_true, if_false, not_true_eq_false, not_false_eq_true, true_and, false_and, and_true, and_false, Nat.reduceAdd, Nat.reduceMul, z_regionIndex, m7, hl1, m8, m3, m6, f1, hv]
    · refine ⟨R, 0, mu, .inl (nI (j * 3 + q)), .inl (nI (grn sp * 2 ^ e)), w6, ?_, Or.inl ⟨fun z => h8 z.2, rfl, rfl⟩, hR, fun _ _ => rfl⟩
      rw [← m8] at h8
      rw [h96_15]
      simp (disch := first | omega | assumption) only [h96_0, h96_1, h96_4, h96_5, h96_8, h96_11, h96_12, h96_13, h96_14, h96_16, h96_17, h96_20, h96_21, h96_22, h96_25, h96_27, h96_28, h96_31, h96_34, h96_36, h96_37, h96_39, h96_41, h96_44, h96_45, h96_48, h96_51, h96_53, h96_54, h96_56, h96_59, h96_60, h96_63, h96_64, h96_67, h96_70, h96_71, h96_72, h96_73, h96_76, h96_79, h96_81, h96_82, h96_84, h96_86, h96_89, h96_91, h96_92, h96_95, h96_98, h96_100, h96_102, h96_103, h96_104, h96_106, h96_108, h96_111, h96_112, h96_115, h96_116, h96_117, h96_118, h96_121, h96_124, h96_125, Option.bind_some, Option.toList_some, Option.toList_none, List.cons_append, List.nil_append, nI_ltc, nI_lec, nI_eqc, nI_ne5, n5_ne, n5_lt, bI_0, bI_1, nI_add, pk_mul, if_pos, if_neg, ite_not, if_true, if_false, not_true_eq_false, not_false_eq_true, true_and, false_and, and_true, and_false, Nat.reduceAdd, Nat.reduceMul, z_regionIndex, m7, hl1, h8, Nat.add_zero]
def WStep (R : RV) (j s : Nat) (R' : RV) (c : Nat) : Prop :=
  ((fN R s j = 0 ∨ ¬R 10 (j * 2 + s) = -5) ∧ R' = R ∧ c = 0) ∨
  (fN R s j ≠ 0 ∧ R 10 (j * 2 + s) = -5 ∧ FSp R s (bn R j) (fN R s j) (aN R s j) (-5) ∧ R' = R ∧ c = 0) ∨
  (∃ y, y ≤ 4096 ∧ fN R s j ≠ 0 ∧ R 10 (j * 2 + s) = -5 ∧ FSp R s (bn R j) (fN R s j) (aN R s j) (nI y) ∧ R' = ovl (opn R s j y) s (stF (opn R s j y) s j y) ∧ c = TC (opn R s j y) (stF (opn R s j y) s j y))
theorem WStep_OK {R R' : RV} {j s c : Nat} (hO : OK R) (hj : j < 12) (hs : s < 2) (h2 : R 2 j = nI 2) (h : WStep R j s R' c) : OK R' ∧ R' 2 j = nI 2 := by
  rcases h with ⟨-, rfl, -⟩ | ⟨-, -, -, rfl, -⟩ | ⟨y, a1, a2, a3, a4, rfl, -⟩
  · exact ⟨hO, h2⟩
  · exact ⟨hO, h2⟩
  · obtain ⟨o1, o2, o3, o4⟩ := OK_opn hO hs hj h2 a3 a4 (by omega) a2
    refine ⟨OK_ovl o1 hs o2 o3, ?_⟩
    rw [ovl_L _ _ _ 2 (by omega) (by omega) (by omega), opn_L _ _ _ _ 2 (by omega) (by omega) (by omega)]
    exact h2
theorem TC_le (R : RV) (st : Nat → Nat → Option Nat) : TC R st ≤ 36 := cnt_le _ 36
theorem z_attachWindow {R : RV} (hO : OK R) {j s : Nat} (hj : j < 12) (hs : s < 2) (h2 : R 2 j = nI 2) (mu : RV) (hR : rk mu 1 = R) : ∃ R' c mu', zsem (d + 4) 100 0 [.inr (.inl (some 0)), .inl (nI j), .inl (nI s), .inr (.inl none), .inr (.inl none)] [] (HH L mu p) = some (some (.inl (nI c)), HH L mu' p) ∧ WStep R j s R' c ∧ rk mu' 1 = R' ∧ (∀ r, ¬r = 8 → ¬r = 10 → ¬r = 11 → (r < 81 ∨ 87 < r) → mu' r = mu r) ∧ c ≤ 36 := by
  obtain ⟨mu1, e1, e2, e3⟩ := z_measure d L p hO hs mu hR
  have hR1 : rk mu1 1 = R := by rw [← hR]; exact rk_cong (fun r _ _ => e2 r (by omega))
  obtain ⟨g1, g2⟩ := e3 j hj h2
  obtain ⟨n1, n2, ⟨e, n3, n4⟩, -⟩ := need_ok hO hs hj h2
  have m3 : mu1 3 j = nI (bn R j) := by rw [← (hO.T.bus hj (k2_ne0 h2)).2.1, ← hR1, rk_3 hj]
  have m10 : mu1 10 (j * 2 + s) = R 10 (j * 2 + s) := by rw [← hR1, rk_10 (by omega)]
  have fr1 : ∀ r, ¬r = 8 → ¬r = 10 → ¬r = 11 → (r < 81 ∨ 87 < r) → mu1 r = mu r := fun r _ _ _ h => e2 r (by omega)
  by_cases hf : fN R s j = 0
  · rw [hf] at g1
    refine ⟨R, 0, mu1, ?_, Or.inl ⟨Or.inl hf, rfl, rfl⟩, hR1, fr1, by omega⟩
    simp (disch := first | omega | assumption) only [h100_0, h100_1, h100_4, h100_5, h100_8, h100_9, h100_12, h100_13, h100_16, h100_19, h100_20, h100_21, h100_22, h100_23, h100_26, h100_27, h100_30, h100_33, h100_34, h100_35, h100_38, h100_39, h100_41, h100_44, h100_45, h100_46, h100_47, h100_50, h100_51, h100_54, h100_57, h100_58, h100_59, h100_60, h100_61, h100_62, h100_65, h100_68, h100_69, h100_70, h100_73, h100_75, h100_77, h100_79, h100_82, h100_83, h100_84, h100_85, h100_88, h100_89, h100_90, h100_92, h100_93, h100_96, h100_97, h100_100, h100_101, h100_104, h100_105, h100_106, h100_109, Option.bind_some, Option.toList_some, Option.toList_none, List.cons_append, List.nil_append, nI_ltc, nI_lec, nI_eqc, nI_ne5, n5_ne, n5_lt, bI_0, bI_1, nI_add, pk_mul, if_pos, if_neg, ite_not, if_true, if_false, not_true_eq_false, not_false_eq_true, true_and, false_and, and_true, and_false, Nat.reduceAdd, Nat.reduceMul, e1, g1]
  · have l0 : ¬nI (fN R s j) = nI 0 := by rw [nI_eqc (by omega) (by omega)]; exact hf
    by_cases h10 : R 10 (j * 2 + s) = -5
    · rw [h10] at m10
      have hbk : bn R j = 12 ∨ (bn R j < 12 ∧ mu1 2 (bn R j) = nI 2) := by
        rcases bus_ok hO hj (k2_ne0 h2) with g | ⟨g1, g2⟩
        · exact Or.inl g
        · exact Or.inr ⟨g1, by rw [← rk_2 (mu := mu1) g1, hR1]; exact g2⟩
      obtain ⟨kk, k1, k2⟩ := sz_kk hs n3
      obtain ⟨c, hc⟩ : ∃ c, fN R s j = grn s * c := by
        have := Nat.div_add_mod (fN R s j) (grn s)
        rw [n2, Nat.add_zero] at this
        exact ⟨_, this.symm⟩
      have hc0 : 0 < c := by
        rcases Nat.eq_zero_or_pos c with q | q
        · rw [q, Nat.mul_zero] at hc; exact absurd hc hf
        · exact q
      obtain ⟨v, f1, f2⟩ := z_fit d L mu1 p (by rw [hR1]; exact hO) (bn R j) s (2 ^ e) c kk hs hbk k1 k2 hc0 (by omega)
      rw [hR1, ← hc, ← n4] at f2
      rw [← hc, ← n4] at f1
      rcases FSp_v f2 with rfl | ⟨y, hy0, rfl⟩
      · refine ⟨R, 0, mu1, ?_, Or.inr (Or.inl ⟨hf, h10, f2, rfl, rfl⟩), hR1, fr1, by omega⟩
        simp (disch := first | omega | assumption) only [h100_0, h100_1, h100_4, h100_5, h100_8, h100_9, h100_12, h100_13, h100_16, h100_19, h100_20, h100_21, h100_22, h100_23, h100_26, h100_27, h100_30, h100_33, h100_34, h100_35, h100_38, h100_39, h100_41, h100_44, h100_45, h100_46, h100_47, h100_50, h100_51, h100_54, h100_57, h100_58, h100_59, h100_60, h100_61, h100_62, h100_65, h100_68, h100_69, h100_70, h100_73, h100_75, h100_77, h100_79, h100_82, h100_83, h100_84, h100_85, h100_88, h100_89, h100_90, h100_92, h100_93, h100_96, h100_97, h100_100, h100_101, h100_104, h100_105, h100_106, h100_109, Option.bind_some, Option.toList_some, Option.toList_none, List.cons_append, List.nil_append, nI_ltc, nI_lec, nI_eqc, nI_ne5, n5_ne, n5_lt, bI_0, bI_1, nI_add, pk_mul, if_pos, if_neg, ite_not, if_true, if_false, not_true_eq_false, not_false_eq_true, true_and, false_and, and_true, and_false, Nat.reduceAdd, Nat.reduceMul, e1, g1, g2, l0, z_windowIndex, m10, m3, f1]
      · have ha := @adr_fac s
        have hy := (FSp_lt hO hs (hO.T.b13 hj (k2_ne0 h2)) (hO.T.bus hj (k2_ne0 h2)).2.2 f2 (by omega)).1
        obtain ⟨o1, o2, o3, o4⟩ := OK_opn hO hs hj h2 h10 f2 (by omega) hf
        have hm : rk (u2 (u2 mu1 10 (j * 2 + s) (nI y)) 11 (j * 2 + s) (nI (fN R s j))) 1 = opn R s j y := by
          rw [rk_u (by omega) (show j * 2 + s < 24 by omega), rk_u (by omega) (show j * 2 + s < 24 by omega), hR1]
          rfl
        obtain ⟨p1, p2⟩ := fN_L (opn_L R s j y) s
        obtain ⟨mu2, f3, f4, f5⟩ := z_place d L p o1 hs (b0 := j) (by omega) o2 _ hm (fun i hi hk => by
          rw [opn_L _ _ _ _ 2 (by omega) (by omega) (by omega)] at hk
          rw [p1, p2, u2_row (by omega), u2_row (by omega), u2_row (by omega), u2_row (by omega)]
          exact e3 i hi hk)
        have ok5 : ¬nI y = -5 := fun q => by rw [nI_ne5 (by omega)] at q; exact q
        have hop := z_openWindow (d + 2) L mu1 p j s (nI y) (nI (fN R s j)) hj hs
        refine ⟨_, TC (opn R s j y) (stF (opn R s j y) s j y), mu2, ?_, Or.inr (Or.inr ⟨y, by omega, hf, h10, f2, rfl, rfl⟩), f4, fun r a1 a2 a3 a4 => by rw [f5 r a1 a2 a3 (by omega) (by omega), u2_row a3, u2_row a2, fr1 r a1 a2 a3 a4], TC_le _ _⟩
        simp (disch := first | omega | assumption) only [h100_0, h100_1, h100_4, h100_5, h100_8, h100_9, h100_12, h100_13, h100_16, h100_19, h100_20, h100_21, h100_22, h100_23, h100_26, h100_27, h100_30, h100_33, h100_34, h100_35, h100_38, h100_39, h100_41, h100_44, h100_45, h100_46, h100_47, h100_50, h100_51, h100_54, h100_57, h100_58, h100_59, h100_60, h100_61, h100_62, h100_65, h100_68, h100_69, h100_70, h100_73, h100_75, h100_77, h100_79, h100_82, h100_83, h100_84, h100_85, h100_88, h100_89, h100_90, h100_92, h100_93, h100_96, h100_97, h100_100, h100_101, h100_104, h100_105, h100_106, h100_109, Option.bind_some, Option.toList_some, Option.toList_none, List.cons_append, List.nil_append, nI_ltc, nI_lec, nI_eqc, nI_ne5, n5_ne, n5_lt, bI_0, bI_1, nI_add, pk_mul, if_pos, if_neg, ite_not, if_true, if_false, not_true_eq_false, not_false_eq_true, true_and, false_and, and_true, and_false, Nat.reduceAdd, Nat.reduceMul, e1, g1, g2, l0, z_windowIndex, m10, m3, f1, ok5, hop, f3]
    · refine ⟨R, 0, mu1, ?_, Or.inl ⟨Or.inr h10, rfl, rfl⟩, hR1, fr1, by omega⟩
      rw [← m10] at h10
      simp (disch := first | omega | assumption) only [h100_0, h100_1, h100_4, h100_5, h100_8, h100_9, h100_12, h100_13, h100_16, h100_19, h100_20, h100_21, h100_22, h100_23, h100_26, h100_27, h100_30, h100_33, h100_34, h100_35, h100_38, h100_39, h100_41, h100_44, h100_45, h100_46, h100_47, h100_50, h100_51, h100_54, h100_57, h100_58, h100_59, h100_60, h100_61, h100_62, h100_65, h100_68, h100_69, h100_70, h100_73, h100_75, h100_77, h100_79, h100_82, h100_83, h100_84, h100_85, h100_88, h100_89, h100_90, h100_92, h100_93, h100_96, h100_97, h100_100, h100_101, h100_104, h100_105, h100_106, h100_109, Option.bind_some, Option.toList_some, Option.toList_none, List.cons_append, List.nil_append, nI_ltc, nI_lec, nI_eqc, nI_ne5, n5_ne, n5_lt, bI_0, bI_1, nI_add, pk_mul, if_pos, if_neg, ite_not, if_true, if_false, not_true_eq_false, not_false_eq_true, true_and, false_and, and_true, and_false, Nat.reduceAdd, Nat.reduceMul, e1, g1, l0, z_windowIndex, h10]
theorem z_numberOf_b (mu : RV) (b : Nat) (hb : b < 12) (hk : mu 2 b = nI 2) : zsem (d + 1) 95 0 [.inr (.inl (some 1)), .inl (nI b)] [] (HH L mu p) = some (some (.inl (mu 12 b)), HH L mu p) := by
  simp (disch := first | omega | assumption) only [h95_0, h95_1, h95_3, h95_6, h95_7, h95_8, h95_9, h95_10, h95_13, h95_16, h95_17, h95_20, h95_21, h95_22, h95_25, h95_27, Option.bind_some, Option.toList_some, Option.toList_none, List.cons_append, List.nil_append, nI_ltc, nI_lec, nI_eqc, nI_ne5, n5_ne, n5_lt, bI_0, bI_1, nI_add, pk_mul, if_pos, if_neg, ite_not, if_true, if_false, not_true_eq_false, not_false_eq_true, true_and, false_and, and_true, and_false, Nat.reduceAdd, Nat.reduceMul, z_isBridge_n, hk]
theorem z_numberOf_r (mu : RV) : zsem (d + 1) 95 0 [.inr (.inl (some 1)), .inl (nI 12)] [] (HH L mu p) = some (some (.inl (nI 0)), HH L mu p) := by
  simp (disch := first | omega | assumption) only [h95_0, h95_1, h95_3, h95_6, h95_7, h95_8, h95_9, h95_10, h95_13, h95_16, h95_17, h95_20, h95_21, h95_22, h95_25, h95_27, Option.bind_some, Option.toList_some, Option.toList_none, List.cons_append, List.nil_append, nI_ltc, nI_lec, nI_eqc, nI_ne5, n5_ne, n5_lt, bI_0, bI_1, nI_add, pk_mul, if_pos, if_neg, ite_not, if_true, if_false, not_true_eq_false, not_false_eq_true, true_and, false_and, and_true, and_false, Nat.reduceAdd, Nat.reduceMul]
/-- a number is taken on bus b -/
def takn (R : RV) (b n t0 : Nat) : Prop := ∃ d x y, d < 12 ∧ bn R d = b ∧ t0 ≤ sn R d ∧ numd R d x y ∧ x ≤ n ∧ n ≤ y
theorem z_isTakenL {R : RV} (hO : OK R) {b n : Nat} (hb : b < 13) (hn : n < 1000) (mu : RV) (hR : rk mu 1 = R) : ∀ m t (w : AV), t + m = 4 → ∃ v, zsem (d + 1) 99 2 [.inr (.inl (some 1)), .inl (nI b), .inl (nI n), .inl (nI t), w] [] (HH L mu p) = some (some (.inl v), HH L mu p) ∧ (takn R b n t → v = nI 1) ∧ (¬takn R b n t → v = nI 0) := by
  intro m
  induction m with
  | zero =>
    intro t w ht
    have : t = 4 := by omega
    subst this
    refine ⟨nI 0, ?_, fun ⟨d, x, y, h1, h2, h3, h4, h5⟩ => ?_, fun _ => rfl⟩
    · rw [h99_2]
      simp (disch := first | omega | assumption) only [h99_0, h99_1, h99_3, h99_4, h99_7, h99_8, h99_9, h99_10, h99_13, h99_15, h99_16, h99_18, h99_21, h99_24, h99_25, h99_28, h99_30, h99_31, h99_32, h99_35, h99_36, h99_37, h99_40, h99_42, h99_43, h99_46, h99_47_0, h99_47_1, h99_47_b, h99_48, h99_51, h99_54, h99_55_0, h99_55_1, h99_55_b, Option.bind_some, Option.toList_some, Option.toList_none, List.cons_append, List.nil_append, nI_ltc, nI_lec, nI_eqc, nI_ne5, n5_ne, n5_lt, bI_0, bI_1, nI_add, pk_mul, if_pos, if_neg, ite_not, if_true, if_false, not_true_eq_false, not_false_eq_true, true_and, false_and, and_true, and_false, Nat.reduceAdd, Nat.reduceMul]
    · have k2 := numd_k hO.2.1 h1 h4
      have := (sn_ok hO.T h1 (k2_ne0 k2)).1
      omega
  | succ m ih =>
    intro t w ht
    have m5 : mu 5 (b * 4 + t) = R 5 (b * 4 + t) := by rw [← hR, rk_5 (by omega)]
    have nxt : ∀ w' : AV, ¬(∃ d x y, d < 12 ∧ bn R d = b ∧ sn R d = t ∧ numd R d x y ∧ x ≤ n ∧ n ≤ y) → zsem (d + 1) 99 2 [.inr (.inl (some 1)), .inl (nI b), .inl (nI n), .inl (nI t), w] [] (HH L mu p) = zsem (d + 1) 99 2 [.inr (.inl (some 1)), .inl (nI b), .inl (nI n), .inl (nI (t + 1)), w'] [] (HH L mu p) → ∃ v, zsem (d + 1) 99 2 [.inr (.inl (some 1)), .inl (nI b), .inl (nI n), .inl (nI t), w] [] (HH L mu p) = some (some (.inl v), HH L mu p) ∧ (takn R b n t → v = nI 1) ∧ (¬takn R b n t → v = nI 0) := by
      intro w' hno e
      obtain ⟨v, e1, e2, e3⟩ := ih (t + 1) w' (by omega)
      have hiff : takn R b n t ↔ takn R b n (t + 1) := by
        constructor
        · rintro ⟨d, x, y, h1, h2, h3, h4⟩
          refine ⟨d, x, y, h1, h2, ?_, h4⟩
          by_cases q : sn R d = t
          · exact absurd ⟨d, x, y, h1, h2, q, h4⟩ hno
          · omega
        · rintro ⟨d, x, y, h1, h2, h3, h4⟩
          exact ⟨d, x, y, h1, h2, by omega, h4⟩
      rw [hiff]
      exact ⟨v, e.trans e1, e2, e3⟩
    rcases hO.T.2.2.1 b t hb (by omega) with hv | ⟨j, hj, hv, hkj, -, -⟩
    · rw [hv] at m5
      have c2 := z_isNumbered_o d L mu p (-5) (Or.inl (by decide))
      refine nxt (.inl (-5)) (fun ⟨d', x, y, h1, h2, h3, h4, h5⟩ => ?_) ?_
      · have k2 := numd_k hO.2.1 h1 h4
        have := (sn_ok hO.T h1 (k2_ne0 k2)).2
        rw [h2, h3, hv, n5_ne (by omega)] at this
        exact this
      · rw [h99_2]
        simp (disch := first | omega | assumption) only [h99_0, h99_1, h99_3, h99_4, h99_7, h99_8, h99_9, h99_10, h99_13, h99_15, h99_16, h99_18, h99_21, h99_24, h99_25, h99_28, h99_30, h99_31, h99_32, h99_35, h99_36, h99_37, h99_40, h99_42, h99_43, h99_46, h99_47_0, h99_47_1, h99_47_b, h99_48, h99_51, h99_54, h99_55_0, h99_55_1, h99_55_b, Option.bind_some, Option.toList_some, Option.toList_none, List.cons_append, List.nil_append, nI_ltc, nI_lec, nI_eqc, nI_ne5, n5_ne, n5_lt, bI_0, bI_1, nI_add, pk_mul, if_pos, if_neg, ite_not, if_true, if_false, not_true_eq_false, not_false_eq_true, true_and, false_and, and_true, and_false, Nat.reduceAdd, Nat.reduceMul, z_deviceAt_n, m5, c2]
    · rw [hv] at m5
      have m12 : mu 12 j = R 12 j := by rw [← hR, rk_12 hj]
      have m13 : mu 13 j = R 13 j := by rw [← hR, rk_13 hj]
      obtain ⟨q1, q2, q3⟩ := slot_bk hO.T hb (by omega) hj hv
      have uniq : ∀ d', d' < 12 → bn R d' = b → sn R d' = t → ¬R 2 d' = nI 0 → d' = j := fun d' h1 h2 h3 h4 => slot_dev hO.T hj h1 h4 hv h2 h3
      rcases hO.2.2.2.2.2.1.1 j hj with ⟨n1, n2⟩ | ⟨x, y, hn1⟩
      · rw [n1] at m12
        refine nxt (.inl (nI j)) (fun ⟨d', x, y, h1, h2, h3, h4, h5⟩ => ?_) ?_
        · have k2 := numd_k hO.2.1 h1 h4
          have := uniq d' h1 h2 h3 (k2_ne0 k2)
          rw [this] at h4
          have := h4.1
          rw [n1, n5_ne (by have := h4.2.2.2; omega)] at this
          exact this
        · rw [h99_2]
          simp (disch := first | omega | assumption) only [h99_0, h99_1, h99_3, h99_4, h99_7, h99_8, h99_9, h99_10, h99_13, h99_15, h99_16, h99_18, h99_21, h99_24, h99_25, h99_28, h99_30, h99_31, h99_32, h99_35, h99_36, h99_37, h99_40, h99_42, h99_43, h99_46, h99_47_0, h99_47_1, h99_47_b, h99_48, h99_51, h99_54, h99_55_0, h99_55_1, h99_55_b, Option.bind_some, Option.toList_some, Option.toList_none, List.cons_append, List.nil_append, nI_ltc, nI_lec, nI_eqc, nI_ne5, n5_ne, n5_lt, bI_0, bI_1, nI_add, pk_mul, if_pos, if_neg, ite_not, if_true, if_false, not_true_eq_false, not_false_eq_true, true_and, false_and, and_true, and_false, Nat.reduceAdd, Nat.reduceMul, z_deviceAt_n, m5, z_isNumbered_n, m12]
      · obtain ⟨x1, x2, x3, x4, x5⟩ := hn1
        rw [x1] at m12
        rw [x2] at m13
        have ok5 : ¬nI x = -5 := fun q => by rw [nI_ne5 (by omega)] at q; exact q
        by_cases hx : x ≤ n ∧ n ≤ y
        · refine ⟨nI 1, ?_, fun _ => rfl, fun q => absurd ⟨j, x, y, hj, q1, by omega, ⟨x1, x2, x3, x4, x5⟩, hx⟩ q⟩
          obtain ⟨hx1, hx2⟩ := hx
          rw [h99_2]
          simp (disch := first | omega | assumption) only [h99_0, h99_1, h99_3, h99_4, h99_7, h99_8, h99_9, h99_10, h99_13, h99_15, h99_16, h99_18, h99_21, h99_24, h99_25, h99_28, h99_30, h99_31, h99_32, h99_35, h99_36, h99_37, h99_40, h99_42, h99_43, h99_46, h99_47_0, h99_47_1, h99_47_b, h99_48, h99_51, h99_54, h99_55_0, h99_55_1, h99_55_b, Option.bind_some, Option.toList_some, Option.toList_none, List.cons_append, List.nil_append, nI_ltc, nI_lec, nI_eqc, nI_ne5, n5_ne, n5_lt, bI_0, bI_1, nI_add, pk_mul, if_pos, if_neg, ite_not, if_true, if_false, not_true_eq_false, not_false_eq_true, true_and, false_and, and_true, and_false, Nat.reduceAdd, Nat.reduceMul, z_deviceAt_n, m5, z_isNumbered_n, m12, m13, ok5]
        · refine nxt (.inl (nI j)) (fun ⟨d', x', y', h1, h2, h3, h4, h5⟩ => ?_) ?_
          · have k2 := numd_k hO.2.1 h1 h4
            have := uniq d' h1 h2 h3 (k2_ne0 k2)
            rw [this] at h4
            obtain ⟨z1, z2, z3, z4, z5⟩ := h4
            rw [x1, nI_eqc (by omega) (by omega)] at z1
            rw [x2, nI_eqc (by omega) (by omega)] at z2
            omega
          · rw [h99_2]
            by_cases hx1 : x ≤ n
            · have hx2 : ¬n ≤ y := fun q => hx ⟨hx1, q⟩
              simp (disch := first | omega | assumption) only [h99_0, h99_1, h99_3, h99_4, h99_7, h99_8, h99_9, h99_10, h99_13, h99_15, h99_16, h99_18, h99_21, h99_24, h99_25, h99_28, h99_30, h99_31, h99_32, h99_35, h99_36, h99_37, h99_40, h99_42, h99_43, h99_46, h99_47_0, h99_47_1, h99_47_b, h99_48, h99_51, h99_54, h99_55_0, h99_55_1, h99_55_b, Option.bind_some, Option.toList_some, Option.toList_none, List.cons_append, List.nil_append, nI_ltc, nI_lec, nI_eqc, nI_ne5, n5_ne, n5_lt, bI_0, bI_1, nI_add, pk_mul, if_pos, if_neg, ite_not, if_true, if_false, not_true_eq_false, not_false_eq_true, true_and, false_and, and_true, and_false, Nat.reduceAdd, Nat.reduceMul, z_deviceAt_n, m5, z_isNumbered_n, m12, m13, ok5]
            · simp (disch := first | omega | assumption) only [h99_0, h99_1, h99_3, h99_4, h99_7, h99_8, h99_9, h99_10, h99_13, h99_15, h99_16, h99_18, h99_21, h99_24, h99_25, h99_28, h99_30, h99_31, h99_32, h99_35, h99_36, h99_37, h99_40, h99_42, h99_43, h99_46, h99_47_0, h99_47_1, h99_47_b, h99_48, h99_51, h99_54, h99_55_0, h99_55_1, h99_55_b, Option.bind_some, Option.toList_some, Option.toList_none, List.cons_append, List.nil_append, nI_ltc, nI_lec, nI_eqc, nI_ne5, n5_ne, n5_lt, bI_0, bI_1, nI_add, pk_mul, if_pos, if_neg, ite_not, if_true, if_false, not_true_eq_false, not_false_eq_true, true_and, false_and, and_true, and_false, Nat.reduceAdd, Nat.reduceMul, z_deviceAt_n, m5, z_isNumbered_n, m12, m13, ok5]
theorem takn_iff {R : RV} {j n : Nat} : takn R (bn R j) n 0 ↔ ¬fnum R j n := by
  constructor
  · rintro ⟨d, x, y, h1, h2, -, h4, h5⟩ h
    exact h d x y h1 h2 h4 h5
  · intro h
    by_cases q : takn R (bn R j) n 0
    · exact q
    · exact absurd (fun d x y h1 h2 h3 h4 => q ⟨d, x, y, h1, h2, Nat.zero_le _, h3, h4⟩) h
theorem z_lfL {R : RV} (hO : OK R) {j nb la : Nat} (hj : j < 12) (hk : ¬R 2 j = nI 0) (hla : la ≤ 15) (mu : RV) (hR : rk mu 1 = R) : ∀ m n, n + m = la + 1 → nb < n → (∀ i, nb < i → i < n → ¬fnum R j i) → ∃ v, zsem (d + 2) 98 36 [.inr (.inl (some 1)), .inl (nI j), .inl (nI (bn R j)), .inl (nI la), .inl (nI n)] [] (HH L mu p) = some (some (.inl v), HH L mu p) ∧ ((∃ n, nb < n ∧ n ≤ la ∧ fnum R j n ∧ (∀ i, nb < i → i < n → ¬fnum R j i) ∧ v = nI n) ∨ ((∀ n, nb < n → n ≤ la → ¬fnum R j n) ∧ v = -5)) := by
  intro m
  induction m with
  | zero =>
    intro n hn hnb hall
    refine ⟨-5, ?_, Or.inr ⟨fun i h1 h2 => hall i h1 (by omega), rfl⟩⟩
    rw [h98_36]
    simp (disch := first | omega | assumption) only [h98_0, h98_1, h98_4, h98_5, h98_6, h98_7, h98_8, h98_9, h98_12, h98_15, h98_16, h98_19, h98_20, h98_21, h98_24, h98_26, h98_27, h98_28, h98_29, h98_32, h98_33, h98_34, h98_38, h98_39, h98_42, h98_43, h98_44, h98_46, h98_49, h98_52, h98_54, h98_55, h98_58, h98_61, h98_63, Option.bind_some, Option.toList_some, Option.toList_none, List.cons_append, List.nil_append, nI_ltc, nI_lec, nI_eqc, nI_ne5, n5_ne, n5_lt, bI_0, bI_1, nI_add, pk_mul, if_pos, if_neg, ite_not, if_true, if_false, not_true_eq_false, not_false_eq_true, true_and, false_and, and_true, and_false, Nat.reduceAdd, Nat.reduceMul]
  | succ m ih =>
    intro n hn hnb hall
    obtain ⟨v, e1, e2, e3⟩ := z_isTakenL d L p hO (b := bn R j) (n := n) (hO.T.b13 hj hk) (by omega) mu hR 4 0 (.inr (.inl none)) rfl
    rw [takn_iff] at e2 e3
    have e0 : zsem (d + 1) 99 0 [.inr (.inl (some 1)), .inl (nI (bn R j)), .inl (nI n), .inr (.inl none), .inr (.inl none)] [] (HH L mu p) = some (some (.inl v), HH L mu p) := by
      rw [← e1]
      simp (disch := first | omega | assumption) only [h99_0, h99_1, h99_3, h99_4, h99_7, h99_8, h99_9, h99_10, h99_13, h99_15, h99_16, h99_18, h99_21, h99_24, h99_25, h99_28, h99_30, h99_31, h99_32, h99_35, h99_36, h99_37, h99_40, h99_42, h99_43, h99_46, h99_47_0, h99_47_1, h99_47_b, h99_48, h99_51, h99_54, h99_55_0, h99_55_1, h99_55_b, Option.bind_some, Option.toList_some, Option.toList_none, List.cons_append, List.nil_append, nI_ltc, nI_lec, nI_eqc, nI_ne5, n5_ne, n5_lt, bI_0, bI_1, nI_add, pk_mul, if_pos, if_neg, ite_not, if_true, if_false, not_true_eq_false, not_false_eq_true, true_and, false_and, and_true, and_false, Nat.reduceAdd, Nat.reduceMul]
    by_cases hf : fnum R j n
    · rw [e3 (fun q => q hf)] at e0
      refine ⟨nI n, ?_, Or.inl ⟨n, hnb, by omega, hf, hall, rfl⟩⟩
      rw [h98_36]
      simp (disch := first | omega | assumption) only [h98_0, h98_1, h98_4, h98_5, h98_6, h98_7, h98_8, h98_9, h98_12, h98_15, h98_16, h98_19, h98_20, h98_21, h98_24, h98_26, h98_27, h98_28, h98_29, h98_32, h98_33, h98_34, h98_38, h98_39, h98_42, h98_43, h98_44, h98_46, h98_49, h98_52, h98_54, h98_55, h98_58, h98_61, h98_63, Option.bind_some, Option.toList_some, Option.toList_none, List.cons_append, List.nil_append, nI_ltc, nI_lec, nI_eqc, nI_ne5, n5_ne, n5_lt, bI_0, bI_1, nI_add, pk_mul, if_pos, if_neg, ite_not, if_true, if_false, not_true_eq_false, not_false_eq_true, true_and, false_and, and_true, and_false, Nat.reduceAdd, Nat.reduceMul, e0]
    · rw [e2 hf] at e0
      obtain ⟨v', f1, f2⟩ := ih (n + 1) (by omega) (by omega) (fun i h1 h2 => by
        by_cases q : i = n
        · rw [q]; exact hf
        · exact hall i h1 (by omega))
      refine ⟨v', ?_, f2⟩
      rw [← f1, h98_36]
      simp (disch := first | omega | assumption) only [h98_0, h98_1, h98_4, h98_5, h98_6, h98_7, h98_8, h98_9, h98_12, h98_15, h98_16, h98_19, h98_20, h98_21, h98_24, h98_26, h98_27, h98_28, h98_29, h98_32, h98_33, h98_34, h98_38, h98_39, h98_42, h98_43, h98_44, h98_46, h98_49, h98_52, h98_54, h98_55, h98_58, h98_61, h98_63, Option.bind_some, Option.toList_some, Option.toList_none, List.cons_append, List.nil_append, nI_ltc, nI_lec, nI_eqc, nI_ne5, n5_ne, n5_lt, bI_0, bI_1, nI_add, pk_mul, if_pos, if_neg, ite_not, if_true, if_false, not_true_eq_false, not_false_eq_true, true_and, false_and, and_true, and_false, Nat.reduceAdd, Nat.reduceMul, e0]
theorem z_leastFor {R : RV} (hO : OK R) {j nb la : Nat} (hj : j < 12) (hk : ¬R 2 j = nI 0) (hnb : numb R (bn R j) nb la) (mu : RV) (hR : rk mu 1 = R) : ∃ v, zsem (d + 2) 98 0 [.inr (.inl (some 1)), .inl (nI j), .inr (.inl none), .inr (.inl none), .inr (.inl none)] [] (HH L mu p) = some (some (.inl v), HH L mu p) ∧ NSp R j v := by
  have m3 : mu 3 j = nI (bn R j) := by rw [← (hO.T.bus hj hk).2.1, ← hR, rk_3 hj]
  have hla : nb ≤ la ∧ la ≤ 15 := by
    rcases hnb with ⟨-, q1, q2⟩ | ⟨-, q⟩
    · omega
    · exact ⟨q.2.2.2.1, q.2.2.2.2⟩
  obtain ⟨v, e1, e2⟩ := z_lfL d L p hO (nb := nb) hj hk hla.2 mu hR (la - nb) (nb + 1) (by omega) (by omega) (fun i h1 h2 => by omega)
  refine ⟨v, ?_, nb, la, hnb, e2⟩
  rw [← e1]
  rcases hnb with ⟨q1, q2, q3⟩ | ⟨q1, q2⟩
  · have hb := z_isBridge_o (d + 1) L mu p (nI 12) (Or.inr (by decide))
    have hn := z_numberOf_r d L p mu
    rw [q1] at m3
    rw [q1, q2, q3]
    simp (disch := first | omega | assumption) only [h98_0, h98_1, h98_4, h98_5, h98_6, h98_7, h98_8, h98_9, h98_12, h98_15, h98_16, h98_19, h98_20, h98_21, h98_24, h98_26, h98_27, h98_28, h98_29, h98_32, h98_33, h98_34, h98_38, h98_39, h98_42, h98_43, h98_44, h98_46, h98_49, h98_52, h98_54, h98_55, h98_58, h98_61, h98_63, Option.bind_some, Option.toList_some, Option.toList_none, List.cons_append, List.nil_append, nI_ltc, nI_lec, nI_eqc, nI_ne5, n5_ne, n5_lt, bI_0, bI_1, nI_add, pk_mul, if_pos, if_neg, ite_not, if_true, if_false, not_true_eq_false, not_false_eq_true, true_and, false_and, and_true, and_false, Nat.reduceAdd, Nat.reduceMul, m3, hb, hn]
  · have k2 : mu 2 (bn R j) = nI 2 := by rw [← rk_2 (mu := mu) q1, hR]; exact numd_k hO.2.1 q1 q2
    have hn := z_numberOf_b d L p mu (bn R j) q1 k2
    have m12 : mu 12 (bn R j) = nI nb := by rw [← rk_12 (mu := mu) q1, hR]; exact q2.1
    have m13 : mu 13 (bn R j) = nI la := by rw [← rk_13 (mu := mu) q1, hR]; exact q2.2.1
    rw [m12] at hn
    simp (disch := first | omega | assumption) only [h98_0, h98_1, h98_4, h98_5, h98_6, h98_7, h98_8, h98_9, h98_12, h98_15, h98_16, h98_19, h98_20, h98_21, h98_24, h98_26, h98_27, h98_28, h98_29, h98_32, h98_33, h98_34, h98_38, h98_39, h98_42, h98_43, h98_44, h98_46, h98_49, h98_52, h98_54, h98_55, h98_58, h98_61, h98_63, Option.bind_some, Option.toList_some, Option.toList_none, List.cons_append, List.nil_append, nI_ltc, nI_lec, nI_eqc, nI_ne5, n5_ne, n5_lt, bI_0, bI_1, nI_add, pk_mul, if_pos, if_neg, ite_not, if_true, if_false, not_true_eq_false, not_false_eq_true, true_and, false_and, and_true, and_false, Nat.reduceAdd, Nat.reduceMul, m3, z_isBridge_n, k2, m13, hn]
end
