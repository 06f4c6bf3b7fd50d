/-! bus: what lies on a bus is within its room and apart, and what is left is free -/
def fromI (mu : RV) (b s : Nat) : Int32 := if b = 12 then nI 0 else mu 10 (b * 2 + s)
theorem rem_z {a n : Nat} (ha : a < 2147483648) (hn : n < 2147483648) (h0 : 0 < n) (h : a % n = 0) : nI a - nI a / nI n * nI n = nI 0 := by
  rw [nI_div ha hn h0, pk_mul]
  have h1 := Nat.div_add_mod a n
  rw [h, Nat.add_zero, Nat.mul_comm n (a / n)] at h1
  rw [h1, nI_sub (Nat.le_refl _), Nat.sub_self]
theorem szc_e {R : RV} {s b t q : Nat} (hq : q < 3) (h : R 5 (b * 4 + t) = -5) : szc R s b (t * 3 + q) = 0 := szc_n (fun a n hc => by
  obtain ⟨j, j1, j2, -⟩ := hc
  rw [show (t * 3 + q) / 3 = t by omega, h, n5_ne (by omega)] at j2
  exact j2)
theorem szc_d {R : RV} {s b t q e : Nat} (hq : q < 3) (he : e < 12) (h : R 5 (b * 4 + t) = nI e) (hc : ∀ a n, ¬cov R s e q a n) : szc R s b (t * 3 + q) = 0 := szc_n (fun a n hp => by
  obtain ⟨j, j1, j2, j3⟩ := hp
  rw [show (t * 3 + q) / 3 = t by omega, h, nI_eqc (by omega) (by omega)] at j2
  subst j2
  rw [show (t * 3 + q) % 3 = q by omega] at j3
  exact hc a n j3)
theorem szc_v {R : RV} {s b t q e a n : Nat} (hq : q < 3) (he : e < 12) (h : R 5 (b * 4 + t) = nI e) (hc : cov R s e q a n) : szc R s b (t * 3 + q) = n := szc_y (a := a) ⟨e, he, by rw [show (t * 3 + q) / 3 = t by omega]; exact h, by rw [show (t * 3 + q) % 3 = q by omega]; exact hc⟩
/-- a cover lies in the room, as the law reads it -/
theorem cov_in {mu : RV} (hO : OK (rk mu 1)) {s b e q a n : Nat} (hs : s < 2) (hb : b < 13) (he : e < 12) (hq : q < 3) (hbn : bn (rk mu 1) e = b) (hc : cov (rk mu 1) s e q a n) : ∃ A E, fromI mu b s = nI A ∧ extI mu b s = nI E ∧ A ≤ a ∧ a + n ≤ A + E ∧ A + E ≤ adr s ∧ 0 < n ∧ a % grn s = 0 := by
  obtain ⟨g1, g2, g3, A, E, g4, g5, g6⟩ := (hO.W hs).2.2.1 e q a n he hq hc
  rw [hbn] at g4
  have hkk : b = 12 ∨ ¬rk mu 1 2 b = nI 0 := by
    rcases g4 with q | ⟨-, -, -, q, -⟩
    · exact Or.inl q.1
    · exact Or.inr (k2_ne0 q)
  obtain ⟨A', E', -, -, -, e4⟩ := room_grn hO hs g4 hkk
  unfold fromI extI
  rcases g4 with ⟨q1, q2, q3⟩ | ⟨q1, q2, q3, q4, q5, q6⟩
  · rw [if_pos q1, if_pos q1]
    exact ⟨A, E, by rw [q2], by rw [q3], g5, g6, e4, g1, g2⟩
  · rw [if_neg (by omega), if_neg (by omega), ← rk_10 (mu := mu) (by omega), ← rk_11 (mu := mu) (by omega)]
    exact ⟨A, E, q5, q6, g5, g6, e4, g1, g2⟩
theorem sum_3 (R : RV) (s b t : Nat) : sumC R s b ((t + 1) * 3) = sumC R s b (t * 3) + szc R s b (t * 3 + 0) + szc R s b (t * 3 + 1) + szc R s b (t * 3 + 2) := by
  rw [show (t + 1) * 3 = t * 3 + 0 + 1 + 1 + 1 by omega]
  rfl
section
variable (d L : Nat) (mu : RV) (p : Nat → Nat)
/-- the regions of a card -/
theorem y_busC (hR : Rel mu p) (b s t e : Nat) (hb : b < 13) (hs : s < 2) (ht : t < 4) (he : e < 12) (hv : mu 5 (b * 4 + t) = nI e) (h2 : mu 2 e = nI 1) (hbn : bn (rk mu 1) e = b) : ∀ m q (w9 w10 : AV), q + m = 3 →
    ∃ w8' w9' w10', zsem (d + 6) 37 99 [.inr (.inl (some 0)), .inl (nI b), .inl (nI s), .inl (fromI mu b s), .inl (extI mu b s), .inl (extI mu b s - nI (sumC (rk mu 1) s b (t * 3 + q))), .inl (nI t), .inl (nI e), .inl (nI q), w9, w10] [] (HH L mu p) = zsem (d + 6) 37 81 [.inr (.inl (some 0)), .inl (nI b), .inl (nI s), .inl (fromI mu b s), .inl (extI mu b s), .inl (extI mu b s - nI (sumC (rk mu 1) s b ((t + 1) * 3))), .inl (nI (t + 1)), .inl (nI e), w8', w9', w10'] [] (HH L mu p) := by
  have hO := hR.2.2.1
  have hX := hR.2.2.2
  have hv5 : rk mu 1 5 (b * 4 + t) = nI e := by rw [rk_5 (by omega)]; exact hv
  have hk : rk mu 1 2 e = nI 1 := by rw [rk_2 he]; exact h2
  have hn2 : ¬mu 2 e = nI 2 := by rw [h2]; decide
  have c1 := y_isCard (d + 2) L mu p e he
  rw [bI_t h2] at c1
  have c2 := y_isBridge (d + 2) L mu p e he
  rw [bI_f hn2] at c2
  intro m
  induction m with
  | zero =>
    intro q w9 w10 hq
    have : q = 3 := by omega
    subst this
    refine ⟨.inl (nI 3), w9, w10, ?_⟩
    rw [show (t + 1) * 3 = t * 3 + 3 by omega, h37_99]
    simp (disch := first | omega | assumption) only [h37_0, h37_1, h37_3, h37_6, h37_7, h37_10, h37_11, h37_12, h37_13, h37_16, h37_17, h37_18, h37_20, h37_23, h37_24, h37_27, h37_30, h37_31, h37_32, h37_33, h37_36, h37_38, h37_40, h37_42, h37_43, h37_45, h37_48, h37_49, h37_52, h37_53, h37_55, h37_58, h37_59, h37_62, h37_63, h37_66, h37_68, h37_69, h37_72, h37_73, h37_76, h37_77_0, h37_77_1, h37_77_b, h37_78, h37_79, h37_83, h37_84, h37_87, h37_88, h37_89, h37_91, h37_94, h37_96, h37_97, h37_101, h37_102, h37_105, h37_107, h37_110, h37_111, h37_113, h37_116, h37_119, h37_120, h37_122, h37_124, h37_127, h37_129, h37_130, h37_132, h37_134, h37_137, h37_139, h37_141, h37_144, h37_145, h37_146, h37_148, h37_151, h37_152, h37_154, h37_155, h37_157, h37_158, h37_161, h37_163, h37_165, h37_166, h37_169, h37_171, h37_172, h37_175, h37_177, h37_179, h37_180, h37_181, h37_183, h37_184, h37_187, h37_188, h37_189, h37_191, h37_193, h37_194, h37_195, h37_196, h37_199, h37_200, h37_202, h37_203, h37_205, h37_206, h37_209, h37_210_0, h37_210_1, h37_210_b, h37_211, h37_213, h37_215, h37_216, h37_218, h37_221, h37_224, h37_226, h37_229, h37_230, h37_232, h37_235, h37_238, h37_239, h37_241, h37_242, h37_245, h37_248, h37_249, h37_251, h37_252, h37_255, h37_257, h37_258, h37_260, h37_263, h37_266, h37_268, h37_269, h37_272, h37_274, h37_275, h37_277, h37_278, h37_281, h37_282, h37_283, h37_285, h37_286, h37_289, h37_291, h37_292, h37_295, h37_296, h37_299, h37_300_0, h37_300_1, h37_300_b, h37_301, h37_303, h37_304, h37_306, h37_307, h37_310, h37_311, h37_313, h37_316, h37_319, h37_320, h37_321, h37_322, h37_325, h37_327, h37_330, h37_332, h37_335, h37_336, h37_339, h37_340_0, h37_340_1, h37_340_b, Option.bind_some, Option.toList_some, Option.toList_none, List.cons_append, List.nil_append, nI_ltc, nI_lec, nI_eqc, nI_ne5, n5_ne, n5_lt, bI_0, bI_1, nI_add, pk_mul, if_pos, if_neg, ite_not, if_true, if_false, not_true_eq_false, not_false_eq_true, true_and, false_and, and_true, and_false, Nat.reduceAdd, Nat.reduceMul, c2]
  | succ m ih =>
    intro q w9 w10 hq
    have c3 := y_base (d + 3) L mu p e q he h2 (by omega)
    have c4 := y_size (d + 3) L mu p e q he h2 (by omega)
    have hsum : sumC (rk mu 1) s b (t * 3 + (q + 1)) = sumC (rk mu 1) s b (t * 3 + q) + szc (rk mu 1) s b (t * 3 + q) := rfl
    have skip : szc (rk mu 1) s b (t * 3 + q) = 0 → sumC (rk mu 1) s b (t * 3 + (q + 1)) = sumC (rk mu 1) s b (t * 3 + q) := fun h => by rw [hsum, h, Nat.add_zero]
    rcases hO.rvm he (q := q) (by omega) with g | ⟨-, sp, a, n, g1, g2, g3, g4, g5, g6, g7⟩
    · have hz := skip (szc_d (by omega) he hv5 (fun a n hc => by
        have hc1 := hc.1
        rcases hc.2.2 with ⟨-, -, hc, -⟩ | ⟨-, hc, -⟩
        · have := hc.symm
          rw [rk_8 (by omega), g, nI_ne5 (by have := hc1; omega)] at this
          exact this
        · rw [hk] at hc; exact absurd hc (by decide)))
      rw [g] at c3
      obtain ⟨w8', w9', w10', e1⟩ := ih (q + 1) (.inl (-5)) (.inl (mu 7 (e * 3 + q))) (by omega)
      refine ⟨w8', w9', w10', ?_⟩
      rw [← e1, hz, h37_99]
      simp (disch := first | omega | assumption) only [h37_0, h37_1, h37_3, h37_6, h37_7, h37_10, h37_11, h37_12, h37_13, h37_16, h37_17, h37_18, h37_20, h37_23, h37_24, h37_27, h37_30, h37_31, h37_32, h37_33, h37_36, h37_38, h37_40, h37_42, h37_43, h37_45, h37_48, h37_49, h37_52, h37_53, h37_55, h37_58, h37_59, h37_62, h37_63, h37_66, h37_68, h37_69, h37_72, h37_73, h37_76, h37_77_0, h37_77_1, h37_77_b, h37_78, h37_79, h37_83, h37_84, h37_87, h37_88, h37_89, h37_91, h37_94, h37_96, h37_97, h37_101, h37_102, h37_105, h37_107, h37_110, h37_111, h37_113, h37_116, h37_119, h37_120, h37_122, h37_124, h37_127, h37_129, h37_130, h37_132, h37_134, h37_137, h37_139, h37_141, h37_144, h37_145, h37_146, h37_148, h37_151, h37_152, h37_154, h37_155, h37_157, h37_158, h37_161, h37_163, h37_165, h37_166, h37_169, h37_171, h37_172, h37_175, h37_177, h37_179, h37_180, h37_181, h37_183, h37_184, h37_187, h37_188, h37_189, h37_191, h37_193, h37_194, h37_195, h37_196, h37_199, h37_200, h37_202, h37_203, h37_205, h37_206, h37_209, h37_210_0, h37_210_1, h37_210_b, h37_211, h37_213, h37_215, h37_216, h37_218, h37_221, h37_224, h37_226, h37_229, h37_230, h37_232, h37_235, h37_238, h37_239, h37_241, h37_242, h37_245, h37_248, h37_249, h37_251, h37_252, h37_255, h37_257, h37_258, h37_260, h37_263, h37_266, h37_268, h37_269, h37_272, h37_274, h37_275, h37_277, h37_278, h37_281, h37_282, h37_283, h37_285, h37_286, h37_289, h37_291, h37_292, h37_295, h37_296, h37_299, h37_300_0, h37_300_1, h37_300_b, h37_301, h37_303, h37_304, h37_306, h37_307, h37_310, h37_311, h37_313, h37_316, h37_319, h37_320, h37_321, h37_322, h37_325, h37_327, h37_330, h37_332, h37_335, h37_336, h37_339, h37_340_0, h37_340_1, h37_340_b, Option.bind_some, Option.toList_some, Option.toList_none, List.cons_append, List.nil_append, nI_ltc, nI_lec, nI_eqc, nI_ne5, n5_ne, n5_lt, bI_0, bI_1, nI_add, pk_mul, if_pos, if_neg, ite_not, if_true, if_false, not_true_eq_false, not_false_eq_true, true_and, false_and, and_true, and_false, Nat.reduceAdd, Nat.reduceMul, c1, c3, c4, n5_lt]
    · rw [g6] at c3
      rw [g7] at c4
      by_cases hsp : sp = s
      · subst hsp
        have hc : cov (rk mu 1) sp e q a n := ⟨g2, by omega, Or.inl ⟨hk, by rw [rk_6 (by omega)]; exact g5, by rw [rk_8 (by omega)]; exact g6, by rw [rk_7 (by omega)]; exact g7⟩⟩
        obtain ⟨A, E, r1, r2, r3, r4, r5, r6, r7⟩ := cov_in hO hs hb he (by omega) hbn hc
        have hadr := @adr_le sp
        have c5 := y_find_c (d + 4) L mu p hR sp e q a n a hs he (by omega) g5 g6 g7 g2 g3 (Nat.le_refl _) (by omega) (by omega)
        have c6 := y_find_c (d + 4) L mu p hR sp e q a n (a + n - 1) hs he (by omega) g5 g6 g7 g2 g3 (by omega) (by omega) (by omega)
        have hz := szc_v (b := b) (t := t) (by omega) he hv5 hc
        rw [hz] at hsum
        have hne : ¬nI n = nI 0 := by rw [nI_eqc (by omega) (by omega)]; omega
        have hrem := rem_z (a := a) (n := n) (by omega) (by omega) g4 (hX.1 e q a n he (by omega) hk (by rw [rk_7 (by omega)]; exact g7) (by rw [rk_8 (by omega)]; exact g6) g2 (by omega))
        have hs1 : nI (a + n) - nI 1 = nI (a + n - 1) := nI_sub (by omega)
        obtain ⟨w8', w9', w10', e1⟩ := ih (q + 1) (.inl (nI a)) (.inl (nI n)) (by omega)
        refine ⟨w8', w9', w10', ?_⟩
        rw [← e1, hsum, ← sub_two, h37_99]
        generalize hW : sumC (rk mu 1) sp b (t * 3 + q) = W
        rw [r1, r2]
        simp (disch := first | omega | assumption) only [h37_0, h37_1, h37_3, h37_6, h37_7, h37_10, h37_11, h37_12, h37_13, h37_16, h37_17, h37_18, h37_20, h37_23, h37_24, h37_27, h37_30, h37_31, h37_32, h37_33, h37_36, h37_38, h37_40, h37_42, h37_43, h37_45, h37_48, h37_49, h37_52, h37_53, h37_55, h37_58, h37_59, h37_62, h37_63, h37_66, h37_68, h37_69, h37_72, h37_73, h37_76, h37_77_0, h37_77_1, h37_77_b, h37_78, h37_79, h37_83, h37_84, h37_87, h37_88, h37_89, h37_91, h37_94, h37_96, h37_97, h37_101, h37_102, h37_105, h37_107, h37_110, h37_111, h37_113, h37_116, h37_119, h37_120, h37_122, h37_124, h37_127, h37_129, h37_130, h37_132, h37_134, h37_137, h37_139, h37_141, h37_144, h37_145, h37_146, h37_148, h37_151, h37_152, h37_154, h37_155, h37_157, h37_158, h37_161, h37_163, h37_165, h37_166, h37_169, h37_171, h37_172, h37_175, h37_177, h37_179, h37_180, h37_181, h37_183, h37_184, h37_187, h37_188, h37_189, h37_191, h37_193, h37_194, h37_195, h37_196, h37_199, h37_200, h37_202, h37_203, h37_205, h37_206, h37_209, h37_210_0, h37_210_1, h37_210_b, h37_211, h37_213, h37_215, h37_216, h37_218, h37_221, h37_224, h37_226, h37_229, h37_230, h37_232, h37_235, h37_238, h37_239, h37_241, h37_242, h37_245, h37_248, h37_249, h37_251, h37_252, h37_255, h37_257, h37_258, h37_260, h37_263, h37_266, h37_268, h37_269, h37_272, h37_274, h37_275, h37_277, h37_278, h37_281, h37_282, h37_283, h37_285, h37_286, h37_289, h37_291, h37_292, h37_295, h37_296, h37_299, h37_300_0, h37_300_1, h37_300_b, h37_301, h37_303, h37_304, h37_306, h37_307, h37_310, h37_311, h37_313, h37_316, h37_319, h37_320, h37_321, h37_322, h37_325, h37_327, h37_330, h37_332, h37_335, h37_336, h37_339, h37_340_0, h37_340_1, h37_340_b, Option.bind_some, Option.toList_some, Option.toList_none, List.cons_append, List.nil_append, nI_ltc, nI_lec, nI_eqc, nI_ne5, n5_ne, n5_lt, bI_0, bI_1, nI_add, pk_mul, if_pos, if_neg, ite_not, if_true, if_false, not_true_eq_false, not_false_eq_true, true_and, false_and, and_true, and_false, Nat.reduceAdd, Nat.reduceMul, c1, c3, c4, c5, c6, hs1, hrem, eq_self]
      · have h6 : ¬mu 6 (e * 3 + q) = nI s := by rw [g5, nI_eqc (by omega) (by omega)]; exact hsp
        have hz := skip (szc_d (by omega) he hv5 (fun a n hc => by
          rcases hc.2.2 with ⟨-, hc, -⟩ | ⟨-, hc, -⟩
          · rw [rk_6 (by omega)] at hc; exact h6 hc
          · rw [hk] at hc; exact absurd hc (by decide)))
        obtain ⟨v, c5, c6⟩ := y_find_n (d + 4) L mu p hR s e q a hs he (by omega) h6 g2
        obtain ⟨w8', w9', w10', e1⟩ := ih (q + 1) (.inl (nI a)) (.inl (nI n)) (by omega)
        refine ⟨w8', w9', w10', ?_⟩
        rw [← e1, hz, h37_99]
        simp (disch := first | omega | assumption) only [h37_0, h37_1, h37_3, h37_6, h37_7, h37_10, h37_11, h37_12, h37_13, h37_16, h37_17, h37_18, h37_20, h37_23, h37_24, h37_27, h37_30, h37_31, h37_32, h37_33, h37_36, h37_38, h37_40, h37_42, h37_43, h37_45, h37_48, h37_49, h37_52, h37_53, h37_55, h37_58, h37_59, h37_62, h37_63, h37_66, h37_68, h37_69, h37_72, h37_73, h37_76, h37_77_0, h37_77_1, h37_77_b, h37_78, h37_79, h37_83, h37_84, h37_87, h37_88, h37_89, h37_91, h37_94, h37_96, h37_97, h37_101, h37_102, h37_105, h37_107, h37_110, h37_111, h37_113, h37_116, h37_119, h37_120, h37_122, h37_124, h37_127, h37_129, h37_130, h37_132, h37_134, h37_137, h37_139, h37_141, h37_144, h37_145, h37_146, h37_148, h37_151, h37_152, h37_154, h37_155, h37_157, h37_158, h37_161, h37_163, h37_165, h37_166, h37_169, h37_171, h37_172, h37_175, h37_177, h37_179, h37_180, h37_181, h37_183, h37_184, h37_187, h37_188, h37_189, h37_191, h37_193, h37_194, h37_195, h37_196, h37_199, h37_200, h37_202, h37_203, h37_205, h37_206, h37_209, h37_210_0, h37_210_1, h37_210_b, h37_211, h37_213, h37_215, h37_216, h37_218, h37_221, h37_224, h37_226, h37_229, h37_230, h37_232, h37_235, h37_238, h37_239, h37_241, h37_242, h37_245, h37_248, h37_249, h37_251, h37_252, h37_255, h37_257, h37_258, h37_260, h37_263, h37_266, h37_268, h37_269, h37_272, h37_274, h37_275, h37_277, h37_278, h37_281, h37_282, h37_283, h37_285, h37_286, h37_289, h37_291, h37_292, h37_295, h37_296, h37_299, h37_300_0, h37_300_1, h37_300_b, h37_301, h37_303, h37_304, h37_306, h37_307, h37_310, h37_311, h37_313, h37_316, h37_319, h37_320, h37_321, h37_322, h37_325, h37_327, h37_330, h37_332, h37_335, h37_336, h37_339, h37_340_0, h37_340_1, h37_340_b, Option.bind_some, Option.toList_some, Option.toList_none, List.cons_append, List.nil_append, nI_ltc, nI_lec, nI_eqc, nI_ne5, n5_ne, n5_lt, bI_0, bI_1, nI_add, pk_mul, if_pos, if_neg, ite_not, if_true, if_false, not_true_eq_false, not_false_eq_true, true_and, false_and, and_true, and_false, Nat.reduceAdd, Nat.reduceMul, c1, c3, c4, c5, c6]
theorem y_busL (hR : Rel mu p) (b s : Nat) (hb : b < 13) (hk : b = 12 ∨ mu 2 b = nI 2) (hs : s < 2) : ∀ m t (w7 w8 w9 w10 : AV), t + m = 4 →
    zsem (d + 6) 37 81 [.inr (.inl (some 0)), .inl (nI b), .inl (nI s), .inl (fromI mu b s), .inl (extI mu b s), .inl (extI mu b s - nI (sumC (rk mu 1) s b (t * 3))), .inl (nI t), w7, w8, w9, w10] [] (HH L mu p) = some (some (.inl (nI 1)), HH L mu p) := by
  have hO := hR.2.2.1
  have hX := hR.2.2.2
  have hg := @grn_le s
  intro m
  induction m with
  | zero =>
    intro t w7 w8 w9 w10 h
    have : t = 4 := by omega
    subst this
    have c1 := y_freeRoom (d + 1) L mu p hO b s hb hk hs
    obtain ⟨F, hF, hF2⟩ : ∃ F, F < 10000 ∧ extI mu b s - nI (sumC (rk mu 1) s b 12) = nI F := by
      have ha := @adr_fac s
      rcases free_val hO hb hk hs with ⟨A', E', f1, f2, f3, f4, f5, f6⟩ | ⟨f1, f2, f3, f4, f5, f6⟩
      · exact ⟨grn s * E' - sumC (rk mu 1) s b 12, by omega, by rw [f5, nI_sub (by omega)]⟩
      · exact ⟨0, by omega, by rw [f5, f6 12 (by omega), nI_sub (by omega)]⟩
    rw [show 4 * 3 = 12 from rfl, hF2, h37_81]
    rw [hF2] at c1
    simp (disch := first | omega | assumption) only [h37_0, h37_1, h37_3, h37_6, h37_7, h37_10, h37_11, h37_12, h37_13, h37_16, h37_17, h37_18, h37_20, h37_23, h37_24, h37_27, h37_30, h37_31, h37_32, h37_33, h37_36, h37_38, h37_40, h37_42, h37_43, h37_45, h37_48, h37_49, h37_52, h37_53, h37_55, h37_58, h37_59, h37_62, h37_63, h37_66, h37_68, h37_69, h37_72, h37_73, h37_76, h37_77_0, h37_77_1, h37_77_b, h37_78, h37_79, h37_83, h37_84, h37_87, h37_88, h37_89, h37_91, h37_94, h37_96, h37_97, h37_101, h37_102, h37_105, h37_107, h37_110, h37_111, h37_113, h37_116, h37_119, h37_120, h37_122, h37_124, h37_127, h37_129, h37_130, h37_132, h37_134, h37_137, h37_139, h37_141, h37_144, h37_145, h37_146, h37_148, h37_151, h37_152, h37_154, h37_155, h37_157, h37_158, h37_161, h37_163, h37_165, h37_166, h37_169, h37_171, h37_172, h37_175, h37_177, h37_179, h37_180, h37_181, h37_183, h37_184, h37_187, h37_188, h37_189, h37_191, h37_193, h37_194, h37_195, h37_196, h37_199, h37_200, h37_202, h37_203, h37_205, h37_206, h37_209, h37_210_0, h37_210_1, h37_210_b, h37_211, h37_213, h37_215, h37_216, h37_218, h37_221, h37_224, h37_226, h37_229, h37_230, h37_232, h37_235, h37_238, h37_239, h37_241, h37_242, h37_245, h37_248, h37_249, h37_251, h37_252, h37_255, h37_257, h37_258, h37_260, h37_263, h37_266, h37_268, h37_269, h37_272, h37_274, h37_275, h37_277, h37_278, h37_281, h37_282, h37_283, h37_285, h37_286, h37_289, h37_291, h37_292, h37_295, h37_296, h37_299, h37_300_0, h37_300_1, h37_300_b, h37_301, h37_303, h37_304, h37_306, h37_307, h37_310, h37_311, h37_313, h37_316, h37_319, h37_320, h37_321, h37_322, h37_325, h37_327, h37_330, h37_332, h37_335, h37_336, h37_339, h37_340_0, h37_340_1, h37_340_b, Option.bind_some, Option.toList_some, Option.toList_none, List.cons_append, List.nil_append, nI_ltc, nI_lec, nI_eqc, nI_ne5, n5_ne, n5_lt, bI_0, bI_1, nI_add, pk_mul, if_pos, if_neg, ite_not, if_true, if_false, not_true_eq_false, not_false_eq_true, true_and, false_and, and_true, and_false, Nat.reduceAdd, Nat.reduceMul, c1, eq_self]
  | succ m ih =>
    intro t w7 w8 w9 w10 h
    have c0 := y_deviceIn (d + 3) L mu p b t hb hk (by omega)
    rw [h37_81]
    rcases sl_dev hO.1 hb (t := t) (by omega) with g | ⟨e, f1, f2, f3, f4, f5, f6⟩
    · rw [g] at c0
      have g5 : rk mu 1 5 (b * 4 + t) = -5 := by rw [rk_5 (by omega)]; exact g
      have e1 := ih (t + 1) (.inl (-5)) (.inl (nI 0)) w9 w10 (by omega)
      rw [sum_3, szc_e (by omega) g5, szc_e (by omega) g5, szc_e (by omega) g5] at e1
      simp only [Nat.add_zero] at e1
      rw [← e1]
      have e2 : zsem (d + 6) 37 99 [.inr (.inl (some 0)), .inl (nI b), .inl (nI s), .inl (fromI mu b s), .inl (extI mu b s), .inl (extI mu b s - nI (sumC (rk mu 1) s b (t * 3))), .inl (nI t), .inl (-5), .inl (nI 0), w9, w10] [] (HH L mu p) = zsem (d + 6) 37 81 [.inr (.inl (some 0)), .inl (nI b), .inl (nI s), .inl (fromI mu b s), .inl (extI mu b s), .inl (extI mu b s - nI (sumC (rk mu 1) s b (t * 3))), .inl (nI (t + 1)), .inl (-5), .inl (nI 0), w9, w10] [] (HH L mu p) := by
        rw [h37_99]
        simp (disch := first | omega | assumption) only [h37_0, h37_1, h37_3, h37_6, h37_7, h37_10, h37_11, h37_12, h37_13, h37_16, h37_17, h37_18, h37_20, h37_23, h37_24, h37_27, h37_30, h37_31, h37_32, h37_33, h37_36, h37_38, h37_40, h37_42, h37_43, h37_45, h37_48, h37_49, h37_52, h37_53, h37_55, h37_58, h37_59, h37_62, h37_63, h37_66, h37_68, h37_69, h37_72, h37_73, h37_76, h37_77_0, h37_77_1, h37_77_b, h37_78, h37_79, h37_83, h37_84, h37_87, h37_88, h37_89, h37_91, h37_94, h37_96, h37_97, h37_101, h37_102, h37_105, h37_107, h37_110, h37_111, h37_113, h37_116, h37_119, h37_120, h37_122, h37_124, h37_127, h37_129, h37_130, h37_132, h37_134, h37_137, h37_139, h37_141, h37_144, h37_145, h37_146, h37_148, h37_151, h37_152, h37_154, h37_155, h37_157, h37_158, h37_161, h37_163, h37_165, h37_166, h37_169, h37_171, h37_172, h37_175, h37_177, h37_179, h37_180, h37_181, h37_183, h37_184, h37_187, h37_188, h37_189, h37_191, h37_193, h37_194, h37_195, h37_196, h37_199, h37_200, h37_202, h37_203, h37_205, h37_206, h37_209, h37_210_0, h37_210_1, h37_210_b, h37_211, h37_213, h37_215, h37_216, h37_218, h37_221, h37_224, h37_226, h37_229, h37_230, h37_232, h37_235, h37_238, h37_239, h37_241, h37_242, h37_245, h37_248, h37_249, h37_251, h37_252, h37_255, h37_257, h37_258, h37_260, h37_263, h37_266, h37_268, h37_269, h37_272, h37_274, h37_275, h37_277, h37_278, h37_281, h37_282, h37_283, h37_285, h37_286, h37_289, h37_291, h37_292, h37_295, h37_296, h37_299, h37_300_0, h37_300_1, h37_300_b, h37_301, h37_303, h37_304, h37_306, h37_307, h37_310, h37_311, h37_313, h37_316, h37_319, h37_320, h37_321, h37_322, h37_325, h37_327, h37_330, h37_332, h37_335, h37_336, h37_339, h37_340_0, h37_340_1, h37_340_b, Option.bind_some, Option.toList_some, Option.toList_none, List.cons_append, List.nil_append, nI_ltc, nI_lec, nI_eqc, nI_ne5, n5_ne, n5_lt, bI_0, bI_1, nI_add, pk_mul, if_pos, if_neg, ite_not, if_true, if_false, not_true_eq_false, not_false_eq_true, true_and, false_and, and_true, and_false, Nat.reduceAdd, Nat.reduceMul, n5_lt]
      rw [← e2]
      simp (disch := first | omega | assumption) only [h37_0, h37_1, h37_3, h37_6, h37_7, h37_10, h37_11, h37_12, h37_13, h37_16, h37_17, h37_18, h37_20, h37_23, h37_24, h37_27, h37_30, h37_31, h37_32, h37_33, h37_36, h37_38, h37_40, h37_42, h37_43, h37_45, h37_48, h37_49, h37_52, h37_53, h37_55, h37_58, h37_59, h37_62, h37_63, h37_66, h37_68, h37_69, h37_72, h37_73, h37_76, h37_77_0, h37_77_1, h37_77_b, h37_78, h37_79, h37_83, h37_84, h37_87, h37_88, h37_89, h37_91, h37_94, h37_96, h37_97, h37_101, h37_102, h37_105, h37_107, h37_110, h37_111, h37_113, h37_116, h37_119, h37_120, h37_122, h37_124, h37_127, h37_129, h37_130, h37_132, h37_134, h37_137, h37_139, h37_141, h37_144, h37_145, h37_146, h37_148, h37_151, h37_152, h37_154, h37_155, h37_157, h37_158, h37_161, h37_163, h37_165, h37_166, h37_169, h37_171, h37_172, h37_175, h37_177, h37_179, h37_180, h37_181, h37_183, h37_184, h37_187, h37_188, h37_189, h37_191, h37_193, h37_194, h37_195, h37_196, h37_199, h37_200, h37_202, h37_203, h37_205, h37_206, h37_209, h37_210_0, h37_210_1, h37_210_b, h37_211, h37_213, h37_215, h37_216, h37_218, h37_221, h37_224, h37_226, h37_229, h37_230, h37_232, h37_235, h37_238, h37_239, h37_241, h37_242, h37_245, h37_248, h37_249, h37_251, h37_252, h37_255, h37_257, h37_258, h37_260, h37_263, h37_266, h37_268, h37_269, h37_272, h37_274, h37_275, h37_277, h37_278, h37_281, h37_282, h37_283, h37_285, h37_286, h37_289, h37_291, h37_292, h37_295, h37_296, h37_299, h37_300_0, h37_300_1, h37_300_b, h37_301, h37_303, h37_304, h37_306, h37_307, h37_310, h37_311, h37_313, h37_316, h37_319, h37_320, h37_321, h37_322, h37_325, h37_327, h37_330, h37_332, h37_335, h37_336, h37_339, h37_340_0, h37_340_1, h37_340_b, Option.bind_some, Option.toList_some, Option.toList_none, List.cons_append, List.nil_append, nI_ltc, nI_lec, nI_eqc, nI_ne5, n5_ne, n5_lt, bI_0, bI_1, nI_add, pk_mul, if_pos, if_neg, ite_not, if_true, if_false, not_true_eq_false, not_false_eq_true, true_and, false_and, and_true, and_false, Nat.reduceAdd, Nat.reduceMul, c0]
    · rw [f2] at c0
      have hv5 : rk mu 1 5 (b * 4 + t) = nI e := by rw [rk_5 (by omega)]; exact f2
      by_cases h1 : mu 2 e = nI 1
      · obtain ⟨w8', w9', w10', e2⟩ := y_busC d L mu p hR b s t e hb hs (by omega) f1 f2 h1 f6 3 0 w9 w10 rfl
        have e1 := ih (t + 1) (.inl (nI e)) w8' w9' w10' (by omega)
        simp only [Nat.add_zero] at e2
        rw [← e1, ← e2]
        simp (disch := first | omega | assumption) only [h37_0, h37_1, h37_3, h37_6, h37_7, h37_10, h37_11, h37_12, h37_13, h37_16, h37_17, h37_18, h37_20, h37_23, h37_24, h37_27, h37_30, h37_31, h37_32, h37_33, h37_36, h37_38, h37_40, h37_42, h37_43, h37_45, h37_48, h37_49, h37_52, h37_53, h37_55, h37_58, h37_59, h37_62, h37_63, h37_66, h37_68, h37_69, h37_72, h37_73, h37_76, h37_77_0, h37_77_1, h37_77_b, h37_78, h37_79, h37_83, h37_84, h37_87, h37_88, h37_89, h37_91, h37_94, h37_96, h37_97, h37_101, h37_102, h37_105, h37_107, h37_110, h37_111, h37_113, h37_116, h37_119, h37_120, h37_122, h37_124, h37_127, h37_129, h37_130, h37_132, h37_134, h37_137, h37_139, h37_141, h37_144, h37_145, h37_146, h37_148, h37_151, h37_152, h37_154, h37_155, h37_157, h37_158, h37_161, h37_163, h37_165, h37_166, h37_169, h37_171, h37_172, h37_175, h37_177, h37_179, h37_180, h37_181, h37_183, h37_184, h37_187, h37_188, h37_189, h37_191, h37_193, h37_194, h37_195, h37_196, h37_199, h37_200, h37_202, h37_203, h37_205, h37_206, h37_209, h37_210_0, h37_210_1, h37_210_b, h37_211, h37_213, h37_215, h37_216, h37_218, h37_221, h37_224, h37_226, h37_229, h37_230, h37_232, h37_235, h37_238, h37_239, h37_241, h37_242, h37_245, h37_248, h37_249, h37_251, h37_252, h37_255, h37_257, h37_258, h37_260, h37_263, h37_266, h37_268, h37_269, h37_272, h37_274, h37_275, h37_277, h37_278, h37_281, h37_282, h37_283, h37_285, h37_286, h37_289, h37_291, h37_292, h37_295, h37_296, h37_299, h37_300_0, h37_300_1, h37_300_b, h37_301, h37_303, h37_304, h37_306, h37_307, h37_310, h37_311, h37_313, h37_316, h37_319, h37_320, h37_321, h37_322, h37_325, h37_327, h37_330, h37_332, h37_335, h37_336, h37_339, h37_340_0, h37_340_1, h37_340_b, Option.bind_some, Option.toList_some, Option.toList_none, List.cons_append, List.nil_append, nI_ltc, nI_lec, nI_eqc, nI_ne5, n5_ne, n5_lt, bI_0, bI_1, nI_add, pk_mul, if_pos, if_neg, ite_not, if_true, if_false, not_true_eq_false, not_false_eq_true, true_and, false_and, and_true, and_false, Nat.reduceAdd, Nat.reduceMul, c0]
      · have h2 : mu 2 e = nI 2 := by
          rcases hO.kinds f1 with q | q | q
          · exact absurd q f3
          · exact absurd q h1
          · exact q
        have c1 := y_isCard (d + 2) L mu p e f1
        rw [bI_f h1] at c1
        have c2 := y_isBridge (d + 2) L mu p e f1
        rw [bI_t h2] at c2
        have c3 := y_ws (d + 3) L mu p e s f1 h2 hs
        have c4 := y_wb (d + 3) L mu p e s f1 h2 hs
        have c5 := y_first (d + 4) L mu p e f1 h2
        have c6 := y_grain (d + 5) L mu p s hs
        have z1 : szc (rk mu 1) s b (t * 3 + 1) = 0 := szc_d (by omega) f1 hv5 (fun a n hc => by
          rcases hc.2.2 with ⟨hc, -⟩ | ⟨hc, -⟩
          · rw [rk_2 f1] at hc; exact h1 hc
          · omega)
        have z2 : szc (rk mu 1) s b (t * 3 + 2) = 0 := szc_d (by omega) f1 hv5 (fun a n hc => by
          rcases hc.2.2 with ⟨hc, -⟩ | ⟨hc, -⟩
          · rw [rk_2 f1] at hc; exact h1 hc
          · omega)
        rcases (hO.W hs).2.1 e f1 with ⟨g1, g2⟩ | ⟨a, n, g1, g2, g3, g4⟩
        · have g2' := g2
          rw [rk_11 (by omega)] at g2
          rw [g2] at c3
          have z0 : szc (rk mu 1) s b (t * 3 + 0) = 0 := szc_d (by omega) f1 hv5 (fun a n hc => by
            rcases hc.2.2 with ⟨hc', -⟩ | ⟨-, -, hc', -⟩
            · rw [rk_2 f1] at hc'; exact h1 hc'
            · rw [g1, n5_ne (by have := hc.1; omega)] at hc'; exact hc')
          have e1 := ih (t + 1) (.inl (nI e)) (.inl (nI 0)) w9 w10 (by omega)
          rw [sum_3, z0, z1, z2] at e1
          simp only [Nat.add_zero] at e1
          rw [← e1]
          have e2 : zsem (d + 6) 37 99 [.inr (.inl (some 0)), .inl (nI b), .inl (nI s), .inl (fromI mu b s), .inl (extI mu b s), .inl (extI mu b s - nI (sumC (rk mu 1) s b (t * 3))), .inl (nI t), .inl (nI e), .inl (nI 0), w9, w10] [] (HH L mu p) = zsem (d + 6) 37 81 [.inr (.inl (some 0)), .inl (nI b), .inl (nI s), .inl (fromI mu b s), .inl (extI mu b s), .inl (extI mu b s - nI (sumC (rk mu 1) s b (t * 3))), .inl (nI (t + 1)), .inl (nI e), .inl (nI 0), w9, w10] [] (HH L mu p) := by
            rw [h37_99]
            simp (disch := first | omega | assumption) only [h37_0, h37_1, h37_3, h37_6, h37_7, h37_10, h37_11, h37_12, h37_13, h37_16, h37_17, h37_18, h37_20, h37_23, h37_24, h37_27, h37_30, h37_31, h37_32, h37_33, h37_36, h37_38, h37_40, h37_42, h37_43, h37_45, h37_48, h37_49, h37_52, h37_53, h37_55, h37_58, h37_59, h37_62, h37_63, h37_66, h37_68, h37_69, h37_72, h37_73, h37_76, h37_77_0, h37_77_1, h37_77_b, h37_78, h37_79, h37_83, h37_84, h37_87, h37_88, h37_89, h37_91, h37_94, h37_96, h37_97, h37_101, h37_102, h37_105, h37_107, h37_110, h37_111, h37_113, h37_116, h37_119, h37_120, h37_122, h37_124, h37_127, h37_129, h37_130, h37_132, h37_134, h37_137, h37_139, h37_141, h37_144, h37_145, h37_146, h37_148, h37_151, h37_152, h37_154, h37_155, h37_157, h37_158, h37_161, h37_163, h37_165, h37_166, h37_169, h37_171, h37_172, h37_175, h37_177, h37_179, h37_180, h37_181, h37_183, h37_184, h37_187, h37_188, h37_189, h37_191, h37_193, h37_194, h37_195, h37_196, h37_199, h37_200, h37_202, h37_203, h37_205, h37_206, h37_209, h37_210_0, h37_210_1, h37_210_b, h37_211, h37_213, h37_215, h37_216, h37_218, h37_221, h37_224, h37_226, h37_229, h37_230, h37_232, h37_235, h37_238, h37_239, h37_241, h37_242, h37_245, h37_248, h37_249, h37_251, h37_252, h37_255, h37_257, h37_258, h37_260, h37_263, h37_266, h37_268, h37_269, h37_272, h37_274, h37_275, h37_277, h37_278, h37_281, h37_282, h37_283, h37_285, h37_286, h37_289, h37_291, h37_292, h37_295, h37_296, h37_299, h37_300_0, h37_300_1, h37_300_b, h37_301, h37_303, h37_304, h37_306, h37_307, h37_310, h37_311, h37_313, h37_316, h37_319, h37_320, h37_321, h37_322, h37_325, h37_327, h37_330, h37_332, h37_335, h37_336, h37_339, h37_340_0, h37_340_1, h37_340_b, Option.bind_some, Option.toList_some, Option.toList_none, List.cons_append, List.nil_append, nI_ltc, nI_lec, nI_eqc, nI_ne5, n5_ne, n5_lt, bI_0, bI_1, nI_add, pk_mul, if_pos, if_neg, ite_not, if_true, if_false, not_true_eq_false, not_false_eq_true, true_and, false_and, and_true, and_false, Nat.reduceAdd, Nat.reduceMul, c1, c2, c3]
          rw [← e2]
          simp (disch := first | omega | assumption) only [h37_0, h37_1, h37_3, h37_6, h37_7, h37_10, h37_11, h37_12, h37_13, h37_16, h37_17, h37_18, h37_20, h37_23, h37_24, h37_27, h37_30, h37_31, h37_32, h37_33, h37_36, h37_38, h37_40, h37_42, h37_43, h37_45, h37_48, h37_49, h37_52, h37_53, h37_55, h37_58, h37_59, h37_62, h37_63, h37_66, h37_68, h37_69, h37_72, h37_73, h37_76, h37_77_0, h37_77_1, h37_77_b, h37_78, h37_79, h37_83, h37_84, h37_87, h37_88, h37_89, h37_91, h37_94, h37_96, h37_97, h37_101, h37_102, h37_105, h37_107, h37_110, h37_111, h37_113, h37_116, h37_119, h37_120, h37_122, h37_124, h37_127, h37_129, h37_130, h37_132, h37_134, h37_137, h37_139, h37_141, h37_144, h37_145, h37_146, h37_148, h37_151, h37_152, h37_154, h37_155, h37_157, h37_158, h37_161, h37_163, h37_165, h37_166, h37_169, h37_171, h37_172, h37_175, h37_177, h37_179, h37_180, h37_181, h37_183, h37_184, h37_187, h37_188, h37_189, h37_191, h37_193, h37_194, h37_195, h37_196, h37_199, h37_200, h37_202, h37_203, h37_205, h37_206, h37_209, h37_210_0, h37_210_1, h37_210_b, h37_211, h37_213, h37_215, h37_216, h37_218, h37_221, h37_224, h37_226, h37_229, h37_230, h37_232, h37_235, h37_238, h37_239, h37_241, h37_242, h37_245, h37_248, h37_249, h37_251, h37_252, h37_255, h37_257, h37_258, h37_260, h37_263, h37_266, h37_268, h37_269, h37_272, h37_274, h37_275, h37_277, h37_278, h37_281, h37_282, h37_283, h37_285, h37_286, h37_289, h37_291, h37_292, h37_295, h37_296, h37_299, h37_300_0, h37_300_1, h37_300_b, h37_301, h37_303, h37_304, h37_306, h37_307, h37_310, h37_311, h37_313, h37_316, h37_319, h37_320, h37_321, h37_322, h37_325, h37_327, h37_330, h37_332, h37_335, h37_336, h37_339, h37_340_0, h37_340_1, h37_340_b, Option.bind_some, Option.toList_some, Option.toList_none, List.cons_append, List.nil_append, nI_ltc, nI_lec, nI_eqc, nI_ne5, n5_ne, n5_lt, bI_0, bI_1, nI_add, pk_mul, if_pos, if_neg, ite_not, if_true, if_false, not_true_eq_false, not_false_eq_true, true_and, false_and, and_true, and_false, Nat.reduceAdd, Nat.reduceMul, c0]
        · have hc : cov (rk mu 1) s e 0 a n := ⟨g1, g2, Or.inr ⟨rfl, by rw [rk_2 f1]; exact h2, g3, g4⟩⟩
          obtain ⟨A, E, r1, r2, r3, r4, r5, r6, r7⟩ := cov_in hO hs hb f1 (by omega) f6 hc
          have hadr := @adr_le s
          have g3' := g3
          have g4' := g4
          rw [rk_10 (by omega)] at g3'
          rw [rk_11 (by omega)] at g4'
          rw [g3'] at c4
          rw [g4'] at c3
          obtain ⟨x, hx, hx2⟩ : ∃ x, mu 12 e = nI x ∧ x ≤ 15 := by
            rcases num_case hO f1 with ⟨q, -⟩ | ⟨x, y, q1, q2, q3, q4, q5, -⟩
            · have := hX.2 e s f1 hs (by rw [g3, nI_ne5 (by omega)]; exact id)
              rw [rk_12 f1] at this
              exact absurd q this
            · exact ⟨x, q1, by omega⟩
          rw [hx] at c5
          have z0 := szc_v (b := b) (t := t) (by omega) f1 hv5 hc
          have hg0 : ¬nI (grn s) = nI 0 := by rw [nI_eqc (by omega) (by omega)]; omega
          have hrem := rem_z (a := a) (n := grn s) (by omega) (by omega) (by omega) r7
          have e1 := ih (t + 1) (.inl (nI e)) (.inl (nI a)) w9 w10 (by omega)
          rw [sum_3, z0, z1, z2] at e1
          simp only [Nat.add_zero] at e1
          rw [← e1]
          have e2 : zsem (d + 6) 37 99 [.inr (.inl (some 0)), .inl (nI b), .inl (nI s), .inl (fromI mu b s), .inl (extI mu b s), .inl (extI mu b s - nI (sumC (rk mu 1) s b (t * 3))), .inl (nI t), .inl (nI e), .inl (nI 0), w9, w10] [] (HH L mu p) = zsem (d + 6) 37 81 [.inr (.inl (some 0)), .inl (nI b), .inl (nI s), .inl (fromI mu b s), .inl (extI mu b s), .inl (extI mu b s - nI (sumC (rk mu 1) s b (t * 3) + n)), .inl (nI (t + 1)), .inl (nI e), .inl (nI a), w9, w10] [] (HH L mu p) := by
            rw [← sub_two, h37_99]
            generalize hW : sumC (rk mu 1) s b (t * 3) = W
            rw [r1, r2]
            simp (disch := first | omega | assumption) only [h37_0, h37_1, h37_3, h37_6, h37_7, h37_10, h37_11, h37_12, h37_13, h37_16, h37_17, h37_18, h37_20, h37_23, h37_24, h37_27, h37_30, h37_31, h37_32, h37_33, h37_36, h37_38, h37_40, h37_42, h37_43, h37_45, h37_48, h37_49, h37_52, h37_53, h37_55, h37_58, h37_59, h37_62, h37_63, h37_66, h37_68, h37_69, h37_72, h37_73, h37_76, h37_77_0, h37_77_1, h37_77_b, h37_78, h37_79, h37_83, h37_84, h37_87, h37_88, h37_89, h37_91, h37_94, h37_96, h37_97, h37_101, h37_102, h37_105, h37_107, h37_110, h37_111, h37_113, h37_116, h37_119, h37_120, h37_122, h37_124, h37_127, h37_129, h37_130, h37_132, h37_134, h37_137, h37_139, h37_141, h37_144, h37_145, h37_146, h37_148, h37_151, h37_152, h37_154, h37_155, h37_157, h37_158, h37_161, h37_163, h37_165, h37_166, h37_169, h37_171, h37_172, h37_175, h37_177, h37_179, h37_180, h37_181, h37_183, h37_184, h37_187, h37_188, h37_189, h37_191, h37_193, h37_194, h37_195, h37_196, h37_199, h37_200, h37_202, h37_203, h37_205, h37_206, h37_209, h37_210_0, h37_210_1, h37_210_b, h37_211, h37_213, h37_215, h37_216, h37_218, h37_221, h37_224, h37_226, h37_229, h37_230, h37_232, h37_235, h37_238, h37_239, h37_241, h37_242, h37_245, h37_248, h37_249, h37_251, h37_252, h37_255, h37_257, h37_258, h37_260, h37_263, h37_266, h37_268, h37_269, h37_272, h37_274, h37_275, h37_277, h37_278, h37_281, h37_282, h37_283, h37_285, h37_286, h37_289, h37_291, h37_292, h37_295, h37_296, h37_299, h37_300_0, h37_300_1, h37_300_b, h37_301, h37_303, h37_304, h37_306, h37_307, h37_310, h37_311, h37_313, h37_316, h37_319, h37_320, h37_321, h37_322, h37_325, h37_327, h37_330, h37_332, h37_335, h37_336, h37_339, h37_340_0, h37_340_1, h37_340_b, Option.bind_some, Option.toList_some, Option.toList_none, List.cons_append, List.nil_append, nI_ltc, nI_lec, nI_eqc, nI_ne5, n5_ne, n5_lt, bI_0, bI_1, nI_add, pk_mul, if_pos, if_neg, ite_not, if_true, if_false, not_true_eq_false, not_false_eq_true, true_and, false_and, and_true, and_false, Nat.reduceAdd, Nat.reduceMul, c1, c2, c3, c4, c5, c6, hrem]
          rw [← e2]
          simp (disch := first | omega | assumption) only [h37_0, h37_1, h37_3, h37_6, h37_7, h37_10, h37_11, h37_12, h37_13, h37_16, h37_17, h37_18, h37_20, h37_23, h37_24, h37_27, h37_30, h37_31, h37_32, h37_33, h37_36, h37_38, h37_40, h37_42, h37_43, h37_45, h37_48, h37_49, h37_52, h37_53, h37_55, h37_58, h37_59, h37_62, h37_63, h37_66, h37_68, h37_69, h37_72, h37_73, h37_76, h37_77_0, h37_77_1, h37_77_b, h37_78, h37_79, h37_83, h37_84, h37_87, h37_88, h37_89, h37_91, h37_94, h37_96, h37_97, h37_101, h37_102, h37_105, h37_107, h37_110, h37_111, h37_113, h37_116, h37_119, h37_120, h37_122, h37_124, h37_127, h37_129, h37_130, h37_132, h37_134, h37_137, h37_139, h37_141, h37_144, h37_145, h37_146, h37_148, h37_151, h37_152, h37_154, h37_155, h37_157, h37_158, h37_161, h37_163, h37_165, h37_166, h37_169, h37_171, h37_172, h37_175, h37_177, h37_179, h37_180, h37_181, h37_183, h37_184, h37_187, h37_188, h37_189, h37_191, h37_193, h37_194, h37_195, h37_196, h37_199, h37_200, h37_202, h37_203, h37_205, h37_206, h37_209, h37_210_0, h37_210_1, h37_210_b, h37_211, h37_213, h37_215, h37_216, h37_218, h37_221, h37_224, h37_226, h37_229, h37_230, h37_232, h37_235, h37_238, h37_239, h37_241, h37_242, h37_245, h37_248, h37_249, h37_251, h37_252, h37_255, h37_257, h37_258, h37_260, h37_263, h37_266, h37_268, h37_269, h37_272, h37_274, h37_275, h37_277, h37_278, h37_281, h37_282, h37_283, h37_285, h37_286, h37_289, h37_291, h37_292, h37_295, h37_296, h37_299, h37_300_0, h37_300_1, h37_300_b, h37_301, h37_303, h37_304, h37_306, h37_307, h37_310, h37_311, h37_313, h37_316, h37_319, h37_320, h37_321, h37_322, h37_325, h37_327, h37_330, h37_332, h37_335, h37_336, h37_339, h37_340_0, h37_340_1, h37_340_b, Option.bind_some, Option.toList_some, Option.toList_none, List.cons_append, List.nil_append, nI_ltc, nI_lec, nI_eqc, nI_ne5, n5_ne, n5_lt, bI_0, bI_1, nI_add, pk_mul, if_pos, if_neg, ite_not, if_true, if_false, not_true_eq_false, not_false_eq_true, true_and, false_and, and_true, and_false, Nat.reduceAdd, Nat.reduceMul, c0]
theorem y_bus (hR : Rel mu p) (b s : Nat) (hb : b < 13) (hk : b = 12 ∨ mu 2 b = nI 2) (hs : s < 2) : zsem (d + 6) 37 0 [.inr (.inl (some 0)), .inl (nI b), .inl (nI s), .inr (.inl none), .inr (.inl none), .inr (.inl none), .inr (.inl none), .inr (.inl none), .inr (.inl none), .inr (.inl none), .inr (.inl none)] [] (HH L mu p) = some (some (.inl (nI 1)), HH L mu p) := by
  have hO := hR.2.2.1
  have hg := @grn_le s
  have ha := @adr_fac s
  have e := y_busL d L mu p hR b s hb hk hs 4 0 (.inr (.inl none)) (.inr (.inl none)) (.inr (.inl none)) (.inr (.inl none)) rfl
  have s0 : extI mu b s - nI (sumC (rk mu 1) s b (0 * 3)) = extI mu b s := by
    show extI mu b s - nI 0 = _
    exact Int32.sub_zero _
  rw [s0] at e
  have c6 := y_grain (d + 5) L mu p s hs
  have hg0 : ¬nI (grn s) = nI 0 := by rw [nI_eqc (by omega) (by omega)]; omega
  rw [← e]
  by_cases h12 : b = 12
  · subst h12
    have c7 := y_all (d + 5) L mu p s hs
    have hrem := rem_z (a := adr s) (n := grn s) (by omega) (by omega) (by omega) ha.2.2.2
    have ha0 : ¬nI (adr s) = nI 0 := by rw [nI_eqc (by omega) (by omega)]; omega
    unfold fromI extI
    rw [if_pos rfl, if_pos rfl]
    simp (disch := first | omega | assumption) only [h37_0, h37_1, h37_3, h37_6, h37_7, h37_10, h37_11, h37_12, h37_13, h37_16, h37_17, h37_18, h37_20, h37_23, h37_24, h37_27, h37_30, h37_31, h37_32, h37_33, h37_36, h37_38, h37_40, h37_42, h37_43, h37_45, h37_48, h37_49, h37_52, h37_53, h37_55, h37_58, h37_59, h37_62, h37_63, h37_66, h37_68, h37_69, h37_72, h37_73, h37_76, h37_77_0, h37_77_1, h37_77_b, h37_78, h37_79, h37_83, h37_84, h37_87, h37_88, h37_89, h37_91, h37_94, h37_96, h37_97, h37_101, h37_102, h37_105, h37_107, h37_110, h37_111, h37_113, h37_116, h37_119, h37_120, h37_122, h37_124, h37_127, h37_129, h37_130, h37_132, h37_134, h37_137, h37_139, h37_141, h37_144, h37_145, h37_146, h37_148, h37_151, h37_152, h37_154, h37_155, h37_157, h37_158, h37_161, h37_163, h37_165, h37_166, h37_169, h37_171, h37_172, h37_175, h37_177, h37_179, h37_180, h37_181, h37_183, h37_184, h37_187, h37_188, h37_189, h37_191, h37_193, h37_194, h37_195, h37_196, h37_199, h37_200, h37_202, h37_203, h37_205, h37_206, h37_209, h37_210_0, h37_210_1, h37_210_b, h37_211, h37_213, h37_215, h37_216, h37_218, h37_221, h37_224, h37_226, h37_229, h37_230, h37_232, h37_235, h37_238, h37_239, h37_241, h37_242, h37_245, h37_248, h37_249, h37_251, h37_252, h37_255, h37_257, h37_258, h37_260, h37_263, h37_266, h37_268, h37_269, h37_272, h37_274, h37_275, h37_277, h37_278, h37_281, h37_282, h37_283, h37_285, h37_286, h37_289, h37_291, h37_292, h37_295, h37_296, h37_299, h37_300_0, h37_300_1, h37_300_b, h37_301, h37_303, h37_304, h37_306, h37_307, h37_310, h37_311, h37_313, h37_316, h37_319, h37_320, h37_321, h37_322, h37_325, h37_327, h37_330, h37_332, h37_335, h37_336, h37_339, h37_340_0, h37_340_1, h37_340_b, Option.bind_some, Option.toList_some, Option.toList_none, List.cons_append, List.nil_append, nI_ltc, nI_lec, nI_eqc, nI_ne5, n5_ne, n5_lt, bI_0, bI_1, nI_add, pk_mul, if_pos, if_neg, ite_not, if_true, if_false, not_true_eq_false, not_false_eq_true, true_and, false_and, and_true, and_false, Nat.reduceAdd, Nat.reduceMul, c6, c7, hrem, eq_self]
  · have hk2 := hk.resolve_left h12
    have c1 := y_wb (d + 3) L mu p b s (by omega) hk2 hs
    have c2 := y_ws (d + 3) L mu p b s (by omega) hk2 hs
    unfold fromI extI
    rw [if_neg h12, if_neg h12]
    rcases free_val hO hb hk hs with ⟨A', E', f1, f2, f3, f4, f5, f6⟩ | ⟨f1, f2, f3, f4, f5, f6⟩
    · have hf : mu 10 (b * 2 + s) = nI (grn s * A') := by
        rcases f1 with q | ⟨-, -, -, -, q, -⟩
        · exact absurd q.1 h12
        · rw [← rk_10 (mu := mu) (by omega)]; exact q
      have he : mu 11 (b * 2 + s) = nI (grn s * E') := by
        unfold extI at f5
        rw [if_neg h12] at f5
        exact f5
      rw [hf] at c1
      rw [he] at c2
      rw [hf, he]
      have hE0 : 0 < grn s * E' := Nat.mul_pos (by omega) f2
      have hrem := rem_z (a := grn s * E') (n := grn s) (by omega) (by omega) (by omega) (Nat.mul_mod_right _ _)
      simp (disch := first | omega | assumption) only [h37_0, h37_1, h37_3, h37_6, h37_7, h37_10, h37_11, h37_12, h37_13, h37_16, h37_17, h37_18, h37_20, h37_23, h37_24, h37_27, h37_30, h37_31, h37_32, h37_33, h37_36, h37_38, h37_40, h37_42, h37_43, h37_45, h37_48, h37_49, h37_52, h37_53, h37_55, h37_58, h37_59, h37_62, h37_63, h37_66, h37_68, h37_69, h37_72, h37_73, h37_76, h37_77_0, h37_77_1, h37_77_b, h37_78, h37_79, h37_83, h37_84, h37_87, h37_88, h37_89, h37_91, h37_94, h37_96, h37_97, h37_101, h37_102, h37_105, h37_107, h37_110, h37_111, h37_113, h37_116, h37_119, h37_120, h37_122, h37_124, h37_127, h37_129, h37_130, h37_132, h37_134, h37_137, h37_139, h37_141, h37_144, h37_145, h37_146, h37_148, h37_151, h37_152, h37_154, h37_155, h37_157, h37_158, h37_161, h37_163, h37_165, h37_166, h37_169, h37_171, h37_172, h37_175, h37_177, h37_179, h37_180, h37_181, h37_183, h37_184, h37_187, h37_188, h37_189, h37_191, h37_193, h37_194, h37_195, h37_196, h37_199, h37_200, h37_202, h37_203, h37_205, h37_206, h37_209, h37_210_0, h37_210_1, h37_210_b, h37_211, h37_213, h37_215, h37_216, h37_218, h37_221, h37_224, h37_226, h37_229, h37_230, h37_232, h37_235, h37_238, h37_239, h37_241, h37_242, h37_245, h37_248, h37_249, h37_251, h37_252, h37_255, h37_257, h37_258, h37_260, h37_263, h37_266, h37_268, h37_269, h37_272, h37_274, h37_275, h37_277, h37_278, h37_281, h37_282, h37_283, h37_285, h37_286, h37_289, h37_291, h37_292, h37_295, h37_296, h37_299, h37_300_0, h37_300_1, h37_300_b, h37_301, h37_303, h37_304, h37_306, h37_307, h37_310, h37_311, h37_313, h37_316, h37_319, h37_320, h37_321, h37_322, h37_325, h37_327, h37_330, h37_332, h37_335, h37_336, h37_339, h37_340_0, h37_340_1, h37_340_b, Option.bind_some, Option.toList_some, Option.toList_none, List.cons_append, List.nil_append, nI_ltc, nI_lec, nI_eqc, nI_ne5, n5_ne, n5_lt, bI_0, bI_1, nI_add, pk_mul, if_pos, if_neg, ite_not, if_true, if_false, not_true_eq_false, not_false_eq_true, true_and, false_and, and_true, and_false, Nat.reduceAdd, Nat.reduceMul, c1, c2, c6, hrem, h12, eq_self]
    · rw [f3] at c1
      rw [f4] at c2
      rw [f3, f4]
      have hrem := rem_z (a := 0) (n := grn s) (by omega) (by omega) (by omega) (Nat.zero_mod _)
      simp (disch := first | omega | assumption) only [h37_0, h37_1, h37_3, h37_6, h37_7, h37_10, h37_11, h37_12, h37_13, h37_16, h37_17, h37_18, h37_20, h37_23, h37_24, h37_27, h37_30, h37_31, h37_32, h37_33, h37_36, h37_38, h37_40, h37_42, h37_43, h37_45, h37_48, h37_49, h37_52, h37_53, h37_55, h37_58, h37_59, h37_62, h37_63, h37_66, h37_68, h37_69, h37_72, h37_73, h37_76, h37_77_0, h37_77_1, h37_77_b, h37_78, h37_79, h37_83, h37_84, h37_87, h37_88, h37_89, h37_91, h37_94, h37_96, h37_97, h37_101, h37_102, h37_105, h37_107, h37_110, h37_111, h37_113, h37_116, h37_119, h37_120, h37_122, h37_124, h37_127, h37_129, h37_130, h37_132, h37_134, h37_137, h37_139, h37_141, h37_144, h37_145, h37_146, h37_148, h37_151, h37_152, h37_154, h37_155, h37_157, h37_158, h37_161, h37_163, h37_165, h37_166, h37_169, h37_171, h37_172, h37_175, h37_177, h37_179, h37_180, h37_181, h37_183, h37_184, h37_187, h37_188, h37_189, h37_191, h37_193, h37_194, h37_195, h37_196, h37_199, h37_200, h37_202, h37_203, h37_205, h37_206, h37_209, h37_210_0, h37_210_1, h37_210_b, h37_211, h37_213, h37_215, h37_216, h37_218, h37_221, h37_224, h37_226, h37_229, h37_230, h37_232, h37_235, h37_238, h37_239, h37_241, h37_242, h37_245, h37_248, h37_249, h37_251, h37_252, h37_255, h37_257, h37_258, h37_260, h37_263, h37_266, h37_268, h37_269, h37_272, h37_274, h37_275, h37_277, h37_278, h37_281, h37_282, h37_283, h37_285, h37_286, h37_289, h37_291, h37_292, h37_295, h37_296, h37_299, h37_300_0, h37_300_1, h37_300_b, h37_301, h37_303, h37_304, h37_306, h37_307, h37_310, h37_311, h37_313, h37_316, h37_319, h37_320, h37_321, h37_322, h37_325, h37_327, h37_330, h37_332, h37_335, h37_336, h37_339, h37_340_0, h37_340_1, h37_340_b, Option.bind_some, Option.toList_some, Option.toList_none, List.cons_append, List.nil_append, nI_ltc, nI_lec, nI_eqc, nI_ne5, n5_ne, n5_lt, bI_0, bI_1, nI_add, pk_mul, if_pos, if_neg, ite_not, if_true, if_false, not_true_eq_false, not_false_eq_true, true_and, false_and, and_true, and_false, Nat.reduceAdd, Nat.reduceMul, c1, c2, c6, hrem, h12, eq_self]
end
