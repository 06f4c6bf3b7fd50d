/-! the reference reads a text -/
section
variable {du lv rg sp cn c : Nat} {ob ls : Nat → Nat} {R : RV}
theorem tk_item (hd : du = 0 ∨ du = 1) (h : lv < 5 ∧ 48 + ls lv ≤ c ∧ c < 52) : tk ((du, lv, rg, sp, cn), ob, ls, R) c = some ((2, lv, rg, sp, cn), ob, fup ls lv (c - 47), R) := by
  have e1 : tkS ((du, lv, rg, sp, cn), ob, ls, R) c = some ((2, lv, rg, sp, cn), ob, fup ls lv (c - 47), R) := by
    unfold tkS
    dsimp only
    rw [if_pos h]
  have e2 : tkC ((du, lv, rg, sp, cn), ob, ls, R) c = none := by
    unfold tkC
    dsimp only
    rw [if_neg (by omega)]
  unfold tk
  rcases hd with rfl | rfl
  · dsimp only
    rw [e2]
    exact e1
  · exact e1
theorem tk_item0 (hd : du = 0 ∨ du = 1) (h : ¬(lv < 5 ∧ 48 + ls lv ≤ c ∧ c < 52)) (h2 : ¬(c = 41 ∧ lv ≠ 0 ∧ du = 0)) : tk ((du, lv, rg, sp, cn), ob, ls, R) c = none := by
  have e1 : tkS ((du, lv, rg, sp, cn), ob, ls, R) c = none := by
    unfold tkS
    dsimp only
    rw [if_neg h]
  unfold tk
  rcases hd with rfl | rfl
  · have e2 : tkC ((0, lv, rg, sp, cn), ob, ls, R) c = none := by
      unfold tkC
      dsimp only
      rw [if_neg (by omega)]
    dsimp only
    rw [e2]
    exact e1
  · exact e1
theorem tk_close0 (h2 : c = 41 ∧ lv ≠ 0) : tk ((0, lv, rg, sp, cn), ob, ls, R) c = some ((6, lv - 1, rg, sp, cn), ob, ls, R) := by
  have e2 : tkC ((0, lv, rg, sp, cn), ob, ls, R) c = some ((6, lv - 1, rg, sp, cn), ob, ls, R) := by
    unfold tkC
    dsimp only
    rw [if_pos h2]
  unfold tk
  dsimp only
  rw [e2]
  rfl
theorem tk_2c (h : c = 99) : tk ((2, lv, rg, sp, cn), ob, ls, R) c = some ((4, lv, 0, sp, cn + 1), ob, ls, putS 1 lv cn ob ls R) := if_pos h
theorem tk_2b (h : c = 98) : tk ((2, lv, rg, sp, cn), ob, ls, R) c = some ((3, lv, rg, sp, cn + 1), ob, ls, putS 2 lv cn ob ls R) := by
  show tkK ((2, lv, rg, sp, cn), ob, ls, R) c = _
  unfold tkK
  dsimp only
  rw [if_neg (by omega), if_pos h]
theorem tk_2n (h : ¬(c = 99 ∨ c = 98)) : tk ((2, lv, rg, sp, cn), ob, ls, R) c = none := by
  show tkK ((2, lv, rg, sp, cn), ob, ls, R) c = _
  unfold tkK
  dsimp only
  rw [if_neg (by omega), if_neg (by omega)]
theorem tk_3o (h : c = 40 ∧ lv < 5) : tk ((3, lv, rg, sp, cn), ob, ls, R) c = some ((0, lv + 1, rg, sp, cn), fup ob (lv + 1) (cn - 1), fup ls (lv + 1) 0, R) := if_pos h
theorem tk_3n (h : ¬c = 40) : tk ((3, lv, rg, sp, cn), ob, ls, R) c = none := if_neg (fun q => h q.1)
theorem tkE_1 (h : c = 44 ∧ ls lv < 4) : tkE ((du, lv, rg, sp, cn), ob, ls, R) c = some ((1, lv, rg, sp, cn), ob, ls, R) := if_pos h
theorem tkE_2 (h : c = 41 ∧ lv ≠ 0) : tkE ((du, lv, rg, sp, cn), ob, ls, R) c = some ((6, lv - 1, rg, sp, cn), ob, ls, R) := by
  unfold tkE tkC
  dsimp only
  rw [if_neg (by omega), if_pos h]
theorem tkE_3 (h1 : ¬(c = 44 ∧ ls lv < 4)) (h : ¬(c = 41 ∧ lv ≠ 0)) : tkE ((du, lv, rg, sp, cn), ob, ls, R) c = none := by
  unfold tkE tkC
  dsimp only
  rw [if_neg h1, if_neg h]
theorem tk_E (hd : du = 4 ∨ du = 6) (h : ¬(du = 4 ∧ rg < 3 ∧ (c = 109 ∨ c = 112))) : tk ((du, lv, rg, sp, cn), ob, ls, R) c = tkE ((du, lv, rg, sp, cn), ob, ls, R) c := by
  unfold tk
  rcases hd with rfl | rfl
  · have e2 : tkP ((4, lv, rg, sp, cn), ob, ls, R) c = none := by
      unfold tkP
      dsimp only
      rw [if_neg (by omega)]
    dsimp only
    rw [e2]
    rfl
  · rfl
theorem tk_4p (h : rg < 3 ∧ (c = 109 ∨ c = 112)) : tk ((4, lv, rg, sp, cn), ob, ls, R) c = some ((5, lv, rg, (if c = 109 then 0 else 1), cn), ob, ls, R) := by
  have e2 : tkP ((4, lv, rg, sp, cn), ob, ls, R) c = some ((5, lv, rg, (if c = 109 then 0 else 1), cn), ob, ls, R) := by
    unfold tkP
    dsimp only
    rw [if_pos h]
  unfold tk
  dsimp only
  rw [e2]
  rfl
theorem tk_5y (h : 48 ≤ c ∧ c ≤ 48 + lex sp) : tk ((5, lv, rg, sp, cn), ob, ls, R) c = some ((4, lv, rg + 1, sp, cn), ob, ls, regS rg sp cn (c - 48) R) := if_pos h
theorem tk_5n (h : ¬(48 ≤ c ∧ c ≤ 48 + lex sp)) : tk ((5, lv, rg, sp, cn), ob, ls, R) c = none := if_neg h
end
theorem rdr_st (tx : Nat → Nat) {m i : Nat} {s : RSt} (h : ¬cmpl s) (hn : m = 0 ∨ tk s (tx i) = none) : rdr tx m i s = (some i, s) := by
  cases m with
  | zero => rw [rdr_n, if_neg (fun q => h ((tb_iff (cmpl s)).mp q))]
  | succ m => exact rdr_f tx m i s (hn.resolve_left (by omega))
section
variable (d L : Nat) (p : Nat → Nat)
theorem m_rdE (tx : Nat → Nat) (n : Nat) (mu : RV) (s : RSt) (en dq : Nat) (a4 a5 : AV) (hs : WF s) (hm : MR mu s en dq) (h0 : s.1.1 = 0 → 1 ≤ s.1.2.1 ∨ n = 0) (h1 : s.1.1 = 1 → 1 ≤ n) (ht : TX mu n tx) : zsem d 168 59 [.inr (some 105), .inl (nI n), .inl (nI en), .inl (nI dq), a4, a5] [] (HH L mu p) = some (some (.inl (flt (rdr tx 0 n s).1)), HH L mu p) := by
  obtain ⟨⟨du, lv, rg, sp, cn⟩, ob, ls, R⟩ := s
  obtain ⟨r1, r2, r3, r4, r5⟩ := hm
  have w2 : lv ≤ 5 := hs.2.1
  have t1 := ht.1
  have t2 := ht.2.1
  dsimp only at r1 r2 r5 h0 h1
  rw [rdr_n, h168_59]
  by_cases g : cmpl ((du, lv, rg, sp, cn), ob, ls, R)
  · rw [if_pos ((tb_iff _).mpr g), show flt none = -5 from rfl]
    obtain ⟨g1, g2⟩ := g
    have g1 : lv = 0 := g1
    have g2 : du = 0 ∨ du = 4 ∨ du = 6 := g2
    subst g1
    rcases r5 with ⟨rfl, rfl, e⟩ | ⟨rfl, rfl, e⟩ | ⟨rfl, e, -⟩ | ⟨rfl, e, -⟩
    · have hn : n = 0 := by rcases h0 e with q | q <;> omega
      subst hn
      simp (disch := first | omega | assumption) only [h168_0, h168_1, h168_3, h168_5, h168_8, h168_9, h168_12, h168_15, h168_16, h168_19, h168_20, h168_21, h168_22, h168_25, h168_28, h168_29, h168_30, h168_33, h168_34, h168_35, h168_38, h168_39, h168_42, h168_43, h168_45, h168_46, h168_47, h168_50, h168_51, h168_52, h168_53, h168_54, h168_55, h168_56, h168_57, h168_58, h168_60, h168_61, h168_64, h168_67, h168_68, h168_71, h168_72, h168_73, h168_76, h168_78, h168_80, h168_81, h168_84, h168_85, h168_88, h168_89, h168_90, h168_91, h168_92, h168_94, h168_97, h168_98, h168_101, h168_102, h168_104, h168_106, h168_109, h168_110, h168_113, h168_114, h168_117, h168_120, h168_121, h168_124, h168_125, h168_126, h168_128, h168_131, h168_132, h168_133, h168_136, h168_137, h168_138, h168_141, h168_142, h168_143, h168_146, h168_147, h168_148, h168_151, h168_154, h168_156, h168_159, h168_161, h168_162, h168_165, h168_167, h168_168, h168_169, h168_170, h168_171, h168_173, h168_174, h168_175, h168_178, h168_179, h168_181, h168_182, h168_183, h168_186, h168_187, h168_190, h168_191, h168_192, h168_194, h168_197, h168_198, h168_201, h168_202, h168_205, h168_206, h168_207, h168_210, h168_211, h168_212, h168_213, h168_214, h168_217, h168_220, h168_221, h168_224, h168_225, h168_226, h168_228, h168_231, h168_232, h168_235, h168_238, h168_239, h168_240, h168_243, h168_244, h168_245, h168_248, h168_249, h168_250, h168_253, h168_256, h168_259, h168_260, h168_261, h168_264, h168_266, h168_268, h168_269, h168_272, h168_273, h168_275, h168_276, h168_277, h168_278, h168_280, h168_281, h168_282, h168_285, h168_286, h168_289, h168_292, h168_293, h168_296, h168_297, h168_300, h168_303, h168_305, h168_308, h168_309, h168_312, Option.bind_some, Option.toList_some, Option.toList_none, List.cons_append, List.nil_append, nI_ltc, nI_lec, nI_eqc, nI_ne5, n5_ne, n5_lt, bI_0, bI_1, nI_add, pk_mul, if_pos, if_neg, ite_not, if_true, if_false, not_true_eq_false, not_false_eq_true, true_and, false_and, and_true, and_false, Nat.reduceAdd, Nat.reduceMul, t2, Nat.le_refl, r2]
    · omega
    · simp (disch := first | omega | assumption) only [h168_0, h168_1, h168_3, h168_5, h168_8, h168_9, h168_12, h168_15, h168_16, h168_19, h168_20, h168_21, h168_22, h168_25, h168_28, h168_29, h168_30, h168_33, h168_34, h168_35, h168_38, h168_39, h168_42, h168_43, h168_45, h168_46, h168_47, h168_50, h168_51, h168_52, h168_53, h168_54, h168_55, h168_56, h168_57, h168_58, h168_60, h168_61, h168_64, h168_67, h168_68, h168_71, h168_72, h168_73, h168_76, h168_78, h168_80, h168_81, h168_84, h168_85, h168_88, h168_89, h168_90, h168_91, h168_92, h168_94, h168_97, h168_98, h168_101, h168_102, h168_104, h168_106, h168_109, h168_110, h168_113, h168_114, h168_117, h168_120, h168_121, h168_124, h168_125, h168_126, h168_128, h168_131, h168_132, h168_133, h168_136, h168_137, h168_138, h168_141, h168_142, h168_143, h168_146, h168_147, h168_148, h168_151, h168_154, h168_156, h168_159, h168_161, h168_162, h168_165, h168_167, h168_168, h168_169, h168_170, h168_171, h168_173, h168_174, h168_175, h168_178, h168_179, h168_181, h168_182, h168_183, h168_186, h168_187, h168_190, h168_191, h168_192, h168_194, h168_197, h168_198, h168_201, h168_202, h168_205, h168_206, h168_207, h168_210, h168_211, h168_212, h168_213, h168_214, h168_217, h168_220, h168_221, h168_224, h168_225, h168_226, h168_228, h168_231, h168_232, h168_235, h168_238, h168_239, h168_240, h168_243, h168_244, h168_245, h168_248, h168_249, h168_250, h168_253, h168_256, h168_259, h168_260, h168_261, h168_264, h168_266, h168_268, h168_269, h168_272, h168_273, h168_275, h168_276, h168_277, h168_278, h168_280, h168_281, h168_282, h168_285, h168_286, h168_289, h168_292, h168_293, h168_296, h168_297, h168_300, h168_303, h168_305, h168_308, h168_309, h168_312, Option.bind_some, Option.toList_some, Option.toList_none, List.cons_append, List.nil_append, nI_ltc, nI_lec, nI_eqc, nI_ne5, n5_ne, n5_lt, bI_0, bI_1, nI_add, pk_mul, if_pos, if_neg, ite_not, if_true, if_false, not_true_eq_false, not_false_eq_true, true_and, false_and, and_true, and_false, Nat.reduceAdd, Nat.reduceMul, t2, Nat.le_refl, r2]
    · simp (disch := first | omega | assumption) only [h168_0, h168_1, h168_3, h168_5, h168_8, h168_9, h168_12, h168_15, h168_16, h168_19, h168_20, h168_21, h168_22, h168_25, h168_28, h168_29, h168_30, h168_33, h168_34, h168_35, h168_38, h168_39, h168_42, h168_43, h168_45, h168_46, h168_47, h168_50, h168_51, h168_52, h168_53, h168_54, h168_55, h168_56, h168_57, h168_58, h168_60, h168_61, h168_64, h168_67, h168_68, h168_71, h168_72, h168_73, h168_76, h168_78, h168_80, h168_81, h168_84, h168_85, h168_88, h168_89, h168_90, h168_91, h168_92, h168_94, h168_97, h168_98, h168_101, h168_102, h168_104, h168_106, h168_109, h168_110, h168_113, h168_114, h168_117, h168_120, h168_121, h168_124, h168_125, h168_126, h168_128, h168_131, h168_132, h168_133, h168_136, h168_137, h168_138, h168_141, h168_142, h168_143, h168_146, h168_147, h168_148, h168_151, h168_154, h168_156, h168_159, h168_161, h168_162, h168_165, h168_167, h168_168, h168_169, h168_170, h168_171, h168_173, h168_174, h168_175, h168_178, h168_179, h168_181, h168_182, h168_183, h168_186, h168_187, h168_190, h168_191, h168_192, h168_194, h168_197, h168_198, h168_201, h168_202, h168_205, h168_206, h168_207, h168_210, h168_211, h168_212, h168_213, h168_214, h168_217, h168_220, h168_221, h168_224, h168_225, h168_226, h168_228, h168_231, h168_232, h168_235, h168_238, h168_239, h168_240, h168_243, h168_244, h168_245, h168_248, h168_249, h168_250, h168_253, h168_256, h168_259, h168_260, h168_261, h168_264, h168_266, h168_268, h168_269, h168_272, h168_273, h168_275, h168_276, h168_277, h168_278, h168_280, h168_281, h168_282, h168_285, h168_286, h168_289, h168_292, h168_293, h168_296, h168_297, h168_300, h168_303, h168_305, h168_308, h168_309, h168_312, Option.bind_some, Option.toList_some, Option.toList_none, List.cons_append, List.nil_append, nI_ltc, nI_lec, nI_eqc, nI_ne5, n5_ne, n5_lt, bI_0, bI_1, nI_add, pk_mul, if_pos, if_neg, ite_not, if_true, if_false, not_true_eq_false, not_false_eq_true, true_and, false_and, and_true, and_false, Nat.reduceAdd, Nat.reduceMul, t2, Nat.le_refl, r2]
  · rw [if_neg (fun q => g ((tb_iff _).mp q)), show flt (some n) = nI n from rfl]
    by_cases g1 : lv = 0
    · subst g1
      have g2 : ¬(du = 0 ∨ du = 4 ∨ du = 6) := fun q => g ⟨rfl, q⟩
      have hn : ¬n = 0 := by omega
      have he : en = 0 := by omega
      subst he
      simp (disch := first | omega | assumption) only [h168_0, h168_1, h168_3, h168_5, h168_8, h168_9, h168_12, h168_15, h168_16, h168_19, h168_20, h168_21, h168_22, h168_25, h168_28, h168_29, h168_30, h168_33, h168_34, h168_35, h168_38, h168_39, h168_42, h168_43, h168_45, h168_46, h168_47, h168_50, h168_51, h168_52, h168_53, h168_54, h168_55, h168_56, h168_57, h168_58, h168_60, h168_61, h168_64, h168_67, h168_68, h168_71, h168_72, h168_73, h168_76, h168_78, h168_80, h168_81, h168_84, h168_85, h168_88, h168_89, h168_90, h168_91, h168_92, h168_94, h168_97, h168_98, h168_101, h168_102, h168_104, h168_106, h168_109, h168_110, h168_113, h168_114, h168_117, h168_120, h168_121, h168_124, h168_125, h168_126, h168_128, h168_131, h168_132, h168_133, h168_136, h168_137, h168_138, h168_141, h168_142, h168_143, h168_146, h168_147, h168_148, h168_151, h168_154, h168_156, h168_159, h168_161, h168_162, h168_165, h168_167, h168_168, h168_169, h168_170, h168_171, h168_173, h168_174, h168_175, h168_178, h168_179, h168_181, h168_182, h168_183, h168_186, h168_187, h168_190, h168_191, h168_192, h168_194, h168_197, h168_198, h168_201, h168_202, h168_205, h168_206, h168_207, h168_210, h168_211, h168_212, h168_213, h168_214, h168_217, h168_220, h168_221, h168_224, h168_225, h168_226, h168_228, h168_231, h168_232, h168_235, h168_238, h168_239, h168_240, h168_243, h168_244, h168_245, h168_248, h168_249, h168_250, h168_253, h168_256, h168_259, h168_260, h168_261, h168_264, h168_266, h168_268, h168_269, h168_272, h168_273, h168_275, h168_276, h168_277, h168_278, h168_280, h168_281, h168_282, h168_285, h168_286, h168_289, h168_292, h168_293, h168_296, h168_297, h168_300, h168_303, h168_305, h168_308, h168_309, h168_312, Option.bind_some, Option.toList_some, Option.toList_none, List.cons_append, List.nil_append, nI_ltc, nI_lec, nI_eqc, nI_ne5, n5_ne, n5_lt, bI_0, bI_1, nI_add, pk_mul, if_pos, if_neg, ite_not, if_true, if_false, not_true_eq_false, not_false_eq_true, true_and, false_and, and_true, and_false, Nat.reduceAdd, Nat.reduceMul, t2, Nat.le_refl, r2, hn]
    · simp (disch := first | omega | assumption) only [h168_0, h168_1, h168_3, h168_5, h168_8, h168_9, h168_12, h168_15, h168_16, h168_19, h168_20, h168_21, h168_22, h168_25, h168_28, h168_29, h168_30, h168_33, h168_34, h168_35, h168_38, h168_39, h168_42, h168_43, h168_45, h168_46, h168_47, h168_50, h168_51, h168_52, h168_53, h168_54, h168_55, h168_56, h168_57, h168_58, h168_60, h168_61, h168_64, h168_67, h168_68, h168_71, h168_72, h168_73, h168_76, h168_78, h168_80, h168_81, h168_84, h168_85, h168_88, h168_89, h168_90, h168_91, h168_92, h168_94, h168_97, h168_98, h168_101, h168_102, h168_104, h168_106, h168_109, h168_110, h168_113, h168_114, h168_117, h168_120, h168_121, h168_124, h168_125, h168_126, h168_128, h168_131, h168_132, h168_133, h168_136, h168_137, h168_138, h168_141, h168_142, h168_143, h168_146, h168_147, h168_148, h168_151, h168_154, h168_156, h168_159, h168_161, h168_162, h168_165, h168_167, h168_168, h168_169, h168_170, h168_171, h168_173, h168_174, h168_175, h168_178, h168_179, h168_181, h168_182, h168_183, h168_186, h168_187, h168_190, h168_191, h168_192, h168_194, h168_197, h168_198, h168_201, h168_202, h168_205, h168_206, h168_207, h168_210, h168_211, h168_212, h168_213, h168_214, h168_217, h168_220, h168_221, h168_224, h168_225, h168_226, h168_228, h168_231, h168_232, h168_235, h168_238, h168_239, h168_240, h168_243, h168_244, h168_245, h168_248, h168_249, h168_250, h168_253, h168_256, h168_259, h168_260, h168_261, h168_264, h168_266, h168_268, h168_269, h168_272, h168_273, h168_275, h168_276, h168_277, h168_278, h168_280, h168_281, h168_282, h168_285, h168_286, h168_289, h168_292, h168_293, h168_296, h168_297, h168_300, h168_303, h168_305, h168_308, h168_309, h168_312, Option.bind_some, Option.toList_some, Option.toList_none, List.cons_append, List.nil_append, nI_ltc, nI_lec, nI_eqc, nI_ne5, n5_ne, n5_lt, bI_0, bI_1, nI_add, pk_mul, if_pos, if_neg, ite_not, if_true, if_false, not_true_eq_false, not_false_eq_true, true_and, false_and, and_true, and_false, Nat.reduceAdd, Nat.reduceMul, t2, Nat.le_refl, r2, g1]
end
