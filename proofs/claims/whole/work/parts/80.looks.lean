/-! looks: the grains of the room -/
def fiB (mu : RV) (w : Nat → Int32) (k : Nat) : RV := fun r t => if r = 114 ∧ t < k then w t else mu r t
theorem fiB_s (mu : RV) (w : Nat → Int32) (k : Nat) : u2 (fiB mu w k) 114 k (w k) = fiB mu w (k + 1) := by
  funext a i
  by_cases h : a = 114 ∧ i = k
  · obtain ⟨rfl, rfl⟩ := h
    rw [u2_s]
    unfold fiB
    rw [if_pos (by omega)]
  · rw [u2_o _ _ h]
    unfold fiB
    by_cases h2 : a = 114 ∧ i < k
    · rw [if_pos h2, if_pos (by omega)]
    · rw [if_neg h2, if_neg (by omega)]
/-- the grain k is in the room of E addresses from A -/
def inR (s A E k : Nat) : Prop := A ≤ k * grn s ∧ k * grn s < A + E
noncomputable def wR (s A E : Nat) (k : Nat) : Int32 := if tb (inR s A E k) = true then nI 1 else nI 0
section
variable (d L : Nat) (mu : RV) (p : Nat → Nat)
theorem m_looksA (b : Int32) (s A E : Nat) (hs : s < 2) (hA : A + E ≤ 8192) (hE : 0 < E) : ∀ m k (w w' : AV), k + m = 256 → ∃ v v' : AV, zsem (d + 1) 160 57 [.inr (some 105), .inl b, .inl (nI s), .inl (nI A), .inl (nI E), .inl (nI k), w, w'] [] (HH L (fiB mu (wR s A E) k) p) = zsem (d + 1) 160 57 [.inr (some 105), .inl b, .inl (nI s), .inl (nI A), .inl (nI E), .inl (nI 256), v, v'] [] (HH L (fiB mu (wR s A E) 256) p) := by
  have hg := @grn_le s
  intro m
  induction m with
  | zero =>
    intro k w w' hk
    have : k = 256 := by omega
    subst this
    exact ⟨w, w', rfl⟩
  | succ m ih =>
    intro k w w' hk
    have hkg : k * grn s ≤ 256 * 16 := Nat.mul_le_mul (by omega) hg.2
    obtain ⟨v, v', e⟩ := ih (k + 1) (.inl (nI (k * grn s))) w' (by omega)
    refine ⟨v, v', ?_⟩
    rw [← e, h160_57, ← fiB_s]
    by_cases h1 : A ≤ k * grn s
    · by_cases h2 : k * grn s < A + E
      · have hw : wR s A E k = nI 1 := if_pos ((tb_iff _).mpr ⟨h1, h2⟩)
        rw [hw]
        simp (disch := first | omega | assumption) only [h160_0, h160_1, h160_3, h160_6, h160_7, h160_10, h160_11, h160_14, h160_15, h160_18, h160_20, h160_21, h160_22, h160_23, h160_24, h160_25, h160_26, h160_28, h160_31, h160_32, h160_35, h160_38, h160_39, h160_42, h160_43, h160_46, h160_48, h160_49, h160_50, h160_51, h160_52, h160_54, h160_55, h160_59, h160_62, h160_65, h160_67, h160_68, h160_71, h160_72, h160_74, h160_75, h160_78, h160_80, h160_82, h160_85, h160_87, h160_88, h160_91, h160_93, h160_94, h160_96, h160_97, h160_100, h160_101, h160_104, h160_105, h160_106, h160_109, h160_112, h160_113, h160_117, h160_119, h160_122, h160_123, h160_125, h160_128, h160_131, h160_132, h160_135, h160_137, h160_140, h160_141, h160_142, h160_143, h160_144, h160_147, h160_148, h160_152, h160_153, h160_156, h160_157, h160_159, h160_162, h160_165, h160_167, h160_169, h160_172, h160_174, h160_175, h160_176, h160_177, h160_180, h160_182, h160_183, h160_184, h160_187, h160_188, h160_191, h160_193, h160_194, h160_195, h160_196, h160_199, h160_201, h160_202, h160_205, h160_207, h160_208, h160_209, h160_210, h160_213, h160_216, h160_219, h160_220, h160_221, h160_222, h160_224, h160_227, h160_230, h160_231, h160_234, h160_236, h160_239, h160_241, h160_242, h160_243, h160_244, h160_245, h160_248, h160_250, h160_251, h160_254, h160_256, h160_259, h160_261, h160_262, h160_263, h160_264, h160_265, h160_268, h160_271, h160_274, Option.bind_some, Option.toList_some, Option.toList_none, List.cons_append, List.nil_append, nI_ltc, nI_lec, nI_eqc, nI_ne5, n5_ne, n5_lt, bI_0, bI_1, nI_add, pk_mul, if_pos, if_neg, ite_not, if_true, if_false, not_true_eq_false, not_false_eq_true, true_and, false_and, and_true, and_false, Nat.reduceAdd, Nat.reduceMul, m_grain]
      · have hw : wR s A E k = nI 0 := if_neg (fun q => h2 ((tb_iff _).mp q).2)
        rw [hw]
        simp (disch := first | omega | assumption) only [h160_0, h160_1, h160_3, h160_6, h160_7, h160_10, h160_11, h160_14, h160_15, h160_18, h160_20, h160_21, h160_22, h160_23, h160_24, h160_25, h160_26, h160_28, h160_31, h160_32, h160_35, h160_38, h160_39, h160_42, h160_43, h160_46, h160_48, h160_49, h160_50, h160_51, h160_52, h160_54, h160_55, h160_59, h160_62, h160_65, h160_67, h160_68, h160_71, h160_72, h160_74, h160_75, h160_78, h160_80, h160_82, h160_85, h160_87, h160_88, h160_91, h160_93, h160_94, h160_96, h160_97, h160_100, h160_101, h160_104, h160_105, h160_106, h160_109, h160_112, h160_113, h160_117, h160_119, h160_122, h160_123, h160_125, h160_128, h160_131, h160_132, h160_135, h160_137, h160_140, h160_141, h160_142, h160_143, h160_144, h160_147, h160_148, h160_152, h160_153, h160_156, h160_157, h160_159, h160_162, h160_165, h160_167, h160_169, h160_172, h160_174, h160_175, h160_176, h160_177, h160_180, h160_182, h160_183, h160_184, h160_187, h160_188, h160_191, h160_193, h160_194, h160_195, h160_196, h160_199, h160_201, h160_202, h160_205, h160_207, h160_208, h160_209, h160_210, h160_213, h160_216, h160_219, h160_220, h160_221, h160_222, h160_224, h160_227, h160_230, h160_231, h160_234, h160_236, h160_239, h160_241, h160_242, h160_243, h160_244, h160_245, h160_248, h160_250, h160_251, h160_254, h160_256, h160_259, h160_261, h160_262, h160_263, h160_264, h160_265, h160_268, h160_271, h160_274, Option.bind_some, Option.toList_some, Option.toList_none, List.cons_append, List.nil_append, nI_ltc, nI_lec, nI_eqc, nI_ne5, n5_ne, n5_lt, bI_0, bI_1, nI_add, pk_mul, if_pos, if_neg, ite_not, if_true, if_false, not_true_eq_false, not_false_eq_true, true_and, false_and, and_true, and_false, Nat.reduceAdd, Nat.reduceMul, m_grain]
    · have hw : wR s A E k = nI 0 := if_neg (fun q => h1 ((tb_iff _).mp q).1)
      rw [hw]
      simp (disch := first | omega | assumption) only [h160_0, h160_1, h160_3, h160_6, h160_7, h160_10, h160_11, h160_14, h160_15, h160_18, h160_20, h160_21, h160_22, h160_23, h160_24, h160_25, h160_26, h160_28, h160_31, h160_32, h160_35, h160_38, h160_39, h160_42, h160_43, h160_46, h160_48, h160_49, h160_50, h160_51, h160_52, h160_54, h160_55, h160_59, h160_62, h160_65, h160_67, h160_68, h160_71, h160_72, h160_74, h160_75, h160_78, h160_80, h160_82, h160_85, h160_87, h160_88, h160_91, h160_93, h160_94, h160_96, h160_97, h160_100, h160_101, h160_104, h160_105, h160_106, h160_109, h160_112, h160_113, h160_117, h160_119, h160_122, h160_123, h160_125, h160_128, h160_131, h160_132, h160_135, h160_137, h160_140, h160_141, h160_142, h160_143, h160_144, h160_147, h160_148, h160_152, h160_153, h160_156, h160_157, h160_159, h160_162, h160_165, h160_167, h160_169, h160_172, h160_174, h160_175, h160_176, h160_177, h160_180, h160_182, h160_183, h160_184, h160_187, h160_188, h160_191, h160_193, h160_194, h160_195, h160_196, h160_199, h160_201, h160_202, h160_205, h160_207, h160_208, h160_209, h160_210, h160_213, h160_216, h160_219, h160_220, h160_221, h160_222, h160_224, h160_227, h160_230, h160_231, h160_234, h160_236, h160_239, h160_241, h160_242, h160_243, h160_244, h160_245, h160_248, h160_250, h160_251, h160_254, h160_256, h160_259, h160_261, h160_262, h160_263, h160_264, h160_265, h160_268, h160_271, h160_274, Option.bind_some, Option.toList_some, Option.toList_none, List.cons_append, List.nil_append, nI_ltc, nI_lec, nI_eqc, nI_ne5, n5_ne, n5_lt, bI_0, bI_1, nI_add, pk_mul, if_pos, if_neg, ite_not, if_true, if_false, not_true_eq_false, not_false_eq_true, true_and, false_and, and_true, and_false, Nat.reduceAdd, Nat.reduceMul, m_grain]
/-- no window: no grain -/
theorem m_looksN (b : Int32) (s : Nat) (hs : s < 2) (A : Int32) : ∀ m k (w w' : AV), k + m = 256 → ∃ v v' : AV, zsem (d + 1) 160 57 [.inr (some 105), .inl b, .inl (nI s), .inl A, .inl (nI 0), .inl (nI k), w, w'] [] (HH L (fiB mu (fun _ => nI 0) k) p) = zsem (d + 1) 160 57 [.inr (some 105), .inl b, .inl (nI s), .inl A, .inl (nI 0), .inl (nI 256), v, v'] [] (HH L (fiB mu (fun _ => nI 0) 256) p) := by
  have hg := @grn_le s
  intro m
  induction m with
  | zero =>
    intro k w w' hk
    have : k = 256 := by omega
    subst this
    exact ⟨w, w', rfl⟩
  | succ m ih =>
    intro k w w' hk
    obtain ⟨v, v', e⟩ := ih (k + 1) (.inl (nI (k * grn s))) w' (by omega)
    refine ⟨v, v', ?_⟩
    rw [← e, h160_57, ← fiB_s]
    simp (disch := first | omega | assumption) only [h160_0, h160_1, h160_3, h160_6, h160_7, h160_10, h160_11, h160_14, h160_15, h160_18, h160_20, h160_21, h160_22, h160_23, h160_24, h160_25, h160_26, h160_28, h160_31, h160_32, h160_35, h160_38, h160_39, h160_42, h160_43, h160_46, h160_48, h160_49, h160_50, h160_51, h160_52, h160_54, h160_55, h160_59, h160_62, h160_65, h160_67, h160_68, h160_71, h160_72, h160_74, h160_75, h160_78, h160_80, h160_82, h160_85, h160_87, h160_88, h160_91, h160_93, h160_94, h160_96, h160_97, h160_100, h160_101, h160_104, h160_105, h160_106, h160_109, h160_112, h160_113, h160_117, h160_119, h160_122, h160_123, h160_125, h160_128, h160_131, h160_132, h160_135, h160_137, h160_140, h160_141, h160_142, h160_143, h160_144, h160_147, h160_148, h160_152, h160_153, h160_156, h160_157, h160_159, h160_162, h160_165, h160_167, h160_169, h160_172, h160_174, h160_175, h160_176, h160_177, h160_180, h160_182, h160_183, h160_184, h160_187, h160_188, h160_191, h160_193, h160_194, h160_195, h160_196, h160_199, h160_201, h160_202, h160_205, h160_207, h160_208, h160_209, h160_210, h160_213, h160_216, h160_219, h160_220, h160_221, h160_222, h160_224, h160_227, h160_230, h160_231, h160_234, h160_236, h160_239, h160_241, h160_242, h160_243, h160_244, h160_245, h160_248, h160_250, h160_251, h160_254, h160_256, h160_259, h160_261, h160_262, h160_263, h160_264, h160_265, h160_268, h160_271, h160_274, Option.bind_some, Option.toList_some, Option.toList_none, List.cons_append, List.nil_append, nI_ltc, nI_lec, nI_eqc, nI_ne5, n5_ne, n5_lt, bI_0, bI_1, nI_add, pk_mul, if_pos, if_neg, ite_not, if_true, if_false, not_true_eq_false, not_false_eq_true, true_and, false_and, and_true, and_false, Nat.reduceAdd, Nat.reduceMul, m_grain]
end
