/-! the reference reads a text, 2 -/
def RdP (d L n : Nat) (tx : Nat → Nat) (p : Nat → Nat) (m i : Nat) (mu : RV) (s : RSt) (en dq : Nat) (a4 a5 : AV) : Prop := ∃ mu', FM mu mu' ∧ zsem (d + 4) 168 59 [.inr (some 105), .inl (nI i), .inl (nI en), .inl (nI dq), a4, a5] [] (HH L mu p) = some (some (.inl (flt (rdr tx m i s).1)), HH L mu' p) ∧ ((rdr tx m i s).1 = none → mu' 105 15 = nI (rdr tx m i s).2.1.2.2.2.2 ∧ BD mu' (rdr tx m i s).2.2.2.2)
def RdI (n : Nat) (tx : Nat → Nat) (m i : Nat) (mu : RV) (s : RSt) (en dq : Nat) : Prop := i + m = n ∧ WF s ∧ MR mu s en dq ∧ s.1.2.2.2.2 ≤ i ∧ (s.1.1 = 0 → 1 ≤ s.1.2.1 ∨ i = 0) ∧ (s.1.1 = 1 → 1 ≤ i) ∧ dq ≤ 1 ∧ TX mu n tx
section
variable (d L n : Nat) (tx : Nat → Nat) (p : Nat → Nat)
theorem RdP_e {i : Nat} {mu : RV} {s : RSt} {en dq : Nat} {a4 a5 : AV} (h : RdI n tx 0 i mu s en dq) : RdP d L n tx p 0 i mu s en dq a4 a5 := by
  obtain ⟨h1, h2, h3, h4, h5, h6, h7, h8⟩ := h
  have h1 : i = n := h1
  subst h1
  exact ⟨mu, FM_r mu, m_rdE (d + 4) L p tx i mu s en dq a4 a5 h2 h3 h5 h6 h8, fun _ => ⟨h3.1, h3.2.2.2.1⟩⟩
/-- what stops at once -/
theorem RdP_stop {m i j : Nat} {mu mu' : RV} {s s' : RSt} {en dq : Nat} {a4 a5 : AV} (hr : rdr tx m i s = (some j, s')) (f : FM mu mu') (hz : zsem (d + 4) 168 59 [.inr (some 105), .inl (nI i), .inl (nI en), .inl (nI dq), a4, a5] [] (HH L mu p) = some (some (.inl (nI j)), HH L mu' p)) : RdP d L n tx p m i mu s en dq a4 a5 := by
  unfold RdP
  rw [hr]
  exact ⟨mu', f, hz, fun h => by cases h⟩
/-- what goes on -/
theorem RdP_go {m i m' i' : Nat} {mu mu' : RV} {s s' : RSt} {en dq en' dq' : Nat} {a4 a5 b4 b5 : AV} (hr : rdr tx m i s = rdr tx m' i' s') (f : FM mu mu') (hz : zsem (d + 4) 168 59 [.inr (some 105), .inl (nI i), .inl (nI en), .inl (nI dq), a4, a5] [] (HH L mu p) = zsem (d + 4) 168 59 [.inr (some 105), .inl (nI i'), .inl (nI en'), .inl (nI dq'), b4, b5] [] (HH L mu' p)) (h : RdP d L n tx p m' i' mu' s' en' dq' b4 b5) : RdP d L n tx p m i mu s en dq a4 a5 := by
  obtain ⟨mu2, f2, z2, c2⟩ := h
  unfold RdP
  rw [hr, hz]
  exact ⟨mu2, FM_t f f2, z2, c2⟩
theorem m_rdL : ∀ M m i mu s en dq a4 a5, m ≤ M → RdI n tx m i mu s en dq → RdP d L n tx p m i mu s en dq a4 a5 := by
  intro M
  induction M with
  | zero =>
    intro m i mu s en dq a4 a5 hm h
    have hm : m = 0 := by omega
    subst hm
    exact RdP_e d L n tx p h
  | succ M ih =>
    intro m i mu s en dq a4 a5 hm h
    cases m with
    | zero => exact RdP_e d L n tx p h
    | succ m =>
      obtain ⟨hi, hW, hR, hcn, hd0, hd1, hdq, hT⟩ := h
      obtain ⟨⟨du, lv, rg, sp, cn⟩, ob, ls, R⟩ := s
      have hR0 := hR
      have hW0 := hW
      obtain ⟨r1, r2, r3, r4, r5⟩ := hR
      obtain ⟨w1, w2, w3, w4, w5, w6, w7, w8, w9, w10, w11, w12, w13⟩ := hW
      obtain ⟨t1, t2, t3⟩ := hT
      dsimp only at r1 r2 r3 r4 r5 hcn hd0 hd1
      have hl4 := w5 lv
      have hls := (r3 lv (Nat.le_refl _)).2
      have hle := ls_e (ls lv) hl4
      obtain ⟨t3i, t4⟩ := t3 i (by omega)
      have q1 : ¬n ≤ i := by omega
      have q2 : i < 80 := by omega
      have items : ∀ (en dq : Nat), en = 0 → du = dq → dq ≤ 1 → MR mu ((du, lv, rg, sp, cn), ob, ls, R) en dq → RdP d L n tx p (m + 1) i mu ((du, lv, rg, sp, cn), ob, ls, R) en dq a4 a5 := by
        intro en dq he hdu hdq hR0
        subst he
        have hd01 : du = 0 ∨ du = 1 := by omega
        by_cases ok : lv < 5 ∧ 48 + ls lv ≤ tx i ∧ tx i < 52
        · have k1 : tk ((du, lv, rg, sp, cn), ob, ls, R) (tx i) = some ((2, lv, rg, sp, cn), ob, fup ls lv (tx i - 47), R) := tk_item hd01 ok
          have ok' : i < n ∧ lv < 5 ∧ 48 + ls lv ≤ tx i ∧ tx i < 52 := ⟨by omega, ok⟩
          have hx : tx i - 47 = tx i - 48 + 1 := by omega
          by_cases n1 : i + 1 < n ∧ (tx (i + 1) = 99 ∨ tx (i + 1) = 98)
          · have t5 := (t3 (i + 1) n1.1).1
            have q3 : i + 1 < 80 := by omega
            by_cases nc : tx (i + 1) = 99
            · cases m with
              | zero => omega
              | succ m =>
                obtain ⟨m1, mu', e1, g1, g2, g3, g4, g5, g6⟩ := m_begins d L mu p 1 lv cn (ob lv) (nI (tx i - 48)) (Or.inl rfl) r2 (by omega) r1 (by omega) (r3 lv (Nat.le_refl _)).1
                rw [if_pos rfl] at g6
                have e2 := m_itemC d L mu p ⟨t1, t2, t3⟩ i lv (ls lv) _ (by omega) r2 w2 hls hle hl4 ok' ⟨n1.1, nc⟩ mu' e1
                have fm : FM mu mu' := by rw [g6]; exact FM_u (FM_u (FM_u g1 (by omega)) (by omega)) (by omega)
                have t6 : mu' 107 (i + 1) = nI 99 := by rw [fm 107 (i + 1) (by omega), t5, nc]
                have k2 : tk ((2, lv, rg, sp, cn), ob, fup ls lv (tx i - 47), R) (tx (i + 1)) = _ := tk_2c nc
                have hW2 := WF_tk (WF_tk hW0 k1) k2
                refine RdP_go d L n tx p (m' := m) (i' := i + 2) (en' := 1) (dq' := 0) (mu' := mu') (b4 := .inl (nI 2)) (b5 := .inl (nI 1)) (by rw [rdr_s tx _ _ _ _ k1, rdr_s tx _ _ _ _ k2]) fm ?_ (ih m (i + 2) mu' _ 1 0 _ _ (by omega) ⟨by omega, hW2, ⟨?_, ?_, fun l hl => ?_, ?_, ?_⟩, by dsimp only; omega, fun q => absurd q (by dsimp only; omega), fun q => absurd q (by dsimp only; omega), by omega, TX_f ⟨t1, t2, t3⟩ fm⟩)
                · rw [h168_59]
                  simp (disch := first | omega | assumption) only [h168_0, h168_1, h168_3, h168_5, h168_8, h168_9, h168_12, h168_15, h168_16, h168_19, h168_20, h168_21, h168_22, h168_25, h168_28, h168_29, h168_30, h168_33, h168_34, h168_35, h168_38, h168_39, h168_42, h168_43, h168_45, h168_46, h168_47, h168_50, h168_51, h168_52, h168_53, h168_54, h168_55, h168_56, h168_57, h168_58, h168_60, h168_61, h168_64, h168_67, h168_68, h168_71, h168_72, h168_73, h168_76, h168_78, h168_80, h168_81, h168_84, h168_85, h168_88, h168_89, h168_90, h168_91, h168_92, h168_94, h168_97, h168_98, h168_101, h168_102, h168_104, h168_106, h168_109, h168_110, h168_113, h168_114, h168_117, h168_120, h168_121, h168_124, h168_125, h168_126, h168_128, h168_131, h168_132, h168_133, h168_136, h168_137, h168_138, h168_141, h168_142, h168_143, h168_146, h168_147, h168_148, h168_151, h168_154, h168_156, h168_159, h168_161, h168_162, h168_165, h168_167, h168_168, h168_169, h168_170, h168_171, h168_173, h168_174, h168_175, h168_178, h168_179, h168_181, h168_182, h168_183, h168_186, h168_187, h168_190, h168_191, h168_192, h168_194, h168_197, h168_198, h168_201, h168_202, h168_205, h168_206, h168_207, h168_210, h168_211, h168_212, h168_213, h168_214, h168_217, h168_220, h168_221, h168_224, h168_225, h168_226, h168_228, h168_231, h168_232, h168_235, h168_238, h168_239, h168_240, h168_243, h168_244, h168_245, h168_248, h168_249, h168_250, h168_253, h168_256, h168_259, h168_260, h168_261, h168_264, h168_266, h168_268, h168_269, h168_272, h168_273, h168_275, h168_276, h168_277, h168_278, h168_280, h168_281, h168_282, h168_285, h168_286, h168_289, h168_292, h168_293, h168_296, h168_297, h168_300, h168_303, h168_305, h168_308, h168_309, h168_312, Option.bind_some, Option.toList_some, Option.toList_none, List.cons_append, List.nil_append, nI_ltc, nI_lec, nI_eqc, nI_ne5, n5_ne, n5_lt, bI_0, bI_1, nI_add, pk_mul, if_pos, if_neg, ite_not, if_true, if_false, not_true_eq_false, not_false_eq_true, true_and, false_and, and_true, and_false, Nat.reduceAdd, Nat.reduceMul, t2, q1, q2, q3, e2, t6]
                · rw [g6, u2_s]
                · rw [g6, u2_o _ _ (by omega), u2_o _ _ (by omega), u2_o _ _ (by omega), g2]; exact r2
                · have hl : l ≤ lv := hl
                  dsimp only
                  rw [g6, u2_oa (by omega), u2_oa (by omega), u2_oa (by omega), g3, u2_oa (by omega), u2_oa (by omega)]
                  refine ⟨(r3 l hl).1, ?_⟩
                  by_cases el : l = lv
                  · subst el
                    rw [u2_s, fup_s, nI_sub (by omega)]
                    exact congrArg nI (by omega)
                  · rw [u2_o _ _ (by omega), fup_o _ _ el, g4]
                    exact (r3 l hl).2
                · rw [g6, hx]
                  exact BD_c (MR_K (Or.inl rfl) hR0 hW0 (by omega) g2 g3 g4 g5) (fun j _ => by rw [u2_oa (by omega), u2_oa (by omega), u2_oa (by omega)])
                · exact Or.inr (Or.inr (Or.inl ⟨rfl, rfl, by rw [g6, u2_o _ _ (by omega), u2_s]⟩))
            · have nb : tx (i + 1) = 98 := n1.2.resolve_left nc
              have k2 : tk ((2, lv, rg, sp, cn), ob, fup ls lv (tx i - 47), R) (tx (i + 1)) = _ := tk_2b nb
              cases m with
              | zero => omega
              | succ m =>
                by_cases n2 : i + 2 < n ∧ tx (i + 2) = 40
                · cases m with
                  | zero => omega
                  | succ m =>
                    obtain ⟨m1, mu', e1, g1, g2, g3, g4, g5, g6⟩ := m_begins d L mu p 2 lv cn (ob lv) (nI (tx i - 48)) (Or.inr rfl) r2 (by omega) r1 (by omega) (r3 lv (Nat.le_refl _)).1
                    rw [if_neg (by omega)] at g6
                    have e2 := m_itemB d L mu p ⟨t1, t2, t3⟩ i lv (ls lv) _ (by omega) r2 w2 hls hle hl4 ok' ⟨n1.1, nb⟩ n2 mu' e1
                    have fm : FM mu mu' := by rw [g6]; exact FM_u (FM_u (FM_u (FM_u (FM_u (FM_u g1 (by omega)) (by omega)) (by omega)) (by omega)) (by omega)) (by omega)
                    have k3 : tk ((3, lv, rg, sp, cn + 1), ob, fup ls lv (tx i - 47), putS 2 lv cn ob (fup ls lv (tx i - 47)) R) (tx (i + 1 + 1)) = _ := tk_3o ⟨n2.2, ok.1⟩
                    have hW3 := WF_tk (WF_tk (WF_tk hW0 k1) k2) k3
                    refine RdP_go d L n tx p (m' := m) (i' := i + 3) (en' := 0) (dq' := 0) (mu' := mu') (b4 := .inl (nI 3)) (b5 := .inl (nI 0)) (by rw [rdr_s tx _ _ _ _ k1, rdr_s tx _ _ _ _ k2, rdr_s tx _ _ _ _ k3]) fm ?_ (ih m (i + 3) mu' _ 0 0 _ _ (by omega) ⟨by omega, hW3, ⟨?_, ?_, fun l hl => ?_, ?_, ?_⟩, by dsimp only; omega, fun _ => Or.inl (by dsimp only; omega), fun q => absurd q (by dsimp only; omega), by omega, TX_f ⟨t1, t2, t3⟩ fm⟩)
                    · rw [h168_59]
                      simp (disch := first | omega | assumption) only [h168_0, h168_1, h168_3, h168_5, h168_8, h168_9, h168_12, h168_15, h168_16, h168_19, h168_20, h168_21, h168_22, h168_25, h168_28, h168_29, h168_30, h168_33, h168_34, h168_35, h168_38, h168_39, h168_42, h168_43, h168_45, h168_46, h168_47, h168_50, h168_51, h168_52, h168_53, h168_54, h168_55, h168_56, h168_57, h168_58, h168_60, h168_61, h168_64, h168_67, h168_68, h168_71, h168_72, h168_73, h168_76, h168_78, h168_80, h168_81, h168_84, h168_85, h168_88, h168_89, h168_90, h168_91, h168_92, h168_94, h168_97, h168_98, h168_101, h168_102, h168_104, h168_106, h168_109, h168_110, h168_113, h168_114, h168_117, h168_120, h168_121, h168_124, h168_125, h168_126, h168_128, h168_131, h168_132, h168_133, h168_136, h168_137, h168_138, h168_141, h168_142, h168_143, h168_146, h168_147, h168_148, h168_151, h168_154, h168_156, h168_159, h168_161, h168_162, h168_165, h168_167, h168_168, h168_169, h168_170, h168_171, h168_173, h168_174, h168_175, h168_178, h168_179, h168_181, h168_182, h168_183, h168_186, h168_187, h168_190, h168_191, h168_192, h168_194, h168_197, h168_198, h168_201, h168_202, h168_205, h168_206, h168_207, h168_210, h168_211, h168_212, h168_213, h168_214, h168_217, h168_220, h168_221, h168_224, h168_225, h168_226, h168_228, h168_231, h168_232, h168_235, h168_238, h168_239, h168_240, h168_243, h168_244, h168_245, h168_248, h168_249, h168_250, h168_253, h168_256, h168_259, h168_260, h168_261, h168_264, h168_266, h168_268, h168_269, h168_272, h168_273, h168_275, h168_276, h168_277, h168_278, h168_280, h168_281, h168_282, h168_285, h168_286, h168_289, h168_292, h168_293, h168_296, h168_297, h168_300, h168_303, h168_305, h168_308, h168_309, h168_312, Option.bind_some, Option.toList_some, Option.toList_none, List.cons_append, List.nil_append, nI_ltc, nI_lec, nI_eqc, nI_ne5, n5_ne, n5_lt, bI_0, bI_1, nI_add, pk_mul, if_pos, if_neg, ite_not, if_true, if_false, not_true_eq_false, not_false_eq_true, true_and, false_and, and_true, and_false, Nat.reduceAdd, Nat.reduceMul, t2, q1, q2, q3, e2]
                    · rw [g6, u2_s]
                    · rw [g6, u2_o _ _ (by omega), u2_o _ _ (by omega), u2_o _ _ (by omega), u2_s]
                    · have hl : l ≤ lv + 1 := hl
                      dsimp only
                      rw [g6]
                      by_cases el : l = lv + 1
                      · subst el
                        rw [u2_oa (by omega), u2_oa (by omega), u2_s, u2_oa (by omega), u2_s, fup_s, fup_s]
                        exact ⟨by rw [Nat.add_sub_cancel], by decide⟩
                      · rw [u2_oa (by omega), u2_oa (by omega), u2_o _ _ (by omega), u2_oa (by omega), u2_oa (by omega), u2_oa (by omega), g3, u2_oa (by omega), u2_o _ _ (by omega), u2_oa (by omega), u2_oa (by omega), u2_oa (by omega), fup_o _ _ el, fup_o _ _ el]
                        refine ⟨(r3 l (by omega)).1, ?_⟩
                        by_cases el2 : l = lv
                        · subst el2
                          rw [u2_s, fup_s, nI_sub (by omega)]
                          exact congrArg nI (by omega)
                        · rw [u2_o _ _ (by omega), fup_o _ _ el2, g4]
                          exact (r3 l (by omega)).2
                    · rw [g6, hx]
                      exact BD_c (MR_K (Or.inr rfl) hR0 hW0 (by omega) g2 g3 g4 g5) (fun j _ => by rw [u2_oa (by omega), u2_oa (by omega), u2_oa (by omega), u2_oa (by omega), u2_oa (by omega), u2_oa (by omega)])
                    · exact Or.inl ⟨rfl, rfl, rfl⟩
                · have e2 := m_item2 (d + 1) L mu p ⟨t1, t2, t3⟩ i lv (ls lv) _ (by omega) r2 w2 hls hle hl4 ok' ⟨n1.1, nb⟩ n2
                  have t6 : mu 107 (i + 1) = nI 98 := by rw [t5, nb]
                  refine RdP_stop d L n tx p (j := i + 2) (by rw [rdr_s tx _ _ _ _ k1, rdr_s tx _ _ _ _ k2]; exact rdr_st tx (fun q => absurd q.2 (by dsimp only; omega)) (by
                    by_cases z : m = 0
                    · exact Or.inl z
                    · exact Or.inr (tk_3n (fun q => n2 ⟨by omega, q⟩)))) (FM_r mu) ?_
                  rw [h168_59]
                  simp (disch := first | omega | assumption) only [h168_0, h168_1, h168_3, h168_5, h168_8, h168_9, h168_12, h168_15, h168_16, h168_19, h168_20, h168_21, h168_22, h168_25, h168_28, h168_29, h168_30, h168_33, h168_34, h168_35, h168_38, h168_39, h168_42, h168_43, h168_45, h168_46, h168_47, h168_50, h168_51, h168_52, h168_53, h168_54, h168_55, h168_56, h168_57, h168_58, h168_60, h168_61, h168_64, h168_67, h168_68, h168_71, h168_72, h168_73, h168_76, h168_78, h168_80, h168_81, h168_84, h168_85, h168_88, h168_89, h168_90, h168_91, h168_92, h168_94, h168_97, h168_98, h168_101, h168_102, h168_104, h168_106, h168_109, h168_110, h168_113, h168_114, h168_117, h168_120, h168_121, h168_124, h168_125, h168_126, h168_128, h168_131, h168_132, h168_133, h168_136, h168_137, h168_138, h168_141, h168_142, h168_143, h168_146, h168_147, h168_148, h168_151, h168_154, h168_156, h168_159, h168_161, h168_162, h168_165, h168_167, h168_168, h168_169, h168_170, h168_171, h168_173, h168_174, h168_175, h168_178, h168_179, h168_181, h168_182, h168_183, h168_186, h168_187, h168_190, h168_191, h168_192, h168_194, h168_197, h168_198, h168_201, h168_202, h168_205, h168_206, h168_207, h168_210, h168_211, h168_212, h168_213, h168_214, h168_217, h168_220, h168_221, h168_224, h168_225, h168_226, h168_228, h168_231, h168_232, h168_235, h168_238, h168_239, h168_240, h168_243, h168_244, h168_245, h168_248, h168_249, h168_250, h168_253, h168_256, h168_259, h168_260, h168_261, h168_264, h168_266, h168_268, h168_269, h168_272, h168_273, h168_275, h168_276, h168_277, h168_278, h168_280, h168_281, h168_282, h168_285, h168_286, h168_289, h168_292, h168_293, h168_296, h168_297, h168_300, h168_303, h168_305, h168_308, h168_309, h168_312, Option.bind_some, Option.toList_some, Option.toList_none, List.cons_append, List.nil_append, nI_ltc, nI_lec, nI_eqc, nI_ne5, n5_ne, n5_lt, bI_0, bI_1, nI_add, pk_mul, if_pos, if_neg, ite_not, if_true, if_false, not_true_eq_false, not_false_eq_true, true_and, false_and, and_true, and_false, Nat.reduceAdd, Nat.reduceMul, t2, q1, q2, q3, e2, t6]
          · have e2 := m_item1 (d + 1) L mu p ⟨t1, t2, t3⟩ i lv (ls lv) _ (by omega) r2 w2 hls hle hl4 ok' n1
            refine RdP_stop d L n tx p (j := i + 1) (by rw [rdr_s tx _ _ _ _ k1]; exact rdr_st tx (fun q => absurd q.2 (by dsimp only; omega)) (by
              by_cases z : m = 0
              · exact Or.inl z
              · exact Or.inr (tk_2n (fun q => n1 ⟨by omega, q⟩)))) (FM_r mu) ?_
            rw [h168_59]
            simp (disch := first | omega | assumption) only [h168_0, h168_1, h168_3, h168_5, h168_8, h168_9, h168_12, h168_15, h168_16, h168_19, h168_20, h168_21, h168_22, h168_25, h168_28, h168_29, h168_30, h168_33, h168_34, h168_35, h168_38, h168_39, h168_42, h168_43, h168_45, h168_46, h168_47, h168_50, h168_51, h168_52, h168_53, h168_54, h168_55, h168_56, h168_57, h168_58, h168_60, h168_61, h168_64, h168_67, h168_68, h168_71, h168_72, h168_73, h168_76, h168_78, h168_80, h168_81, h168_84, h168_85, h168_88, h168_89, h168_90, h168_91, h168_92, h168_94, h168_97, h168_98, h168_101, h168_102, h168_104, h168_106, h168_109, h168_110, h168_113, h168_114, h168_117, h168_120, h168_121, h168_124, h168_125, h168_126, h168_128, h168_131, h168_132, h168_133, h168_136, h168_137, h168_138, h168_141, h168_142, h168_143, h168_146, h168_147, h168_148, h168_151, h168_154, h168_156, h168_159, h168_161, h168_162, h168_165, h168_167, h168_168, h168_169, h168_170, h168_171, h168_173, h168_174, h168_175, h168_178, h168_179, h168_181, h168_182, h168_183, h168_186, h168_187, h168_190, h168_191, h168_192, h168_194, h168_197, h168_198, h168_201, h168_202, h168_205, h168_206, h168_207, h168_210, h168_211, h168_212, h168_213, h168_214, h168_217, h168_220, h168_221, h168_224, h168_225, h168_226, h168_228, h168_231, h168_232, h168_235, h168_238, h168_239, h168_240, h168_243, h168_244, h168_245, h168_248, h168_249, h168_250, h168_253, h168_256, h168_259, h168_260, h168_261, h168_264, h168_266, h168_268, h168_269, h168_272, h168_273, h168_275, h168_276, h168_277, h168_278, h168_280, h168_281, h168_282, h168_285, h168_286, h168_289, h168_292, h168_293, h168_296, h168_297, h168_300, h168_303, h168_305, h168_308, h168_309, h168_312, Option.bind_some, Option.toList_some, Option.toList_none, List.cons_append, List.nil_append, nI_ltc, nI_lec, nI_eqc, nI_ne5, n5_ne, n5_lt, bI_0, bI_1, nI_add, pk_mul, if_pos, if_neg, ite_not, if_true, if_false, not_true_eq_false, not_false_eq_true, true_and, false_and, and_true, and_false, Nat.reduceAdd, Nat.reduceMul, t2, q1, q2, e2]
        · have e2 := m_item0 (d + 1) L mu p ⟨t1, t2, t3⟩ i lv (ls lv) _ (by omega) r2 w2 hls hle hl4 (fun q => ok q.2)
          by_cases cl : tx i = 41 ∧ lv ≠ 0 ∧ du = 0
          · obtain ⟨c1, c2, c3⟩ := cl
            subst c3
            have c4 : dq = 0 := hdu.symm
            subst c4
            have k1 : tk ((0, lv, rg, sp, cn), ob, ls, R) (tx i) = _ := tk_close0 ⟨c1, c2⟩
            have c5 : 0 < lv := by omega
            have c6 : ¬lv ≤ 0 := by omega
            have t6 : mu 107 i = nI 41 := by rw [t3i, c1]
            refine RdP_go d L n tx p (m' := m) (i' := i + 1) (en' := 1) (dq' := 0) (b4 := .inl (nI 0)) (b5 := .inl (nI 0)) (by rw [rdr_s tx _ _ _ _ k1]) (FM_u (FM_u (FM_r mu) (i := 16) (x := nI (lv - 1)) (by omega)) (i := 19) (x := nI 3) (by omega)) ?_ (ih m (i + 1) _ _ 1 0 _ _ (by omega) ⟨by omega, WF_tk hW0 k1, MR_C hR0 rfl, by dsimp only; omega, fun q => absurd q (by dsimp only; omega), fun q => absurd q (by dsimp only; omega), by omega, TX_f ⟨t1, t2, t3⟩ (FM_u (FM_u (FM_r mu) (by omega)) (by omega))⟩)
            rw [h168_59]
            simp (disch := first | omega | assumption) only [h168_0, h168_1, h168_3, h168_5, h168_8, h168_9, h168_12, h168_15, h168_16, h168_19, h168_20, h168_21, h168_22, h168_25, h168_28, h168_29, h168_30, h168_33, h168_34, h168_35, h168_38, h168_39, h168_42, h168_43, h168_45, h168_46, h168_47, h168_50, h168_51, h168_52, h168_53, h168_54, h168_55, h168_56, h168_57, h168_58, h168_60, h168_61, h168_64, h168_67, h168_68, h168_71, h168_72, h168_73, h168_76, h168_78, h168_80, h168_81, h168_84, h168_85, h168_88, h168_89, h168_90, h168_91, h168_92, h168_94, h168_97, h168_98, h168_101, h168_102, h168_104, h168_106, h168_109, h168_110, h168_113, h168_114, h168_117, h168_120, h168_121, h168_124, h168_125, h168_126, h168_128, h168_131, h168_132, h168_133, h168_136, h168_137, h168_138, h168_141, h168_142, h168_143, h168_146, h168_147, h168_148, h168_151, h168_154, h168_156, h168_159, h168_161, h168_162, h168_165, h168_167, h168_168, h168_169, h168_170, h168_171, h168_173, h168_174, h168_175, h168_178, h168_179, h168_181, h168_182, h168_183, h168_186, h168_187, h168_190, h168_191, h168_192, h168_194, h168_197, h168_198, h168_201, h168_202, h168_205, h168_206, h168_207, h168_210, h168_211, h168_212, h168_213, h168_214, h168_217, h168_220, h168_221, h168_224, h168_225, h168_226, h168_228, h168_231, h168_232, h168_235, h168_238, h168_239, h168_240, h168_243, h168_244, h168_245, h168_248, h168_249, h168_250, h168_253, h168_256, h168_259, h168_260, h168_261, h168_264, h168_266, h168_268, h168_269, h168_272, h168_273, h168_275, h168_276, h168_277, h168_278, h168_280, h168_281, h168_282, h168_285, h168_286, h168_289, h168_292, h168_293, h168_296, h168_297, h168_300, h168_303, h168_305, h168_308, h168_309, h168_312, Option.bind_some, Option.toList_some, Option.toList_none, List.cons_append, List.nil_append, nI_ltc, nI_lec, nI_eqc, nI_ne5, n5_ne, n5_lt, bI_0, bI_1, nI_add, pk_mul, if_pos, if_neg, ite_not, if_true, if_false, not_true_eq_false, not_false_eq_true, true_and, false_and, and_true, and_false, Nat.reduceAdd, Nat.reduceMul, t2, q1, q2, e2, r2, c5, c6, t6, nI_sub]
          · refine RdP_stop d L n tx p (j := i) (by rw [rdr_f tx _ _ _ (tk_item0 hd01 ok cl)]) (FM_r mu) ?_
            rw [h168_59]
            rcases hd01 with hd | hd
            · subst hd
              have c4 : dq = 0 := hdu.symm
              subst c4
              by_cases c5 : lv ≤ 0
              · simp (disch := first | omega | assumption) only [h168_0, h168_1, h168_3, h168_5, h168_8, h168_9, h168_12, h168_15, h168_16, h168_19, h168_20, h168_21, h168_22, h168_25, h168_28, h168_29, h168_30, h168_33, h168_34, h168_35, h168_38, h168_39, h168_42, h168_43, h168_45, h168_46, h168_47, h168_50, h168_51, h168_52, h168_53, h168_54, h168_55, h168_56, h168_57, h168_58, h168_60, h168_61, h168_64, h168_67, h168_68, h168_71, h168_72, h168_73, h168_76, h168_78, h168_80, h168_81, h168_84, h168_85, h168_88, h168_89, h168_90, h168_91, h168_92, h168_94, h168_97, h168_98, h168_101, h168_102, h168_104, h168_106, h168_109, h168_110, h168_113, h168_114, h168_117, h168_120, h168_121, h168_124, h168_125, h168_126, h168_128, h168_131, h168_132, h168_133, h168_136, h168_137, h168_138, h168_141, h168_142, h168_143, h168_146, h168_147, h168_148, h168_151, h168_154, h168_156, h168_159, h168_161, h168_162, h168_165, h168_167, h168_168, h168_169, h168_170, h168_171, h168_173, h168_174, h168_175, h168_178, h168_179, h168_181, h168_182, h168_183, h168_186, h168_187, h168_190, h168_191, h168_192, h168_194, h168_197, h168_198, h168_201, h168_202, h168_205, h168_206, h168_207, h168_210, h168_211, h168_212, h168_213, h168_214, h168_217, h168_220, h168_221, h168_224, h168_225, h168_226, h168_228, h168_231, h168_232, h168_235, h168_238, h168_239, h168_240, h168_243, h168_244, h168_245, h168_248, h168_249, h168_250, h168_253, h168_256, h168_259, h168_260, h168_261, h168_264, h168_266, h168_268, h168_269, h168_272, h168_273, h168_275, h168_276, h168_277, h168_278, h168_280, h168_281, h168_282, h168_285, h168_286, h168_289, h168_292, h168_293, h168_296, h168_297, h168_300, h168_303, h168_305, h168_308, h168_309, h168_312, Option.bind_some, Option.toList_some, Option.toList_none, List.cons_append, List.nil_append, nI_ltc, nI_lec, nI_eqc, nI_ne5, n5_ne, n5_lt, bI_0, bI_1, nI_add, pk_mul, if_pos, if_neg, ite_not, if_true, if_false, not_true_eq_false, not_false_eq_true, true_and, false_and, and_true, and_false, Nat.reduceAdd, Nat.reduceMul, t2, q1, q2, e2, r2, c5, Nat.add_zero]
              · have c6 : ¬tx i = 41 := fun q => cl ⟨q, by omega, rfl⟩
                simp (disch := first | omega | assumption) only [h168_0, h168_1, h168_3, h168_5, h168_8, h168_9, h168_12, h168_15, h168_16, h168_19, h168_20, h168_21, h168_22, h168_25, h168_28, h168_29, h168_30, h168_33, h168_34, h168_35, h168_38, h168_39, h168_42, h168_43, h168_45, h168_46, h168_47, h168_50, h168_51, h168_52, h168_53, h168_54, h168_55, h168_56, h168_57, h168_58, h168_60, h168_61, h168_64, h168_67, h168_68, h168_71, h168_72, h168_73, h168_76, h168_78, h168_80, h168_81, h168_84, h168_85, h168_88, h168_89, h168_90, h168_91, h168_92, h168_94, h168_97, h168_98, h168_101, h168_102, h168_104, h168_106, h168_109, h168_110, h168_113, h168_114, h168_117, h168_120, h168_121, h168_124, h168_125, h168_126, h168_128, h168_131, h168_132, h168_133, h168_136, h168_137, h168_138, h168_141, h168_142, h168_143, h168_146, h168_147, h168_148, h168_151, h168_154, h168_156, h168_159, h168_161, h168_162, h168_165, h168_167, h168_168, h168_169, h168_170, h168_171, h168_173, h168_174, h168_175, h168_178, h168_179, h168_181, h168_182, h168_183, h168_186, h168_187, h168_190, h168_191, h168_192, h168_194, h168_197, h168_198, h168_201, h168_202, h168_205, h168_206, h168_207, h168_210, h168_211, h168_212, h168_213, h168_214, h168_217, h168_220, h168_221, h168_224, h168_225, h168_226, h168_228, h168_231, h168_232, h168_235, h168_238, h168_239, h168_240, h168_243, h168_244, h168_245, h168_248, h168_249, h168_250, h168_253, h168_256, h168_259, h168_260, h168_261, h168_264, h168_266, h168_268, h168_269, h168_272, h168_273, h168_275, h168_276, h168_277, h168_278, h168_280, h168_281, h168_282, h168_285, h168_286, h168_289, h168_292, h168_293, h168_296, h168_297, h168_300, h168_303, h168_305, h168_308, h168_309, h168_312, Option.bind_some, Option.toList_some, Option.toList_none, List.cons_append, List.nil_append, nI_ltc, nI_lec, nI_eqc, nI_ne5, n5_ne, n5_lt, bI_0, bI_1, nI_add, pk_mul, if_pos, if_neg, ite_not, if_true, if_false, not_true_eq_false, not_false_eq_true, true_and, false_and, and_true, and_false, Nat.reduceAdd, Nat.reduceMul, t2, q1, q2, e2, r2, c5, c6, t3i, Nat.add_zero]
            · have c4 : dq = 1 := by omega
              subst c4
              simp (disch := first | omega | assumption) only [h168_0, h168_1, h168_3, h168_5, h168_8, h168_9, h168_12, h168_15, h168_16, h168_19, h168_20, h168_21, h168_22, h168_25, h168_28, h168_29, h168_30, h168_33, h168_34, h168_35, h168_38, h168_39, h168_42, h168_43, h168_45, h168_46, h168_47, h168_50, h168_51, h168_52, h168_53, h168_54, h168_55, h168_56, h168_57, h168_58, h168_60, h168_61, h168_64, h168_67, h168_68, h168_71, h168_72, h168_73, h168_76, h168_78, h168_80, h168_81, h168_84, h168_85, h168_88, h168_89, h168_90, h168_91, h168_92, h168_94, h168_97, h168_98, h168_101, h168_102, h168_104, h168_106, h168_109, h168_110, h168_113, h168_114, h168_117, h168_120, h168_121, h168_124, h168_125, h168_126, h168_128, h168_131, h168_132, h168_133, h168_136, h168_137, h168_138, h168_141, h168_142, h168_143, h168_146, h168_147, h168_148, h168_151, h168_154, h168_156, h168_159, h168_161, h168_162, h168_165, h168_167, h168_168, h168_169, h168_170, h168_171, h168_173, h168_174, h168_175, h168_178, h168_179, h168_181, h168_182, h168_183, h168_186, h168_187, h168_190, h168_191, h168_192, h168_194, h168_197, h168_198, h168_201, h168_202, h168_205, h168_206, h168_207, h168_210, h168_211, h168_212, h168_213, h168_214, h168_217, h168_220, h168_221, h168_224, h168_225, h168_226, h168_228, h168_231, h168_232, h168_235, h168_238, h168_239, h168_240, h168_243, h168_244, h168_245, h168_248, h168_249, h168_250, h168_253, h168_256, h168_259, h168_260, h168_261, h168_264, h168_266, h168_268, h168_269, h168_272, h168_273, h168_275, h168_276, h168_277, h168_278, h168_280, h168_281, h168_282, h168_285, h168_286, h168_289, h168_292, h168_293, h168_296, h168_297, h168_300, h168_303, h168_305, h168_308, h168_309, h168_312, Option.bind_some, Option.toList_some, Option.toList_none, List.cons_append, List.nil_append, nI_ltc, nI_lec, nI_eqc, nI_ne5, n5_ne, n5_lt, bI_0, bI_1, nI_add, pk_mul, if_pos, if_neg, ite_not, if_true, if_false, not_true_eq_false, not_false_eq_true, true_and, false_and, and_true, and_false, Nat.reduceAdd, Nat.reduceMul, t2, q1, q2, e2, Nat.add_zero]
      have ends : ∀ (en dq g : Nat), en = 1 → (du = 4 ∧ g = rg ∨ du = 6 ∧ g = 3) → mu 105 19 = nI g → dq ≤ 1 → MR mu ((du, lv, rg, sp, cn), ob, ls, R) en dq → RdP d L n tx p (m + 1) i mu ((du, lv, rg, sp, cn), ob, ls, R) en dq a4 a5 := by
        intro en dq g he hdu h19 hdq hR0
        subst he
        have hd46 : du = 4 ∨ du = 6 := by omega
        by_cases c1 : tx i = 44 ∧ ls lv < 4
        · have k1 : tk ((du, lv, rg, sp, cn), ob, ls, R) (tx i) = _ := (tk_E hd46 (by omega)).trans (tkE_1 c1)
          have t6 : mu 107 i = nI 44 := by rw [t3i, c1.1]
          have c2 : ¬3 + 1 ≤ ls lv := by omega
          refine RdP_go d L n tx p (m' := m) (i' := i + 1) (en' := 0) (dq' := 1) (by rw [rdr_s tx _ _ _ _ k1]) (FM_r mu) ?_ (ih m (i + 1) _ _ 0 1 a4 a5 (by omega) ⟨by omega, WF_tk hW0 k1, MR_E hR0, by dsimp only; omega, fun q => absurd q (by dsimp only; omega), fun _ => by omega, by omega, ⟨t1, t2, t3⟩⟩)
          rw [h168_59]
          simp (disch := first | omega | assumption) only [h168_0, h168_1, h168_3, h168_5, h168_8, h168_9, h168_12, h168_15, h168_16, h168_19, h168_20, h168_21, h168_22, h168_25, h168_28, h168_29, h168_30, h168_33, h168_34, h168_35, h168_38, h168_39, h168_42, h168_43, h168_45, h168_46, h168_47, h168_50, h168_51, h168_52, h168_53, h168_54, h168_55, h168_56, h168_57, h168_58, h168_60, h168_61, h168_64, h168_67, h168_68, h168_71, h168_72, h168_73, h168_76, h168_78, h168_80, h168_81, h168_84, h168_85, h168_88, h168_89, h168_90, h168_91, h168_92, h168_94, h168_97, h168_98, h168_101, h168_102, h168_104, h168_106, h168_109, h168_110, h168_113, h168_114, h168_117, h168_120, h168_121, h168_124, h168_125, h168_126, h168_128, h168_131, h168_132, h168_133, h168_136, h168_137, h168_138, h168_141, h168_142, h168_143, h168_146, h168_147, h168_148, h168_151, h168_154, h168_156, h168_159, h168_161, h168_162, h168_165, h168_167, h168_168, h168_169, h168_170, h168_171, h168_173, h168_174, h168_175, h168_178, h168_179, h168_181, h168_182, h168_183, h168_186, h168_187, h168_190, h168_191, h168_192, h168_194, h168_197, h168_198, h168_201, h168_202, h168_205, h168_206, h168_207, h168_210, h168_211, h168_212, h168_213, h168_214, h168_217, h168_220, h168_221, h168_224, h168_225, h168_226, h168_228, h168_231, h168_232, h168_235, h168_238, h168_239, h168_240, h168_243, h168_244, h168_245, h168_248, h168_249, h168_250, h168_253, h168_256, h168_259, h168_260, h168_261, h168_264, h168_266, h168_268, h168_269, h168_272, h168_273, h168_275, h168_276, h168_277, h168_278, h168_280, h168_281, h168_282, h168_285, h168_286, h168_289, h168_292, h168_293, h168_296, h168_297, h168_300, h168_303, h168_305, h168_308, h168_309, h168_312, Option.bind_some, Option.toList_some, Option.toList_none, List.cons_append, List.nil_append, nI_ltc, nI_lec, nI_eqc, nI_ne5, n5_ne, n5_lt, bI_0, bI_1, nI_add, pk_mul, if_pos, if_neg, ite_not, if_true, if_false, not_true_eq_false, not_false_eq_true, true_and, false_and, and_true, and_false, Nat.reduceAdd, Nat.reduceMul, t2, q1, q2, t6, r2, hls, le_ns, c2]
        · by_cases c2 : tx i = 41 ∧ lv ≠ 0
          · have k1 : tk ((du, lv, rg, sp, cn), ob, ls, R) (tx i) = _ := (tk_E hd46 (by omega)).trans (tkE_2 c2)
            have t6 : mu 107 i = nI 41 := by rw [t3i, c2.1]
            have c6 : ¬lv ≤ 0 := by omega
            refine RdP_go d L n tx p (m' := m) (i' := i + 1) (en' := 1) (dq' := dq) (by rw [rdr_s tx _ _ _ _ k1]) (FM_u (FM_u (FM_r mu) (i := 16) (x := nI (lv - 1)) (by omega)) (i := 19) (x := nI 3) (by omega)) ?_ (ih m (i + 1) _ _ 1 dq a4 a5 (by omega) ⟨by omega, WF_tk hW0 k1, MR_C hR0 rfl, by dsimp only; omega, fun q => absurd q (by dsimp only; omega), fun q => absurd q (by dsimp only; omega), by omega, TX_f ⟨t1, t2, t3⟩ (FM_u (FM_u (FM_r mu) (by omega)) (by omega))⟩)
            rw [h168_59]
            simp (disch := first | omega | assumption) only [h168_0, h168_1, h168_3, h168_5, h168_8, h168_9, h168_12, h168_15, h168_16, h168_19, h168_20, h168_21, h168_22, h168_25, h168_28, h168_29, h168_30, h168_33, h168_34, h168_35, h168_38, h168_39, h168_42, h168_43, h168_45, h168_46, h168_47, h168_50, h168_51, h168_52, h168_53, h168_54, h168_55, h168_56, h168_57, h168_58, h168_60, h168_61, h168_64, h168_67, h168_68, h168_71, h168_72, h168_73, h168_76, h168_78, h168_80, h168_81, h168_84, h168_85, h168_88, h168_89, h168_90, h168_91, h168_92, h168_94, h168_97, h168_98, h168_101, h168_102, h168_104, h168_106, h168_109, h168_110, h168_113, h168_114, h168_117, h168_120, h168_121, h168_124, h168_125, h168_126, h168_128, h168_131, h168_132, h168_133, h168_136, h168_137, h168_138, h168_141, h168_142, h168_143, h168_146, h168_147, h168_148, h168_151, h168_154, h168_156, h168_159, h168_161, h168_162, h168_165, h168_167, h168_168, h168_169, h168_170, h168_171, h168_173, h168_174, h168_175, h168_178, h168_179, h168_181, h168_182, h168_183, h168_186, h168_187, h168_190, h168_191, h168_192, h168_194, h168_197, h168_198, h168_201, h168_202, h168_205, h168_206, h168_207, h168_210, h168_211, h168_212, h168_213, h168_214, h168_217, h168_220, h168_221, h168_224, h168_225, h168_226, h168_228, h168_231, h168_232, h168_235, h168_238, h168_239, h168_240, h168_243, h168_244, h168_245, h168_248, h168_249, h168_250, h168_253, h168_256, h168_259, h168_260, h168_261, h168_264, h168_266, h168_268, h168_269, h168_272, h168_273, h168_275, h168_276, h168_277, h168_278, h168_280, h168_281, h168_282, h168_285, h168_286, h168_289, h168_292, h168_293, h168_296, h168_297, h168_300, h168_303, h168_305, h168_308, h168_309, h168_312, Option.bind_some, Option.toList_some, Option.toList_none, List.cons_append, List.nil_append, nI_ltc, nI_lec, nI_eqc, nI_ne5, n5_ne, n5_lt, bI_0, bI_1, nI_add, pk_mul, if_pos, if_neg, ite_not, if_true, if_false, not_true_eq_false, not_false_eq_true, true_and, false_and, and_true, and_false, Nat.reduceAdd, Nat.reduceMul, t2, q1, q2, r2, c6, t6, nI_sub]
          · have front : ∀ (A : Option (Option AV × AH)), zsem (d + 4) 168 259 [.inr (some 105), .inl (nI i), .inl (nI 1), .inl (nI dq), a4, a5] [] (HH L mu p) = A → zsem (d + 4) 168 59 [.inr (some 105), .inl (nI i), .inl (nI 1), .inl (nI dq), a4, a5] [] (HH L mu p) = A := by
              intro A hA
              rw [← hA, h168_59]
              by_cases c3 : tx i = 44
              · have c4 : 3 + 1 ≤ ls lv := by omega
                have t6 : mu 107 i = nI 44 := by rw [t3i, c3]
                simp (disch := first | omega | assumption) only [h168_60, h168_61, h168_64, h168_67, h168_68, h168_71, h168_72, h168_73, h168_76, h168_78, h168_80, h168_81, h168_84, h168_85, h168_88, h168_89, h168_90, h168_91, h168_92, h168_94, h168_97, h168_98, h168_101, h168_102, h168_104, h168_106, h168_109, h168_110, h168_113, h168_114, h168_117, h168_120, h168_121, h168_124, h168_125, h168_126, h168_128, h168_131, h168_132, h168_133, h168_136, h168_137, h168_138, h168_141, h168_142, h168_143, h168_146, h168_147, h168_148, h168_151, h168_154, h168_156, h168_159, h168_161, h168_162, h168_165, h168_167, h168_168, h168_169, h168_170, h168_171, h168_173, h168_174, h168_175, h168_178, h168_179, h168_181, h168_182, h168_183, h168_186, h168_187, h168_190, h168_191, h168_192, h168_194, h168_197, h168_198, h168_201, h168_202, h168_205, h168_206, h168_207, h168_210, h168_211, h168_212, h168_213, h168_214, h168_217, h168_220, h168_221, h168_224, h168_225, h168_226, h168_228, h168_231, h168_232, h168_235, h168_238, h168_239, h168_240, h168_243, h168_244, h168_245, h168_248, h168_249, h168_250, h168_253, h168_256, Option.bind_some, Option.toList_some, Option.toList_none, List.cons_append, List.nil_append, nI_ltc, nI_lec, nI_eqc, nI_ne5, n5_ne, n5_lt, bI_0, bI_1, nI_add, pk_mul, if_pos, if_neg, ite_not, if_true, if_false, not_true_eq_false, not_false_eq_true, true_and, false_and, and_true, and_false, Nat.reduceAdd, Nat.reduceMul, t2, q1, q2, t6, r2, hls, le_ns, c4]
              · by_cases c4 : tx i = 41
                · have c5 : lv ≤ 0 := by omega
                  have t6 : mu 107 i = nI 41 := by rw [t3i, c4]
                  simp (disch := first | omega | assumption) only [h168_60, h168_61, h168_64, h168_67, h168_68, h168_71, h168_72, h168_73, h168_76, h168_78, h168_80, h168_81, h168_84, h168_85, h168_88, h168_89, h168_90, h168_91, h168_92, h168_94, h168_97, h168_98, h168_101, h168_102, h168_104, h168_106, h168_109, h168_110, h168_113, h168_114, h168_117, h168_120, h168_121, h168_124, h168_125, h168_126, h168_128, h168_131, h168_132, h168_133, h168_136, h168_137, h168_138, h168_141, h168_142, h168_143, h168_146, h168_147, h168_148, h168_151, h168_154, h168_156, h168_159, h168_161, h168_162, h168_165, h168_167, h168_168, h168_169, h168_170, h168_171, h168_173, h168_174, h168_175, h168_178, h168_179, h168_181, h168_182, h168_183, h168_186, h168_187, h168_190, h168_191, h168_192, h168_194, h168_197, h168_198, h168_201, h168_202, h168_205, h168_206, h168_207, h168_210, h168_211, h168_212, h168_213, h168_214, h168_217, h168_220, h168_221, h168_224, h168_225, h168_226, h168_228, h168_231, h168_232, h168_235, h168_238, h168_239, h168_240, h168_243, h168_244, h168_245, h168_248, h168_249, h168_250, h168_253, h168_256, Option.bind_some, Option.toList_some, Option.toList_none, List.cons_append, List.nil_append, nI_ltc, nI_lec, nI_eqc, nI_ne5, n5_ne, n5_lt, bI_0, bI_1, nI_add, pk_mul, if_pos, if_neg, ite_not, if_true, if_false, not_true_eq_false, not_false_eq_true, true_and, false_and, and_true, and_false, Nat.reduceAdd, Nat.reduceMul, t2, q1, q2, t6, r2, c5]
                · simp (disch := first | omega | assumption) only [h168_60, h168_61, h168_64, h168_67, h168_68, h168_71, h168_72, h168_73, h168_76, h168_78, h168_80, h168_81, h168_84, h168_85, h168_88, h168_89, h168_90, h168_91, h168_92, h168_94, h168_97, h168_98, h168_101, h168_102, h168_104, h168_106, h168_109, h168_110, h168_113, h168_114, h168_117, h168_120, h168_121, h168_124, h168_125, h168_126, h168_128, h168_131, h168_132, h168_133, h168_136, h168_137, h168_138, h168_141, h168_142, h168_143, h168_146, h168_147, h168_148, h168_151, h168_154, h168_156, h168_159, h168_161, h168_162, h168_165, h168_167, h168_168, h168_169, h168_170, h168_171, h168_173, h168_174, h168_175, h168_178, h168_179, h168_181, h168_182, h168_183, h168_186, h168_187, h168_190, h168_191, h168_192, h168_194, h168_197, h168_198, h168_201, h168_202, h168_205, h168_206, h168_207, h168_210, h168_211, h168_212, h168_213, h168_214, h168_217, h168_220, h168_221, h168_224, h168_225, h168_226, h168_228, h168_231, h168_232, h168_235, h168_238, h168_239, h168_240, h168_243, h168_244, h168_245, h168_248, h168_249, h168_250, h168_253, h168_256, Option.bind_some, Option.toList_some, Option.toList_none, List.cons_append, List.nil_append, nI_ltc, nI_lec, nI_eqc, nI_ne5, n5_ne, n5_lt, bI_0, bI_1, nI_add, pk_mul, if_pos, if_neg, ite_not, if_true, if_false, not_true_eq_false, not_false_eq_true, true_and, false_and, and_true, and_false, Nat.reduceAdd, Nat.reduceMul, t2, q1, q2, t3i, c3, c4]
            by_cases c3 : g < 3 ∧ i < n ∧ (tx i = 109 ∨ tx i = 112)
            · have h4 : du = 4 ∧ g = rg := hdu.resolve_right (by omega)
              obtain ⟨h4, h5⟩ := h4
              subst h4
              subst h5
              have k1 : tk ((4, lv, g, sp, cn), ob, ls, R) (tx i) = _ := tk_4p ⟨c3.1, c3.2.2⟩
              by_cases c4 : i + 1 < n ∧ 48 ≤ tx (i + 1) ∧ tx (i + 1) ≤ 48 + lex (if tx i = 109 then 0 else 1)
              · cases m with
                | zero => omega
                | succ m =>
                  have e2 := m_reg2 (d + 1) L mu p ⟨t1, t2, t3⟩ i g cn (by omega) h19 w3 r1 ⟨w10 rfl, by omega⟩ c3 c4
                  have k2 : tk ((5, lv, g, (if tx i = 109 then 0 else 1), cn), ob, ls, R) (tx (i + 1)) = _ := tk_5y c4.2
                  have fm : FM mu (u2 (if cn ≤ 12 then u2 (u2 mu 106 (1446 + (20 * (cn - 1) + 3 + 3 * g)) (nI (if tx i = 109 then 0 else 1))) 106 (1446 + (20 * (cn - 1) + 3 + 3 * g) + 1) (nI (grn (if tx i = 109 then 0 else 1) * 2 ^ (tx (i + 1) - 48))) else mu) 105 19 (nI (g + 1))) := by
                    refine FM_u ?_ (by omega)
                    split
                    · exact FM_u (FM_u (FM_r mu) (by omega)) (by omega)
                    · exact FM_r mu
                  have hm5 : ∀ a, ¬a = 106 → (if cn ≤ 12 then u2 (u2 mu 106 (1446 + (20 * (cn - 1) + 3 + 3 * g)) (nI (if tx i = 109 then 0 else 1))) 106 (1446 + (20 * (cn - 1) + 3 + 3 * g) + 1) (nI (grn (if tx i = 109 then 0 else 1) * 2 ^ (tx (i + 1) - 48))) else mu) a = mu a := fun a ha => by
                    split
                    · rw [u2_row (by omega), u2_row (by omega)]
                    · rfl
                  refine RdP_go d L n tx p (m' := m) (i' := i + 2) (en' := 1) (dq' := dq) (b4 := .inl (nI 2)) (b5 := a5) (by rw [rdr_s tx _ _ _ _ k1, rdr_s tx _ _ _ _ k2]) fm ?_ (ih m (i + 2) _ _ 1 dq _ _ (by omega) ⟨by omega, WF_tk (WF_tk hW0 k1) k2, ⟨?_, ?_, fun l hl => ?_, ?_, ?_⟩, by dsimp only; omega, fun q => absurd q (by dsimp only; omega), fun q => absurd q (by dsimp only; omega), by omega, TX_f ⟨t1, t2, t3⟩ fm⟩)
                  · refine front _ ?_
                    simp (disch := first | omega | assumption) only [h168_259, h168_260, h168_261, h168_264, h168_266, h168_268, h168_269, h168_272, h168_273, h168_275, h168_276, h168_277, h168_278, h168_280, h168_281, h168_282, Option.bind_some, Option.toList_some, Option.toList_none, List.cons_append, List.nil_append, nI_ltc, nI_lec, nI_eqc, nI_ne5, n5_ne, n5_lt, bI_0, bI_1, nI_add, pk_mul, if_pos, if_neg, ite_not, if_true, if_false, not_true_eq_false, not_false_eq_true, true_and, false_and, and_true, and_false, Nat.reduceAdd, Nat.reduceMul, e2]
                  · rw [u2_o _ _ (by omega), hm5 105 (by omega)]; exact r1
                  · rw [u2_o _ _ (by omega), hm5 105 (by omega)]; exact r2
                  · rw [u2_oa (by omega), u2_oa (by omega), hm5 116 (by omega), hm5 117 (by omega)]
                    exact r3 l hl
                  · refine BD_c (mu := if cn ≤ 12 then u2 (u2 mu 106 (1446 + (20 * (cn - 1) + 3 + 3 * g)) (nI (if tx i = 109 then 0 else 1))) 106 (1446 + (20 * (cn - 1) + 3 + 3 * g) + 1) (nI (grn (if tx i = 109 then 0 else 1) * 2 ^ (tx (i + 1) - 48))) else mu) ?_ (fun j _ => by rw [u2_oa (by omega)])
                    show BD _ (regS g (if tx i = 109 then 0 else 1) cn (tx (i + 1) - 48) R)
                    unfold regS
                    by_cases c7 : cn ≤ 12
                    · rw [if_pos c7, if_pos c7]
                      have hc1 : 1 ≤ cn := w10 rfl
                      exact BD_reg r4 (by omega) c3.1 ((w12 c7).2.2.2.2 (Or.inl rfl))
                    · rw [if_neg c7, if_neg c7]
                      exact r4
                  · exact Or.inr (Or.inr (Or.inl ⟨rfl, rfl, u2_s _ _ _ _⟩))
              · have e2 := m_reg1 (d + 1) L mu p ⟨t1, t2, t3⟩ i g (by omega) h19 w3 c3 c4
                refine RdP_stop d L n tx p (j := i + 1) (by rw [rdr_s tx _ _ _ _ k1]; exact rdr_st tx (fun q => absurd q.2 (by dsimp only; omega)) (by
                  by_cases z : m = 0
                  · exact Or.inl z
                  · exact Or.inr (tk_5n (fun q => c4 ⟨by omega, q⟩)))) (FM_r mu) ?_
                refine front _ ?_
                simp (disch := first | omega | assumption) only [h168_259, h168_260, h168_261, h168_264, h168_266, h168_268, h168_269, h168_272, h168_273, h168_275, h168_276, h168_277, h168_278, h168_280, h168_281, h168_282, Option.bind_some, Option.toList_some, Option.toList_none, List.cons_append, List.nil_append, nI_ltc, nI_lec, nI_eqc, nI_ne5, n5_ne, n5_lt, bI_0, bI_1, nI_add, pk_mul, if_pos, if_neg, ite_not, if_true, if_false, not_true_eq_false, not_false_eq_true, true_and, false_and, and_true, and_false, Nat.reduceAdd, Nat.reduceMul, e2]
            · have hg3 : g ≤ 3 := by omega
              have e2 := m_reg0 (d + 1) L mu p ⟨t1, t2, t3⟩ i g (by omega) h19 hg3 c3
              have k1 : tk ((du, lv, rg, sp, cn), ob, ls, R) (tx i) = none := (tk_E hd46 (by omega)).trans (tkE_3 c1 c2)
              refine RdP_stop d L n tx p (j := i) (rdr_f tx _ _ _ k1) (FM_r mu) ?_
              refine front _ ?_
              simp (disch := first | omega | assumption) only [h168_259, h168_260, h168_261, h168_264, h168_266, h168_268, h168_269, h168_272, h168_273, h168_275, h168_276, h168_277, h168_278, h168_280, h168_281, h168_282, Option.bind_some, Option.toList_some, Option.toList_none, List.cons_append, List.nil_append, nI_ltc, nI_lec, nI_eqc, nI_ne5, n5_ne, n5_lt, bI_0, bI_1, nI_add, pk_mul, if_pos, if_neg, ite_not, if_true, if_false, not_true_eq_false, not_false_eq_true, true_and, false_and, and_true, and_false, Nat.reduceAdd, Nat.reduceMul, e2, Nat.add_zero]
      rcases r5 with ⟨h1, h2, h3⟩ | ⟨h1, h2, h3⟩ | ⟨h1, h2, h3⟩ | ⟨h1, h2, h3⟩
      · exact items en dq h1 (by omega) hdq hR0
      · exact items en dq h1 (by omega) hdq hR0
      · exact ends en dq rg h1 (Or.inl ⟨h2, rfl⟩) h3 hdq hR0
      · exact ends en dq 3 h1 (Or.inr ⟨h2, rfl⟩) h3 hdq hR0
end
