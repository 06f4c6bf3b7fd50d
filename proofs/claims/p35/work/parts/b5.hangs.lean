/-! hangs: everything together -/
/-- scratch is free -/
def FrS (mu mu' : RV) : Prop := ∀ r, (r < 81 ∨ 87 < r) → mu' r = mu r
theorem FrS.tr {mu mu1 mu2 : RV} (h : FrS mu mu1) (h' : FrS mu1 mu2) : FrS mu mu2 := fun r hr => (h' r hr).trans (h r hr)
theorem FrS.rk {mu mu' : RV} (h : FrS mu mu') {r : Nat} (hr : r + 12 ≤ 80) : rk mu' r = rk mu r := rk_cong (fun a h1 h2 => h a (by omega))
theorem Rel_fr {mu mu' : RV} {p : Nat → Nat} (h : Rel mu p) (hf : FrS mu mu') : Rel mu' p := by
  obtain ⟨hp, ⟨c, hc, h27, hh⟩, hO, hX⟩ := h
  refine ⟨hp, ⟨c, hc, by rw [hf 27 (by omega)]; exact h27, fun i hi => ?_⟩, by rw [hf.rk (by omega)]; exact hO, by rw [hf.rk (by omega)]; exact hX⟩
  rw [hf.rk (r := p i) (by rcases hp.1 i (by omega) with q | q | q | q <;> omega)]
  exact hh i hi
theorem n5_le0 : (nI 0 ≤ (-5 : Int32)) = False := by decide
theorem n1_le0 : (nI 0 ≤ (-1 : Int32)) = False := by decide
theorem sh1 : ∀ j, j < 12 → nI 1 <<< (nI j &&& 31) = nI (2 ^ j) := by decide
theorem sh16 : ∀ r, r < 7 → nI 16 <<< (nI r &&& 31) = nI (grn 0 * 2 ^ r) := by decide
theorem sh4 : ∀ r, r < 5 → nI 4 <<< (nI r &&& 31) = nI (grn 1 * 2 ^ r) := by decide
/-- the devices that were seen before the slot t of the bus e -/
def seen (R : RV) (e t M : Nat) : Prop := M < 4096 ∧ ∀ j, j < 12 → (M.testBit j = true ↔ ¬R 2 j = nI 0 ∧ (bn R j < e ∨ (bn R j = e ∧ sn R j < t)))
theorem seen_skip {R : RV} {e t M : Nat} (h : seen R e t M) (hn : ∀ j, j < 12 → ¬R 2 j = nI 0 → ¬(bn R j = e ∧ sn R j = t)) : seen R e (t + 1) M := by
  refine ⟨h.1, fun j hj => ?_⟩
  rw [h.2 j hj]
  constructor
  · rintro ⟨h1, h2⟩
    exact ⟨h1, h2.imp id (fun q => ⟨q.1, by omega⟩)⟩
  · rintro ⟨h1, h2⟩
    refine ⟨h1, h2.imp id (fun q => ⟨q.1, ?_⟩)⟩
    have := hn j hj h1
    omega
theorem seen_add {R : RV} {e t M j : Nat} (h : seen R e t M) (hj : j < 12) (hk : ¬R 2 j = nI 0) (hb : bn R j = e) (hs : sn R j = t) (hu : ∀ i, i < 12 → ¬R 2 i = nI 0 → bn R i = e → sn R i = t → i = j) : M.testBit j = false ∧ seen R e (t + 1) (M ||| 2 ^ j) := by
  refine ⟨?_, Nat.or_lt_two_pow (n := 12) h.1 (Nat.pow_lt_pow_right (by omega) hj), fun i hi => ?_⟩
  · cases q : M.testBit j
    · rfl
    · have := ((h.2 j hj).mp q).2
      omega
  · rw [Nat.testBit_or, Bool.or_eq_true, h.2 i hi, Nat.testBit_two_pow, decide_eq_true_eq]
    constructor
    · rintro (⟨h1, h2⟩ | rfl)
      · exact ⟨h1, h2.imp id (fun q => ⟨q.1, by omega⟩)⟩
      · exact ⟨hk, Or.inr ⟨hb, by omega⟩⟩
    · rintro ⟨h1, h2⟩
      by_cases q : j = i
      · exact Or.inr q
      · refine Or.inl ⟨h1, h2.imp id (fun g => ⟨g.1, ?_⟩)⟩
        have : ¬sn R i = t := fun g2 => q (hu i hi h1 g.1 g2).symm
        omega
theorem seen_up {R : RV} (hI : InvT R) {e M : Nat} (h : seen R e 4 M) : seen R (e + 1) 0 M := by
  refine ⟨h.1, fun j hj => ?_⟩
  rw [h.2 j hj]
  constructor
  · rintro ⟨h1, h2⟩
    exact ⟨h1, Or.inl (by omega)⟩
  · rintro ⟨h1, h2⟩
    have := (sn_ok hI hj h1).1
    exact ⟨h1, by omega⟩
theorem seen_0 (R : RV) : seen R 0 0 0 := ⟨by omega, fun j hj => by
  rw [Nat.zero_testBit]
  exact ⟨fun q => absurd q (by decide), fun q => by omega⟩⟩
theorem seen_end {mu : RV} (hI : InvT (rk mu 1)) {M : Nat} (h : seen (rk mu 1) 13 0 M) : nI M = nI (msk (fun j => mu 2 j = nI 1) 12) ||| nI (msk (fun j => mu 2 j = nI 2) 12) := by
  have hB : msk (fun j => mu 2 j = nI 2) 12 < 2 ^ 12 := msk_lt _ _
  have hC : msk (fun j => mu 2 j = nI 1) 12 < 2 ^ 12 := msk_lt _ _
  rw [nI_or _ _ (by omega) (by omega)]
  congr 1
  apply Nat.eq_of_testBit_eq
  intro i
  have eB : ∀ {i}, i < 12 → _ := fun {i} hi => msk_bit (fun j => mu 2 j = nI 2) i 12 hi
  have eC : ∀ {i}, i < 12 → _ := fun {i} hi => msk_bit (fun j => mu 2 j = nI 1) i 12 hi
  by_cases hi : i < 12
  · have b1 := eB hi
    have c1 := eC hi
    rw [tbit] at b1 c1
    have hm := h.2 i hi
    rw [rk_2 hi] at hm
    have hb : ¬mu 2 i = nI 0 → bn (rk mu 1) i < 13 := fun q => (hI.bus hi (by rw [rk_2 hi]; exact q)).1
    have hkk := hI.1 i hi
    rw [rk_2 hi] at hkk
    rw [Nat.testBit_or]
    generalize (msk (fun j => mu 2 j = nI 1) 12).testBit i = x at *
    generalize (msk (fun j => mu 2 j = nI 2) 12).testBit i = y at *
    generalize M.testBit i = z at *
    rcases hkk with q | q | q <;> rw [q] at hm b1 c1 hb
    · have hz : ¬z = true := fun g => (hm.mp g).1 rfl
      have hx : ¬x = true := fun g => absurd (c1.mp g) (by decide)
      have hy : ¬y = true := fun g => absurd (b1.mp g) (by decide)
      simp [hz, hx, hy]
    · have hz : z = true := hm.mpr ⟨by decide, Or.inl (hb (by decide))⟩
      have hx : x = true := c1.mpr rfl
      simp [hz, hx]
    · have hz : z = true := hm.mpr ⟨by decide, Or.inl (hb (by decide))⟩
      have hy : y = true := b1.mpr rfl
      simp [hz, hy]
  · have lt : ∀ m, m < 4096 → m.testBit i = false := fun m hm => Nat.testBit_lt_two_pow (Nat.lt_of_lt_of_le hm (Nat.pow_le_pow_right (n := 2) (i := 12) (by omega) (by omega)))
    rw [lt _ h.1, lt _ (Nat.or_lt_two_pow (n := 12) hC hB)]
section
variable (d L : Nat) (mu : RV) (p : Nat → Nat)
/-- the slots of a bus -/
theorem y_hgB (hR : Rel mu p) (e : Nat) (he : e < 13) (hk : e = 12 ∨ mu 2 e = nI 2) (x u : Int32) : ∀ m t M (w7 : AV), t + m = 4 → seen (rk mu 1) e t M → ∃ M' w7', zsem (d + 7) 25 40 [.inr (.inl (some 0)), .inl x, .inl u, .inl (nI M), .inl (nI e), .inl (nI 1), .inl (nI t), w7] [] (HH L mu p) = zsem (d + 7) 25 149 [.inr (.inl (some 0)), .inl x, .inl u, .inl (nI M'), .inl (nI e), .inl (nI 1), .inl (nI 4), w7'] [] (HH L mu p) ∧ seen (rk mu 1) e 4 M' := by
  have hO := hR.2.2.1
  have hI := hO.1
  intro m
  induction m with
  | zero =>
    intro t M w7 ht hM
    have : t = 4 := by omega
    subst this
    refine ⟨M, w7, ?_, hM⟩
    rw [h25_40]
    simp (disch := first | omega | assumption) only [h25_42, h25_43, Option.bind_some, Option.toList_some, Option.toList_none, List.cons_append, List.nil_append, nI_ltc, nI_lec, nI_eqc, nI_ne5, n5_ne, n5_lt, bI_0, bI_1, nI_add, pk_mul, if_pos, if_neg, ite_not, if_true, if_false, not_true_eq_false, not_false_eq_true, true_and, false_and, and_true, and_false, Nat.reduceAdd, Nat.reduceMul]
  | succ m ih =>
    intro t M w7 ht hM
    have c1 := y_deviceIn (d + 4) L mu p e t he hk (by omega)
    rcases sl_dev hI he (t := t) (by omega) with g | ⟨j, f1, f2, f3, f4, f5, f6⟩
    · rw [g] at c1
      have hM2 := seen_skip hM (fun j hj hkj q => by
        have := (sn_ok hI hj hkj).2
        rw [q.1, q.2, rk_5 (by omega), g, n5_ne (by omega)] at this
        exact this)
      obtain ⟨M', w7', e1, e2⟩ := ih (t + 1) M (.inl (-5)) (by omega) hM2
      have h0 : nI M ||| nI 0 = nI M := by rw [nI_or _ _ (by have := hM.1; omega) (by omega), Nat.or_zero]
      refine ⟨M', w7', ?_, e2⟩
      rw [← e1, h25_40]
      simp (disch := first | omega | assumption) only [h25_0, h25_1, h25_2, h25_3, h25_4, h25_5, h25_9, h25_11, h25_14, h25_16, h25_18, h25_21, h25_22, h25_24, h25_27, h25_30, h25_31, h25_34, h25_35, h25_37, h25_38, h25_42, h25_43, h25_46, h25_47, h25_49, h25_51, h25_54, h25_56, h25_58, h25_61, h25_63, h25_66, h25_68, h25_70, h25_73, h25_75, h25_78, h25_79, h25_81, h25_82, h25_83, h25_84, h25_85, h25_88, h25_89, h25_91, h25_94, h25_96, h25_98, h25_101, h25_102, h25_105, h25_106, h25_108, h25_111, h25_112, h25_113, h25_116, h25_119, h25_121, h25_122, h25_125, h25_126_0, h25_126_1, h25_126_b, h25_127, h25_128, h25_130, h25_133, h25_134, h25_136, h25_137, h25_140, h25_141, h25_142, h25_143, h25_146, h25_149, h25_151, h25_154, h25_155, h25_157, h25_160, h25_163, h25_164, h25_166, h25_167, h25_170, h25_173, h25_174, h25_176, h25_177, h25_180, h25_183, h25_184, h25_186, h25_187, h25_189, h25_190, h25_192, h25_195, h25_196, h25_199, h25_202, h25_203, h25_205, h25_206, h25_207, h25_208, h25_209, h25_210, h25_211, h25_214, h25_215, h25_218, h25_221, h25_222_0, h25_222_1, h25_222_b, h25_223, h25_224, h25_228, h25_229, h25_232, h25_234, h25_236, h25_239, h25_240, h25_242, h25_245, h25_248, h25_249, h25_250, h25_252, h25_254, h25_257, h25_260, h25_261, h25_263, h25_265, h25_268, h25_270, h25_273, h25_274, h25_277, h25_278, h25_279, h25_280, h25_283, h25_286, h25_288, h25_290, h25_293, h25_294, h25_296, h25_299, h25_302, h25_303, h25_305, h25_306, h25_309, h25_311, h25_312, h25_315, h25_316, h25_318, h25_319, h25_322, h25_323, h25_324, h25_327, h25_328, h25_330, h25_331, h25_334, h25_335, h25_338, h25_339_0, h25_339_1, h25_339_b, h25_340, h25_343, h25_346, h25_347, h25_348, h25_351, h25_354, h25_355, h25_356, h25_359, h25_362, h25_363, h25_366, h25_367_0, h25_367_1, h25_367_b, Option.bind_some, Option.toList_some, Option.toList_none, List.cons_append, List.nil_append, nI_ltc, nI_lec, nI_eqc, nI_ne5, n5_ne, n5_lt, bI_0, bI_1, nI_add, pk_mul, if_pos, if_neg, ite_not, if_true, if_false, not_true_eq_false, not_false_eq_true, true_and, false_and, and_true, and_false, Nat.reduceAdd, Nat.reduceMul, c1, n5_lt, n5_le0, h0, eq_self]
    · rw [f2] at c1
      have k3 : ¬rk mu 1 2 j = nI 0 := by rw [rk_2 f1]; exact f3
      have hsn := (sn_ok hI f1 k3)
      have hst : sn (rk mu 1) j = t := by
        have := slot_bk hI he (t := t) (by omega) f1 (by rw [rk_5 (by omega)]; exact f2)
        exact this.2.1
      obtain ⟨hb0, hM2⟩ := seen_add hM f1 k3 f6 hst (fun i hi hki q1 q2 => slot_dev hI (b := e) (t := t) f1 hi hki (by rw [rk_5 (by omega)]; exact f2) q1 q2)
      obtain ⟨M', w7', e1, e2⟩ := ih (t + 1) (M ||| 2 ^ j) (.inl (nI j)) (by omega) hM2
      have hbit := bit_at j f1 M hM.1
      have hz : M / 2 ^ j % 2 = 0 := by
        have : ¬M / 2 ^ j % 2 = 1 := fun q => by rw [tbit, hb0] at q; cases q
        omega
      rw [hz] at hbit
      have hp32 : 2 ^ j < 2 ^ 32 := Nat.pow_lt_pow_right (by omega) (by omega)
      have hor : nI M ||| nI (2 ^ j) = nI (M ||| 2 ^ j) := nI_or _ _ (by have := hM.1; omega) hp32
      have hsh := sh1 j f1
      have c2 := y_depth (d + 4) L mu p (fun x hx hkx => by
        obtain ⟨q1, q2, -⟩ := hI.bus hx (by rw [rk_2 hx]; exact k2_ne0 hkx)
        exact ⟨_, q1, by rw [← rk_3 (mu := mu) hx]; exact q2⟩) j e f1 f3 f4 he
      refine ⟨M', w7', ?_, e2⟩
      rw [← e1, h25_40]
      by_cases h12 : e = 12
      · subst h12
        rw [dpt_12] at c2
        simp (disch := first | omega | assumption) only [h25_0, h25_1, h25_2, h25_3, h25_4, h25_5, h25_9, h25_11, h25_14, h25_16, h25_18, h25_21, h25_22, h25_24, h25_27, h25_30, h25_31, h25_34, h25_35, h25_37, h25_38, h25_42, h25_43, h25_46, h25_47, h25_49, h25_51, h25_54, h25_56, h25_58, h25_61, h25_63, h25_66, h25_68, h25_70, h25_73, h25_75, h25_78, h25_79, h25_81, h25_82, h25_83, h25_84, h25_85, h25_88, h25_89, h25_91, h25_94, h25_96, h25_98, h25_101, h25_102, h25_105, h25_106, h25_108, h25_111, h25_112, h25_113, h25_116, h25_119, h25_121, h25_122, h25_125, h25_126_0, h25_126_1, h25_126_b, h25_127, h25_128, h25_130, h25_133, h25_134, h25_136, h25_137, h25_140, h25_141, h25_142, h25_143, h25_146, h25_149, h25_151, h25_154, h25_155, h25_157, h25_160, h25_163, h25_164, h25_166, h25_167, h25_170, h25_173, h25_174, h25_176, h25_177, h25_180, h25_183, h25_184, h25_186, h25_187, h25_189, h25_190, h25_192, h25_195, h25_196, h25_199, h25_202, h25_203, h25_205, h25_206, h25_207, h25_208, h25_209, h25_210, h25_211, h25_214, h25_215, h25_218, h25_221, h25_222_0, h25_222_1, h25_222_b, h25_223, h25_224, h25_228, h25_229, h25_232, h25_234, h25_236, h25_239, h25_240, h25_242, h25_245, h25_248, h25_249, h25_250, h25_252, h25_254, h25_257, h25_260, h25_261, h25_263, h25_265, h25_268, h25_270, h25_273, h25_274, h25_277, h25_278, h25_279, h25_280, h25_283, h25_286, h25_288, h25_290, h25_293, h25_294, h25_296, h25_299, h25_302, h25_303, h25_305, h25_306, h25_309, h25_311, h25_312, h25_315, h25_316, h25_318, h25_319, h25_322, h25_323, h25_324, h25_327, h25_328, h25_330, h25_331, h25_334, h25_335, h25_338, h25_339_0, h25_339_1, h25_339_b, h25_340, h25_343, h25_346, h25_347, h25_348, h25_351, h25_354, h25_355, h25_356, h25_359, h25_362, h25_363, h25_366, h25_367_0, h25_367_1, h25_367_b, Option.bind_some, Option.toList_some, Option.toList_none, List.cons_append, List.nil_append, nI_ltc, nI_lec, nI_eqc, nI_ne5, n5_ne, n5_lt, bI_0, bI_1, nI_add, pk_mul, if_pos, if_neg, ite_not, if_true, if_false, not_true_eq_false, not_false_eq_true, true_and, false_and, and_true, and_false, Nat.reduceAdd, Nat.reduceMul, c1, c2, hbit, hor, hsh, eq_self]
      · have k2 := hk.resolve_left h12
        have ke : ¬mu 2 e = nI 0 := k2_ne0 k2
        obtain ⟨q1, q2, q3⟩ := hI.bus (d := e) (by omega) (by rw [rk_2 (by omega)]; exact ke)
        have c3 := y_depth (d + 4) L mu p (fun x hx hkx => by
          obtain ⟨q1, q2, -⟩ := hI.bus hx (by rw [rk_2 hx]; exact k2_ne0 hkx)
          exact ⟨_, q1, by rw [← rk_3 (mu := mu) hx]; exact q2⟩) e (bn (rk mu 1) e) (by omega) ke (by rw [← rk_3 (mu := mu) (by omega)]; exact q2) q1
        have hdq := dq_s hI f1 k3 (by omega)
        unfold dq at hdq
        rw [f6] at hdq
        rw [hdq] at c2
        simp (disch := first | omega | assumption) only [h25_0, h25_1, h25_2, h25_3, h25_4, h25_5, h25_9, h25_11, h25_14, h25_16, h25_18, h25_21, h25_22, h25_24, h25_27, h25_30, h25_31, h25_34, h25_35, h25_37, h25_38, h25_42, h25_43, h25_46, h25_47, h25_49, h25_51, h25_54, h25_56, h25_58, h25_61, h25_63, h25_66, h25_68, h25_70, h25_73, h25_75, h25_78, h25_79, h25_81, h25_82, h25_83, h25_84, h25_85, h25_88, h25_89, h25_91, h25_94, h25_96, h25_98, h25_101, h25_102, h25_105, h25_106, h25_108, h25_111, h25_112, h25_113, h25_116, h25_119, h25_121, h25_122, h25_125, h25_126_0, h25_126_1, h25_126_b, h25_127, h25_128, h25_130, h25_133, h25_134, h25_136, h25_137, h25_140, h25_141, h25_142, h25_143, h25_146, h25_149, h25_151, h25_154, h25_155, h25_157, h25_160, h25_163, h25_164, h25_166, h25_167, h25_170, h25_173, h25_174, h25_176, h25_177, h25_180, h25_183, h25_184, h25_186, h25_187, h25_189, h25_190, h25_192, h25_195, h25_196, h25_199, h25_202, h25_203, h25_205, h25_206, h25_207, h25_208, h25_209, h25_210, h25_211, h25_214, h25_215, h25_218, h25_221, h25_222_0, h25_222_1, h25_222_b, h25_223, h25_224, h25_228, h25_229, h25_232, h25_234, h25_236, h25_239, h25_240, h25_242, h25_245, h25_248, h25_249, h25_250, h25_252, h25_254, h25_257, h25_260, h25_261, h25_263, h25_265, h25_268, h25_270, h25_273, h25_274, h25_277, h25_278, h25_279, h25_280, h25_283, h25_286, h25_288, h25_290, h25_293, h25_294, h25_296, h25_299, h25_302, h25_303, h25_305, h25_306, h25_309, h25_311, h25_312, h25_315, h25_316, h25_318, h25_319, h25_322, h25_323, h25_324, h25_327, h25_328, h25_330, h25_331, h25_334, h25_335, h25_338, h25_339_0, h25_339_1, h25_339_b, h25_340, h25_343, h25_346, h25_347, h25_348, h25_351, h25_354, h25_355, h25_356, h25_359, h25_362, h25_363, h25_366, h25_367_0, h25_367_1, h25_367_b, Option.bind_some, Option.toList_some, Option.toList_none, List.cons_append, List.nil_append, nI_ltc, nI_lec, nI_eqc, nI_ne5, n5_ne, n5_lt, bI_0, bI_1, nI_add, pk_mul, if_pos, if_neg, ite_not, if_true, if_false, not_true_eq_false, not_false_eq_true, true_and, false_and, and_true, and_false, Nat.reduceAdd, Nat.reduceMul, c1, c2, c3, hbit, hor, hsh, eq_self]
theorem y_hgN (hR : Rel mu p) (e : Nat) (he : e < 12) (hk : ¬mu 2 e = nI 2) (x u : Int32) : ∀ m t M (w7 : AV), t + m = 4 → seen (rk mu 1) e t M → ∃ M' w7', zsem (d + 7) 25 40 [.inr (.inl (some 0)), .inl x, .inl u, .inl (nI M), .inl (nI e), .inl (nI 0), .inl (nI t), w7] [] (HH L mu p) = zsem (d + 7) 25 149 [.inr (.inl (some 0)), .inl x, .inl u, .inl (nI M'), .inl (nI e), .inl (nI 0), .inl (nI 4), w7'] [] (HH L mu p) ∧ seen (rk mu 1) e 4 M' := by
  have hO := hR.2.2.1
  have hI := hO.1
  intro m
  induction m with
  | zero =>
    intro t M w7 ht hM
    have : t = 4 := by omega
    subst this
    refine ⟨M, w7, ?_, hM⟩
    rw [h25_40]
    simp (disch := first | omega | assumption) only [h25_42, h25_43, Option.bind_some, Option.toList_some, Option.toList_none, List.cons_append, List.nil_append, nI_ltc, nI_lec, nI_eqc, nI_ne5, n5_ne, n5_lt, bI_0, bI_1, nI_add, pk_mul, if_pos, if_neg, ite_not, if_true, if_false, not_true_eq_false, not_false_eq_true, true_and, false_and, and_true, and_false, Nat.reduceAdd, Nat.reduceMul]
  | succ m ih =>
    intro t M w7 ht hM
    have c1 := y_deviceIn_n (d + 4) L mu p e t he hk (nI t)
    have hM2 := seen_skip (t := t) hM (fun j hj hkj q => by
      have := (hI.bus hj hkj).2.2 (by omega)
      rw [q.1, rk_2 he] at this
      exact hk this)
    obtain ⟨M', w7', e1, e2⟩ := ih (t + 1) M (.inl (-1)) (by omega) hM2
    have h0 : nI M ||| nI 0 = nI M := by rw [nI_or _ _ (by have := hM.1; omega) (by omega), Nat.or_zero]
    refine ⟨M', w7', ?_, e2⟩
    rw [← e1, h25_40]
    simp (disch := first | omega | assumption) only [h25_0, h25_1, h25_2, h25_3, h25_4, h25_5, h25_9, h25_11, h25_14, h25_16, h25_18, h25_21, h25_22, h25_24, h25_27, h25_30, h25_31, h25_34, h25_35, h25_37, h25_38, h25_42, h25_43, h25_46, h25_47, h25_49, h25_51, h25_54, h25_56, h25_58, h25_61, h25_63, h25_66, h25_68, h25_70, h25_73, h25_75, h25_78, h25_79, h25_81, h25_82, h25_83, h25_84, h25_85, h25_88, h25_89, h25_91, h25_94, h25_96, h25_98, h25_101, h25_102, h25_105, h25_106, h25_108, h25_111, h25_112, h25_113, h25_116, h25_119, h25_121, h25_122, h25_125, h25_126_0, h25_126_1, h25_126_b, h25_127, h25_128, h25_130, h25_133, h25_134, h25_136, h25_137, h25_140, h25_141, h25_142, h25_143, h25_146, h25_149, h25_151, h25_154, h25_155, h25_157, h25_160, h25_163, h25_164, h25_166, h25_167, h25_170, h25_173, h25_174, h25_176, h25_177, h25_180, h25_183, h25_184, h25_186, h25_187, h25_189, h25_190, h25_192, h25_195, h25_196, h25_199, h25_202, h25_203, h25_205, h25_206, h25_207, h25_208, h25_209, h25_210, h25_211, h25_214, h25_215, h25_218, h25_221, h25_222_0, h25_222_1, h25_222_b, h25_223, h25_224, h25_228, h25_229, h25_232, h25_234, h25_236, h25_239, h25_240, h25_242, h25_245, h25_248, h25_249, h25_250, h25_252, h25_254, h25_257, h25_260, h25_261, h25_263, h25_265, h25_268, h25_270, h25_273, h25_274, h25_277, h25_278, h25_279, h25_280, h25_283, h25_286, h25_288, h25_290, h25_293, h25_294, h25_296, h25_299, h25_302, h25_303, h25_305, h25_306, h25_309, h25_311, h25_312, h25_315, h25_316, h25_318, h25_319, h25_322, h25_323, h25_324, h25_327, h25_328, h25_330, h25_331, h25_334, h25_335, h25_338, h25_339_0, h25_339_1, h25_339_b, h25_340, h25_343, h25_346, h25_347, h25_348, h25_351, h25_354, h25_355, h25_356, h25_359, h25_362, h25_363, h25_366, h25_367_0, h25_367_1, h25_367_b, Option.bind_some, Option.toList_some, Option.toList_none, List.cons_append, List.nil_append, nI_ltc, nI_lec, nI_eqc, nI_ne5, n5_ne, n5_lt, bI_0, bI_1, nI_add, pk_mul, if_pos, if_neg, ite_not, if_true, if_false, not_true_eq_false, not_false_eq_true, true_and, false_and, and_true, and_false, Nat.reduceAdd, Nat.reduceMul, c1, m1_lt, n1_le0, h0, eq_self]
/-- the regions of a card that are without a base -/
theorem y_hgR (hR : Rel mu p) (e : Nat) (he : e < 12) (hk : mu 2 e = nI 1) (x st is : Int32) (w7 : AV) : ∀ m q, q + m = 3 → zsem (d + 7) 25 226 [.inr (.inl (some 0)), .inl x, .inl (nI (cntP (fun i => nI 0 < mu 7 i ∧ mu 8 i = -5) (e * 3 + q))), .inl st, .inl (nI e), .inl is, .inl (nI q), w7] [] (HH L mu p) = zsem (d + 7) 25 286 [.inr (.inl (some 0)), .inl x, .inl (nI (cntP (fun i => nI 0 < mu 7 i ∧ mu 8 i = -5) (e * 3 + 3))), .inl st, .inl (nI e), .inl is, .inl (nI 3), w7] [] (HH L mu p) := by
  intro m
  induction m with
  | zero =>
    intro q hq
    have : q = 3 := by omega
    subst this
    rw [h25_226]
    simp (disch := first | omega | assumption) only [h25_228, h25_229, Option.bind_some, Option.toList_some, Option.toList_none, List.cons_append, List.nil_append, nI_ltc, nI_lec, nI_eqc, nI_ne5, n5_ne, n5_lt, bI_0, bI_1, nI_add, pk_mul, if_pos, if_neg, ite_not, if_true, if_false, not_true_eq_false, not_false_eq_true, true_and, false_and, and_true, and_false, Nat.reduceAdd, Nat.reduceMul]
  | succ m ih =>
    intro q hq
    have c1 := y_isCard (d + 3) L mu p e he
    rw [bI_t hk] at c1
    have c2 := y_size (d + 4) L mu p e q he hk (by omega)
    have c3 := y_base (d + 4) L mu p e q he hk (by omega)
    rw [← ih (q + 1) (by omega), h25_226]
    by_cases h1 : nI 0 < mu 7 (e * 3 + q)
    · by_cases h2 : mu 8 (e * 3 + q) = -5
      · rw [h2] at c3
        rw [show e * 3 + (q + 1) = (e * 3 + q) + 1 by omega, cnt_s _ ⟨h1, h2⟩]
        have h3 : ¬mu 7 (e * 3 + q) ≤ nI 0 := Int32.not_le.mpr h1
        simp (disch := first | omega | assumption) only [h25_0, h25_1, h25_2, h25_3, h25_4, h25_5, h25_9, h25_11, h25_14, h25_16, h25_18, h25_21, h25_22, h25_24, h25_27, h25_30, h25_31, h25_34, h25_35, h25_37, h25_38, h25_42, h25_43, h25_46, h25_47, h25_49, h25_51, h25_54, h25_56, h25_58, h25_61, h25_63, h25_66, h25_68, h25_70, h25_73, h25_75, h25_78, h25_79, h25_81, h25_82, h25_83, h25_84, h25_85, h25_88, h25_89, h25_91, h25_94, h25_96, h25_98, h25_101, h25_102, h25_105, h25_106, h25_108, h25_111, h25_112, h25_113, h25_116, h25_119, h25_121, h25_122, h25_125, h25_126_0, h25_126_1, h25_126_b, h25_127, h25_128, h25_130, h25_133, h25_134, h25_136, h25_137, h25_140, h25_141, h25_142, h25_143, h25_146, h25_149, h25_151, h25_154, h25_155, h25_157, h25_160, h25_163, h25_164, h25_166, h25_167, h25_170, h25_173, h25_174, h25_176, h25_177, h25_180, h25_183, h25_184, h25_186, h25_187, h25_189, h25_190, h25_192, h25_195, h25_196, h25_199, h25_202, h25_203, h25_205, h25_206, h25_207, h25_208, h25_209, h25_210, h25_211, h25_214, h25_215, h25_218, h25_221, h25_222_0, h25_222_1, h25_222_b, h25_223, h25_224, h25_228, h25_229, h25_232, h25_234, h25_236, h25_239, h25_240, h25_242, h25_245, h25_248, h25_249, h25_250, h25_252, h25_254, h25_257, h25_260, h25_261, h25_263, h25_265, h25_268, h25_270, h25_273, h25_274, h25_277, h25_278, h25_279, h25_280, h25_283, h25_286, h25_288, h25_290, h25_293, h25_294, h25_296, h25_299, h25_302, h25_303, h25_305, h25_306, h25_309, h25_311, h25_312, h25_315, h25_316, h25_318, h25_319, h25_322, h25_323, h25_324, h25_327, h25_328, h25_330, h25_331, h25_334, h25_335, h25_338, h25_339_0, h25_339_1, h25_339_b, h25_340, h25_343, h25_346, h25_347, h25_348, h25_351, h25_354, h25_355, h25_356, h25_359, h25_362, h25_363, h25_366, h25_367_0, h25_367_1, h25_367_b, Option.bind_some, Option.toList_some, Option.toList_none, List.cons_append, List.nil_append, nI_ltc, nI_lec, nI_eqc, nI_ne5, n5_ne, n5_lt, bI_0, bI_1, nI_add, pk_mul, if_pos, if_neg, ite_not, if_true, if_false, not_true_eq_false, not_false_eq_true, true_and, false_and, and_true, and_false, Nat.reduceAdd, Nat.reduceMul, c1, c2, c3, h3, eq_self]
      · rw [show e * 3 + (q + 1) = (e * 3 + q) + 1 by omega, cnt_n (fun i => nI 0 < mu 7 i ∧ mu 8 i = -5) (fun g => h2 g.2)]
        have h3 : ¬mu 7 (e * 3 + q) ≤ nI 0 := Int32.not_le.mpr h1
        simp (disch := first | omega | assumption) only [h25_0, h25_1, h25_2, h25_3, h25_4, h25_5, h25_9, h25_11, h25_14, h25_16, h25_18, h25_21, h25_22, h25_24, h25_27, h25_30, h25_31, h25_34, h25_35, h25_37, h25_38, h25_42, h25_43, h25_46, h25_47, h25_49, h25_51, h25_54, h25_56, h25_58, h25_61, h25_63, h25_66, h25_68, h25_70, h25_73, h25_75, h25_78, h25_79, h25_81, h25_82, h25_83, h25_84, h25_85, h25_88, h25_89, h25_91, h25_94, h25_96, h25_98, h25_101, h25_102, h25_105, h25_106, h25_108, h25_111, h25_112, h25_113, h25_116, h25_119, h25_121, h25_122, h25_125, h25_126_0, h25_126_1, h25_126_b, h25_127, h25_128, h25_130, h25_133, h25_134, h25_136, h25_137, h25_140, h25_141, h25_142, h25_143, h25_146, h25_149, h25_151, h25_154, h25_155, h25_157, h25_160, h25_163, h25_164, h25_166, h25_167, h25_170, h25_173, h25_174, h25_176, h25_177, h25_180, h25_183, h25_184, h25_186, h25_187, h25_189, h25_190, h25_192, h25_195, h25_196, h25_199, h25_202, h25_203, h25_205, h25_206, h25_207, h25_208, h25_209, h25_210, h25_211, h25_214, h25_215, h25_218, h25_221, h25_222_0, h25_222_1, h25_222_b, h25_223, h25_224, h25_228, h25_229, h25_232, h25_234, h25_236, h25_239, h25_240, h25_242, h25_245, h25_248, h25_249, h25_250, h25_252, h25_254, h25_257, h25_260, h25_261, h25_263, h25_265, h25_268, h25_270, h25_273, h25_274, h25_277, h25_278, h25_279, h25_280, h25_283, h25_286, h25_288, h25_290, h25_293, h25_294, h25_296, h25_299, h25_302, h25_303, h25_305, h25_306, h25_309, h25_311, h25_312, h25_315, h25_316, h25_318, h25_319, h25_322, h25_323, h25_324, h25_327, h25_328, h25_330, h25_331, h25_334, h25_335, h25_338, h25_339_0, h25_339_1, h25_339_b, h25_340, h25_343, h25_346, h25_347, h25_348, h25_351, h25_354, h25_355, h25_356, h25_359, h25_362, h25_363, h25_366, h25_367_0, h25_367_1, h25_367_b, Option.bind_some, Option.toList_some, Option.toList_none, List.cons_append, List.nil_append, nI_ltc, nI_lec, nI_eqc, nI_ne5, n5_ne, n5_lt, bI_0, bI_1, nI_add, pk_mul, if_pos, if_neg, ite_not, if_true, if_false, not_true_eq_false, not_false_eq_true, true_and, false_and, and_true, and_false, Nat.reduceAdd, Nat.reduceMul, c1, c2, c3, h2, h3, Nat.add_zero]
    · rw [show e * 3 + (q + 1) = (e * 3 + q) + 1 by omega, cnt_n (fun i => nI 0 < mu 7 i ∧ mu 8 i = -5) (fun g => h1 g.1)]
      have h3 : mu 7 (e * 3 + q) ≤ nI 0 := Int32.not_lt.mp h1
      simp (disch := first | omega | assumption) only [h25_0, h25_1, h25_2, h25_3, h25_4, h25_5, h25_9, h25_11, h25_14, h25_16, h25_18, h25_21, h25_22, h25_24, h25_27, h25_30, h25_31, h25_34, h25_35, h25_37, h25_38, h25_42, h25_43, h25_46, h25_47, h25_49, h25_51, h25_54, h25_56, h25_58, h25_61, h25_63, h25_66, h25_68, h25_70, h25_73, h25_75, h25_78, h25_79, h25_81, h25_82, h25_83, h25_84, h25_85, h25_88, h25_89, h25_91, h25_94, h25_96, h25_98, h25_101, h25_102, h25_105, h25_106, h25_108, h25_111, h25_112, h25_113, h25_116, h25_119, h25_121, h25_122, h25_125, h25_126_0, h25_126_1, h25_126_b, h25_127, h25_128, h25_130, h25_133, h25_134, h25_136, h25_137, h25_140, h25_141, h25_142, h25_143, h25_146, h25_149, h25_151, h25_154, h25_155, h25_157, h25_160, h25_163, h25_164, h25_166, h25_167, h25_170, h25_173, h25_174, h25_176, h25_177, h25_180, h25_183, h25_184, h25_186, h25_187, h25_189, h25_190, h25_192, h25_195, h25_196, h25_199, h25_202, h25_203, h25_205, h25_206, h25_207, h25_208, h25_209, h25_210, h25_211, h25_214, h25_215, h25_218, h25_221, h25_222_0, h25_222_1, h25_222_b, h25_223, h25_224, h25_228, h25_229, h25_232, h25_234, h25_236, h25_239, h25_240, h25_242, h25_245, h25_248, h25_249, h25_250, h25_252, h25_254, h25_257, h25_260, h25_261, h25_263, h25_265, h25_268, h25_270, h25_273, h25_274, h25_277, h25_278, h25_279, h25_280, h25_283, h25_286, h25_288, h25_290, h25_293, h25_294, h25_296, h25_299, h25_302, h25_303, h25_305, h25_306, h25_309, h25_311, h25_312, h25_315, h25_316, h25_318, h25_319, h25_322, h25_323, h25_324, h25_327, h25_328, h25_330, h25_331, h25_334, h25_335, h25_338, h25_339_0, h25_339_1, h25_339_b, h25_340, h25_343, h25_346, h25_347, h25_348, h25_351, h25_354, h25_355, h25_356, h25_359, h25_362, h25_363, h25_366, h25_367_0, h25_367_1, h25_367_b, Option.bind_some, Option.toList_some, Option.toList_none, List.cons_append, List.nil_append, nI_ltc, nI_lec, nI_eqc, nI_ne5, n5_ne, n5_lt, bI_0, bI_1, nI_add, pk_mul, if_pos, if_neg, ite_not, if_true, if_false, not_true_eq_false, not_false_eq_true, true_and, false_and, and_true, and_false, Nat.reduceAdd, Nat.reduceMul, c1, c2, c3, h3, Nat.add_zero]
end
