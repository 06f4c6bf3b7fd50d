/-! regions and reserves -/
theorem isRk_1 : isRk 1 := Or.inl rfl
theorem InvW_sub {R R' : RV} {s : Nat} (h2 : R' 2 = R 2) (h3 : R' 3 = R 3) (h10 : R' 10 = R 10) (h11 : R' 11 = R 11)
    (hc : ∀ d q a n, d < 12 → q < 3 → cov R' s d q a n → cov R s d q a n) (h8 : ∀ d q, d < 12 → q < 3 → R' 8 (d * 3 + q) = -5 ∨ R' 8 (d * 3 + q) = R 8 (d * 3 + q)) (h : InvW R s) : InvW R' s := by
  obtain ⟨a, b, c, e⟩ := h
  refine ⟨fun d q hd hq => ?_, fun d hd => by rw [h10, h11]; exact b d hd, fun d q x n hd hq hcv => ?_, fun d q d' q' x n x' n' hd hq hd' hq' hn hb c1 c2 => ?_⟩
  · rcases h8 d q hd hq with g | g
    · exact Or.inl g
    · rw [g]; exact a d q hd hq
  · obtain ⟨g1, g2, g3, a0, n0, g4, g5⟩ := c d q x n hd hq (hc d q x n hd hq hcv)
    refine ⟨g1, g2, g3, a0, n0, ?_, g5⟩
    unfold room at *
    rw [h2, h10, h11, bn_cong h3]
    exact g4
  · rw [bn_cong h3] at hb
    exact e d q d' q' x n x' n' hd hq hd' hq' hn hb (hc d q x n hd hq c1) (hc d' q' x' n' hd' hq' c2)
theorem cov_reg {R : RV} {j q s d q' a n : Nat} {x y : Int32} (hq : q < 3) (hq' : q' < 3) (hk : R 2 j = nI 1) (h : cov (u2 (u2 (u2 R 6 (j * 3 + q) x) 7 (j * 3 + q) y) 8 (j * 3 + q) (-5)) s d q' a n) : cov R s d q' a n := by
  obtain ⟨h1, h2, h3⟩ := h
  refine ⟨h1, h2, ?_⟩
  by_cases hdq : d * 3 + q' = j * 3 + q
  · rcases h3 with ⟨g1, g2, g3, g4⟩ | ⟨g1, g2, g3, g4⟩
    · rw [u2_e _ _ ⟨rfl, hdq⟩, n5_ne (by omega)] at g3
      exact g3.elim
    · have : d = j := by omega
      subst this
      simp (disch := omega) only [u2_o] at g2
      rw [hk] at g2
      exact absurd g2 (by decide)
  · simp (disch := omega) only [u2_o] at h3
    exact h3
theorem OK_region {R : RV} (h : OK R) {j q sp : Nat} {y : Int32} (hj : j < 12) (hq : q < 3) (hsp : sp < 2) (hk : R 2 j = nI 1) (hy : y = nI 0 ∨ szP sp y) : OK (u2 (u2 (u2 R 6 (j * 3 + q) (nI sp)) 7 (j * 3 + q) y) 8 (j * 3 + q) (-5)) := by
  obtain ⟨i1, i2, i3, i4, i5, i6, i7, i8⟩ := h
  have rows : ∀ a, ¬a = 6 → ¬a = 7 → ¬a = 8 → u2 (u2 (u2 R 6 (j * 3 + q) (nI sp)) 7 (j * 3 + q) y) 8 (j * 3 + q) (-5) a = R a := fun a h6 h7 h8 => by
    rw [u2_row h8, u2_row h7, u2_row h6]
  have r8 : ∀ d q', d < 12 → q' < 3 → u2 (u2 (u2 R 6 (j * 3 + q) (nI sp)) 7 (j * 3 + q) y) 8 (j * 3 + q) (-5) 8 (d * 3 + q') = -5 ∨ u2 (u2 (u2 R 6 (j * 3 + q) (nI sp)) 7 (j * 3 + q) y) 8 (j * 3 + q) (-5) 8 (d * 3 + q') = R 8 (d * 3 + q') := fun d q' hd hq' => by
    by_cases hdq : d * 3 + q' = j * 3 + q
    · exact Or.inl (u2_e _ _ ⟨rfl, hdq⟩)
    · exact Or.inr (by simp (disch := omega) only [u2_o])
  refine ⟨InvT_cong (rows 2 (by omega) (by omega) (by omega)) (rows 3 (by omega) (by omega) (by omega)) (rows 4 (by omega) (by omega) (by omega)) (rows 5 (by omega) (by omega) (by omega)) i1, ⟨fun d hd hkd q' hq' => ?_, fun d hd hkd => ?_⟩, InvG_cong (rows 1 (by omega) (by omega) (by omega)) i3, fun d q' hd hq' => ?_, InvR_cong (rows 9 (by omega) (by omega) (by omega)) i5, InvN_cong (rows 3 (by omega) (by omega) (by omega)) (rows 12 (by omega) (by omega) (by omega)) (rows 13 (by omega) (by omega) (by omega)) i6, ?_, ?_⟩
  · rw [rows 2 (by omega) (by omega) (by omega)] at hkd
    have hdj : ¬d = j := fun e => by subst e; exact hkd hk
    simp (disch := omega) only [u2_o]
    exact i2.1 d hd hkd q' hq'
  · rw [rows 2 (by omega) (by omega) (by omega)] at hkd
    rw [rows 12 (by omega) (by omega) (by omega), rows 13 (by omega) (by omega) (by omega), rows 10 (by omega) (by omega) (by omega), rows 11 (by omega) (by omega) (by omega), rows 9 (by omega) (by omega) (by omega)]
    exact i2.2 d hd hkd
  · by_cases hdq : d * 3 + q' = j * 3 + q
    · refine ⟨sp, hsp, ?_, ?_⟩
      · simp (disch := omega) only [u2_o, u2_e]
      · simp (disch := omega) only [u2_o, u2_e]
        rcases hy with q | ⟨e, he, q⟩
        · exact Or.inl ⟨q, trivial⟩
        · exact Or.inr ⟨e, he, q⟩
    · simp (disch := omega) only [u2_o]
      exact i4 d q' hd hq'
  · exact InvW_sub (rows 2 (by omega) (by omega) (by omega)) (rows 3 (by omega) (by omega) (by omega)) (rows 10 (by omega) (by omega) (by omega)) (rows 11 (by omega) (by omega) (by omega)) (fun d q' a n hd hq' => cov_reg hq hq' hk) r8 i7
  · exact InvW_sub (rows 2 (by omega) (by omega) (by omega)) (rows 3 (by omega) (by omega) (by omega)) (rows 10 (by omega) (by omega) (by omega)) (rows 11 (by omega) (by omega) (by omega)) (fun d q' a n hd hq' => cov_reg hq hq' hk) r8 i8
theorem OK_reserve {R : RV} (h : OK R) {j s m : Nat} (hj : j < 12) (hs : s < 2) (hk : R 2 j = nI 2) (hm : m ≤ 16) : OK (u2 R 9 (j * 2 + s) (nI (m * grn s))) := by
  obtain ⟨i1, i2, i3, i4, i5, i6, i7, i8⟩ := h
  have rows : ∀ a, ¬a = 9 → u2 R 9 (j * 2 + s) (nI (m * grn s)) a = R a := fun a h9 => u2_row h9
  refine ⟨InvT_cong ?_ ?_ ?_ ?_ i1, ⟨fun d hd hkd q hq => ?_, fun d hd hkd => ?_⟩, InvG_cong ?_ i3, InvS_cong ?_ ?_ ?_ i4, fun d s' hd hs' => ?_, InvN_cong ?_ ?_ ?_ i6, InvW_cong ?_ ?_ ?_ ?_ ?_ ?_ ?_ i7, InvW_cong ?_ ?_ ?_ ?_ ?_ ?_ ?_ i8⟩
  case refine_5 =>
    rw [rows 2 (by omega)] at hkd
    rw [rows 7 (by omega), rows 8 (by omega)]
    exact i2.1 d hd hkd q hq
  case refine_6 =>
    rw [rows 2 (by omega)] at hkd
    have hdj : ¬d = j := fun e => by subst e; exact hkd hk
    rw [rows 12 (by omega), rows 13 (by omega), rows 10 (by omega), rows 11 (by omega)]
    obtain ⟨a1, a2, a3⟩ := i2.2 d hd hkd
    refine ⟨a1, a2, fun s' hs' => ?_⟩
    rw [u2_o _ _ (by omega)]
    exact a3 s' hs'
  case refine_11 =>
    by_cases e : d * 2 + s' = j * 2 + s
    · have : s' = s := by omega
      subst this
      exact ⟨m, hm, u2_e _ _ ⟨rfl, e⟩⟩
    · rw [u2_o _ _ (by omega)]
      exact i5 d s' hd hs'
  all_goals exact rows _ (by omega)
section
variable (d L : Nat) (mu : RV) (p : Nat → Nat)
theorem op_setRegion (h : Rel mu p) (x y z w : Int32) : Pair (d + 5) L 21 [.inl x, .inl y, .inl z, .inl w, .inr none] 131 [.inl x, .inl y, .inl z, .inl w, .inr none, .inr none] mu p := by
  rcases ixo x 12 (by omega) with ⟨j, hj, rfl⟩ | hx
  · have hk2 := h.kind hj
    by_cases hk : mu 2 j = nI 1
    · rcases ixo y 3 (by omega) with ⟨q, hq, rfl⟩ | hy
      · rcases spx z with ⟨s, hs, rfl⟩ | ⟨hz, hz2⟩
        · have k1 := isRk_1
          obtain ⟨v1, c1, c2, c3⟩ := z_isSizeOf (d + 2) L mu p s hs w
          by_cases hw : w = nI 0 ∨ szP s w
          · obtain ⟨mu1, p1, e1, hr⟩ := z_rec (d + 3) L mu p h
            obtain ⟨mu3, e2, hm⟩ := rec_m (d + 3) L h hr (mu2 := u2 (u2 (u2 mu1 6 (j * 3 + q) (nI s)) 7 (j * 3 + q) w) 8 (j * 3 + q) (-5)) (fun a ha => by rw [u2_row (by omega), u2_row (by omega), u2_row (by omega)])
            obtain ⟨v2, m1, m2, m3⟩ := m_isSize (d + 3) L (u2 (u2 (u2 mu1 6 (j * 3 + q) (nI s)) 7 (j * 3 + q) w) 8 (j * 3 + q) (-5)) p1 s hs w
            have g1 : mu1 7 (j * 3 + q) = mu 7 (j * 3 + q) := by rw [hr.2.1 7 (by omega)]
            have g2 : mu3 106 (20 * j + 3 + 3 * q + 1) = mu 7 (j * 3 + q) := by rw [hm.b0 (by omega)]; exact (h.reg hj (k1_ne0 hk) hq).1
            have g3 : (u2 (u2 (u2 mu1 6 (j * 3 + q) (nI s)) 7 (j * 3 + q) w) 8 (j * 3 + q) (-5)) 106 (20 * j) = nI 1 := by
              rw [u2_row (by omega), u2_row (by omega), u2_row (by omega), hr.2.1 106 (by omega), hk2]; exact hk
            refine ⟨mu 7 (j * 3 + q), u2 (u2 (u2 mu1 6 (j * 3 + q) (nI s)) 7 (j * 3 + q) w) 8 (j * 3 + q) (-5), p1, u2 (u2 (u2 mu3 106 (20 * j + 3 + 3 * q) (nI s)) 106 (20 * j + 3 + 3 * q + 1) w) 106 (20 * j + 3 + 3 * q + 2) (-5), ?_, ?_, ?_⟩
            · by_cases hw0 : w = nI 0
              · simp (disch := first | omega | assumption) only [h21_0, h21_1, h21_4, h21_5, h21_8, h21_11, h21_12, h21_15, h21_18, h21_19, h21_20, h21_21, h21_24, h21_27, h21_29, h21_32, h21_33, h21_35, h21_38, h21_41, h21_43, h21_44, h21_45, h21_48, h21_49, h21_52, h21_55, h21_56, h21_59, h21_62, h21_63, h21_64, h21_67, h21_68, h21_70, h21_71, h21_74, h21_75, h21_76, h21_77, h21_79, h21_82, h21_84, Option.bind_some, Option.toList_some, Option.toList_none, List.cons_append, List.nil_append, nI_ltc, nI_lec, nI_eqc, nI_ne5, n5_ne, n5_lt, bI_0, bI_1, nI_add, pk_mul, if_pos, if_neg, ite_not, if_true, if_false, not_true_eq_false, not_false_eq_true, true_and, false_and, and_true, and_false, Nat.reduceAdd, Nat.reduceMul, z_isCard_n, hk, z_isRegion_n, z_isSpace_n, hw0, e1, z_regionIndex, g1, z_changeRegion]
              · rw [c2 (hw.resolve_left hw0)] at c1
                simp (disch := first | omega | assumption) only [h21_0, h21_1, h21_4, h21_5, h21_8, h21_11, h21_12, h21_15, h21_18, h21_19, h21_20, h21_21, h21_24, h21_27, h21_29, h21_32, h21_33, h21_35, h21_38, h21_41, h21_43, h21_44, h21_45, h21_48, h21_49, h21_52, h21_55, h21_56, h21_59, h21_62, h21_63, h21_64, h21_67, h21_68, h21_70, h21_71, h21_74, h21_75, h21_76, h21_77, h21_79, h21_82, h21_84, Option.bind_some, Option.toList_some, Option.toList_none, List.cons_append, List.nil_append, nI_ltc, nI_lec, nI_eqc, nI_ne5, n5_ne, n5_lt, bI_0, bI_1, nI_add, pk_mul, if_pos, if_neg, ite_not, if_true, if_false, not_true_eq_false, not_false_eq_true, true_and, false_and, and_true, and_false, Nat.reduceAdd, Nat.reduceMul, z_isCard_n, hk, z_isRegion_n, z_isSpace_n, hw0, c1, e1, z_regionIndex, g1, z_changeRegion]
            · by_cases hw0 : w = nI 0
              · subst hw0
                simp (disch := first | omega | assumption) only [h131_0, h131_1, h131_2, h131_3, h131_6, h131_9, h131_10, h131_11, h131_12, h131_15, h131_18, h131_20, h131_23, h131_24, h131_26, h131_29, h131_32, h131_34, h131_35, h131_36, h131_39, h131_40, h131_41, h131_44, h131_46, h131_47, h131_50, h131_52, h131_53, h131_54, h131_55, h131_57, h131_58, h131_61, h131_63, h131_64, h131_65, h131_66, h131_69, h131_71, h131_72, h131_73, h131_75, h131_76, h131_77, h131_80, h131_82, h131_83, h131_84, h131_86, h131_87, h131_89, Option.bind_some, Option.toList_some, Option.toList_none, List.cons_append, List.nil_append, nI_ltc, nI_lec, nI_eqc, nI_ne5, n5_ne, n5_lt, bI_0, bI_1, nI_add, pk_mul, if_pos, if_neg, ite_not, if_true, if_false, not_true_eq_false, not_false_eq_true, true_and, false_and, and_true, and_false, Nat.reduceAdd, Nat.reduceMul, m_isReg_n, g3, m_isSpace_n, e2, m_regionAt, g2]
              · rw [m2 (hw.resolve_left hw0)] at m1
                simp (disch := first | omega | assumption) only [h131_0, h131_1, h131_2, h131_3, h131_6, h131_9, h131_10, h131_11, h131_12, h131_15, h131_18, h131_20, h131_23, h131_24, h131_26, h131_29, h131_32, h131_34, h131_35, h131_36, h131_39, h131_40, h131_41, h131_44, h131_46, h131_47, h131_50, h131_52, h131_53, h131_54, h131_55, h131_57, h131_58, h131_61, h131_63, h131_64, h131_65, h131_66, h131_69, h131_71, h131_72, h131_73, h131_75, h131_76, h131_77, h131_80, h131_82, h131_83, h131_84, h131_86, h131_87, h131_89, Option.bind_some, Option.toList_some, Option.toList_none, List.cons_append, List.nil_append, nI_ltc, nI_lec, nI_eqc, nI_ne5, n5_ne, n5_lt, bI_0, bI_1, nI_add, pk_mul, if_pos, if_neg, ite_not, if_true, if_false, not_true_eq_false, not_false_eq_true, true_and, false_and, and_true, and_false, Nat.reduceAdd, Nat.reduceMul, m_isReg_n, g3, m_isSpace_n, hw0, m1, e2, m_regionAt, g2]
            · have eR : rk (u2 (u2 (u2 mu1 6 (j * 3 + q) (nI s)) 7 (j * 3 + q) w) 8 (j * 3 + q) (-5)) 1 = u2 (u2 (u2 (rk mu 1) 6 (j * 3 + q) (nI s)) 7 (j * 3 + q) w) 8 (j * 3 + q) (-5) := by
                have l6 : rlen 6 = 36 := rfl
                have l7 : rlen 7 = 36 := rfl
                have l8 : rlen 8 = 36 := rfl
                rw [rk_u (by omega) (by omega), rk_u (by omega) (by omega), rk_u (by omega) (by omega), hr.rk]
              have hk' : rk mu 1 2 j = nI 1 := by rw [rk_2 hj]; exact hk
              refine hm.fin (fun a ha => by rw [u2_row (by omega), u2_row (by omega), u2_row (by omega)]) (fun i hi => by rw [u2_row (by omega), u2_row (by omega), u2_row (by omega)]) (fun t h1 h2 => by simp (disch := omega) only [u2_o]) ?_ ?_
              · rw [eR]
                exact OK_region h.2.2.1 hj hq hs hk' hw
              · rw [eR]
                refine RelB_of ?_ (fun d hd => ?_)
                · simp (disch := omega) only [u2_o]
                  rw [hm.b0 (by omega)]
                  exact h.B.1
                · by_cases hdj : d = j
                  · subst hdj
                    obtain ⟨h0, h1⟩ := h.B.dv hd
                    obtain ⟨a1, a2, a3, a4, a5, a6⟩ := h1 (k1_ne0 hk')
                    refine ⟨?_, fun _ => ⟨?_, ?_, fun q' hq' => ?_, ?_, ?_, fun s' hs' => ?_⟩⟩
                    · simp (disch := omega) only [u2_o]
                      rw [hm.b0 (by omega)]; exact h0
                    · simp (disch := omega) only [u2_o]
                      rw [hm.b0 (by omega)]; exact a1
                    · simp (disch := omega) only [u2_o]
                      rw [hm.b0 (by omega)]; exact a2
                    · by_cases hqq : q' = q
                      · subst hqq
                        simp (disch := omega) only [u2_o, u2_e]
                        exact ⟨trivial, trivial, fun _ => trivial⟩
                      · simp (disch := omega) only [u2_o]
                        rw [hm.b0 (by omega), hm.b0 (by omega), hm.b0 (by omega)]
                        exact a3 q' hq'
                    · simp (disch := omega) only [u2_o]
                      rw [hm.b0 (by omega)]; exact a4
                    · simp (disch := omega) only [u2_o]
                      rw [hm.b0 (by omega)]; exact a5
                    · simp (disch := omega) only [u2_o]
                      rw [hm.b0 (by omega), hm.b0 (by omega), hm.b0 (by omega)]
                      exact a6 s' hs'
                  · refine RelD_cong (h.B.dv hd) (fun k hk => ?_) (fun a ha => ?_) (fun a q' ha hq' => ?_) (fun a q' ha hq' => ?_)
                    · simp (disch := omega) only [u2_o]
                      exact hm.b0 (by omega)
                    · simp (disch := omega) only [u2_o]
                    · simp (disch := omega) only [u2_o]
                    · simp (disch := omega) only [u2_o]
          · have hw0 : ¬w = nI 0 := fun q => hw (Or.inl q)
            have hw1 : ¬szP s w := fun q => hw (Or.inr q)
            obtain ⟨v2, m1, m2, m3⟩ := m_isSize (d + 3) L mu p s hs w
            rw [c3 hw1] at c1
            rw [m3 hw1] at m1
            refine ⟨-2, mu, p, mu, ?_, ?_, h⟩
            · simp (disch := first | omega | assumption) only [h21_0, h21_1, h21_4, h21_5, h21_8, h21_11, h21_12, h21_15, h21_18, h21_19, h21_20, h21_21, h21_24, h21_27, h21_29, h21_32, h21_33, h21_35, h21_38, h21_41, h21_43, h21_44, h21_45, h21_48, h21_49, h21_52, h21_55, h21_56, h21_59, h21_62, h21_63, h21_64, h21_67, h21_68, h21_70, h21_71, h21_74, h21_75, h21_76, h21_77, h21_79, h21_82, h21_84, Option.bind_some, Option.toList_some, Option.toList_none, List.cons_append, List.nil_append, nI_ltc, nI_lec, nI_eqc, nI_ne5, n5_ne, n5_lt, bI_0, bI_1, nI_add, pk_mul, if_pos, if_neg, ite_not, if_true, if_false, not_true_eq_false, not_false_eq_true, true_and, false_and, and_true, and_false, Nat.reduceAdd, Nat.reduceMul, z_isCard_n, hk, z_isRegion_n, z_isSpace_n, hw0, c1]
            · simp (disch := first | omega | assumption) only [h131_0, h131_1, h131_2, h131_3, h131_6, h131_9, h131_10, h131_11, h131_12, h131_15, h131_18, h131_20, h131_23, h131_24, h131_26, h131_29, h131_32, h131_34, h131_35, h131_36, h131_39, h131_40, h131_41, h131_44, h131_46, h131_47, h131_50, h131_52, h131_53, h131_54, h131_55, h131_57, h131_58, h131_61, h131_63, h131_64, h131_65, h131_66, h131_69, h131_71, h131_72, h131_73, h131_75, h131_76, h131_77, h131_80, h131_82, h131_83, h131_84, h131_86, h131_87, h131_89, Option.bind_some, Option.toList_some, Option.toList_none, List.cons_append, List.nil_append, nI_ltc, nI_lec, nI_eqc, nI_ne5, n5_ne, n5_lt, bI_0, bI_1, nI_add, pk_mul, if_pos, if_neg, ite_not, if_true, if_false, not_true_eq_false, not_false_eq_true, true_and, false_and, and_true, and_false, Nat.reduceAdd, Nat.reduceMul, m_isReg_n, hk2, hk, m_isSpace_n, hw0, m1]
        · refine ⟨-2, mu, p, mu, ?_, ?_, h⟩
          · simp (disch := first | omega | assumption) only [h21_0, h21_1, h21_4, h21_5, h21_8, h21_11, h21_12, h21_15, h21_18, h21_19, h21_20, h21_21, h21_24, h21_27, h21_29, h21_32, h21_33, h21_35, h21_38, h21_41, h21_43, h21_44, h21_45, h21_48, h21_49, h21_52, h21_55, h21_56, h21_59, h21_62, h21_63, h21_64, h21_67, h21_68, h21_70, h21_71, h21_74, h21_75, h21_76, h21_77, h21_79, h21_82, h21_84, Option.bind_some, Option.toList_some, Option.toList_none, List.cons_append, List.nil_append, nI_ltc, nI_lec, nI_eqc, nI_ne5, n5_ne, n5_lt, bI_0, bI_1, nI_add, pk_mul, if_pos, if_neg, ite_not, if_true, if_false, not_true_eq_false, not_false_eq_true, true_and, false_and, and_true, and_false, Nat.reduceAdd, Nat.reduceMul, z_isCard_n, hk, z_isRegion_n, z_isSpace_o]
          · simp (disch := first | omega | assumption) only [h131_0, h131_1, h131_2, h131_3, h131_6, h131_9, h131_10, h131_11, h131_12, h131_15, h131_18, h131_20, h131_23, h131_24, h131_26, h131_29, h131_32, h131_34, h131_35, h131_36, h131_39, h131_40, h131_41, h131_44, h131_46, h131_47, h131_50, h131_52, h131_53, h131_54, h131_55, h131_57, h131_58, h131_61, h131_63, h131_64, h131_65, h131_66, h131_69, h131_71, h131_72, h131_73, h131_75, h131_76, h131_77, h131_80, h131_82, h131_83, h131_84, h131_86, h131_87, h131_89, Option.bind_some, Option.toList_some, Option.toList_none, List.cons_append, List.nil_append, nI_ltc, nI_lec, nI_eqc, nI_ne5, n5_ne, n5_lt, bI_0, bI_1, nI_add, pk_mul, if_pos, if_neg, ite_not, if_true, if_false, not_true_eq_false, not_false_eq_true, true_and, false_and, and_true, and_false, Nat.reduceAdd, Nat.reduceMul, m_isReg_n, hk2, hk, m_isSpace_o]
      · refine ⟨-1, mu, p, mu, ?_, ?_, h⟩
        · simp (disch := first | omega | assumption) only [h21_0, h21_1, h21_4, h21_5, h21_8, h21_11, h21_12, h21_15, h21_18, h21_19, h21_20, h21_21, h21_24, h21_27, h21_29, h21_32, h21_33, h21_35, h21_38, h21_41, h21_43, h21_44, h21_45, h21_48, h21_49, h21_52, h21_55, h21_56, h21_59, h21_62, h21_63, h21_64, h21_67, h21_68, h21_70, h21_71, h21_74, h21_75, h21_76, h21_77, h21_79, h21_82, h21_84, Option.bind_some, Option.toList_some, Option.toList_none, List.cons_append, List.nil_append, nI_ltc, nI_lec, nI_eqc, nI_ne5, n5_ne, n5_lt, bI_0, bI_1, nI_add, pk_mul, if_pos, if_neg, ite_not, if_true, if_false, not_true_eq_false, not_false_eq_true, true_and, false_and, and_true, and_false, Nat.reduceAdd, Nat.reduceMul, z_isCard_n, hk, z_isRegion_o]
        · simp (disch := first | omega | assumption) only [h131_0, h131_1, h131_2, h131_3, h131_6, h131_9, h131_10, h131_11, h131_12, h131_15, h131_18, h131_20, h131_23, h131_24, h131_26, h131_29, h131_32, h131_34, h131_35, h131_36, h131_39, h131_40, h131_41, h131_44, h131_46, h131_47, h131_50, h131_52, h131_53, h131_54, h131_55, h131_57, h131_58, h131_61, h131_63, h131_64, h131_65, h131_66, h131_69, h131_71, h131_72, h131_73, h131_75, h131_76, h131_77, h131_80, h131_82, h131_83, h131_84, h131_86, h131_87, h131_89, Option.bind_some, Option.toList_some, Option.toList_none, List.cons_append, List.nil_append, nI_ltc, nI_lec, nI_eqc, nI_ne5, n5_ne, n5_lt, bI_0, bI_1, nI_add, pk_mul, if_pos, if_neg, ite_not, if_true, if_false, not_true_eq_false, not_false_eq_true, true_and, false_and, and_true, and_false, Nat.reduceAdd, Nat.reduceMul, m_isReg_o]
    · have e := m_isRegion_n (d + 1) L mu p j hj y
      rw [bI_f (fun q => hk (by rw [← hk2]; exact q.1))] at e
      refine ⟨-1, mu, p, mu, ?_, ?_, h⟩
      · simp (disch := first | omega | assumption) only [h21_0, h21_1, h21_4, h21_5, h21_8, h21_11, h21_12, h21_15, h21_18, h21_19, h21_20, h21_21, h21_24, h21_27, h21_29, h21_32, h21_33, h21_35, h21_38, h21_41, h21_43, h21_44, h21_45, h21_48, h21_49, h21_52, h21_55, h21_56, h21_59, h21_62, h21_63, h21_64, h21_67, h21_68, h21_70, h21_71, h21_74, h21_75, h21_76, h21_77, h21_79, h21_82, h21_84, Option.bind_some, Option.toList_some, Option.toList_none, List.cons_append, List.nil_append, nI_ltc, nI_lec, nI_eqc, nI_ne5, n5_ne, n5_lt, bI_0, bI_1, nI_add, pk_mul, if_pos, if_neg, ite_not, if_true, if_false, not_true_eq_false, not_false_eq_true, true_and, false_and, and_true, and_false, Nat.reduceAdd, Nat.reduceMul, z_isCard_n, hk]
      · simp (disch := first | omega | assumption) only [h131_0, h131_1, h131_2, h131_3, h131_6, h131_9, h131_10, h131_11, h131_12, h131_15, h131_18, h131_20, h131_23, h131_24, h131_26, h131_29, h131_32, h131_34, h131_35, h131_36, h131_39, h131_40, h131_41, h131_44, h131_46, h131_47, h131_50, h131_52, h131_53, h131_54, h131_55, h131_57, h131_58, h131_61, h131_63, h131_64, h131_65, h131_66, h131_69, h131_71, h131_72, h131_73, h131_75, h131_76, h131_77, h131_80, h131_82, h131_83, h131_84, h131_86, h131_87, h131_89, Option.bind_some, Option.toList_some, Option.toList_none, List.cons_append, List.nil_append, nI_ltc, nI_lec, nI_eqc, nI_ne5, n5_ne, n5_lt, bI_0, bI_1, nI_add, pk_mul, if_pos, if_neg, ite_not, if_true, if_false, not_true_eq_false, not_false_eq_true, true_and, false_and, and_true, and_false, Nat.reduceAdd, Nat.reduceMul, e]
  · refine ⟨-1, mu, p, mu, ?_, ?_, h⟩
    · simp (disch := first | omega | assumption) only [h21_0, h21_1, h21_4, h21_5, h21_8, h21_11, h21_12, h21_15, h21_18, h21_19, h21_20, h21_21, h21_24, h21_27, h21_29, h21_32, h21_33, h21_35, h21_38, h21_41, h21_43, h21_44, h21_45, h21_48, h21_49, h21_52, h21_55, h21_56, h21_59, h21_62, h21_63, h21_64, h21_67, h21_68, h21_70, h21_71, h21_74, h21_75, h21_76, h21_77, h21_79, h21_82, h21_84, Option.bind_some, Option.toList_some, Option.toList_none, List.cons_append, List.nil_append, nI_ltc, nI_lec, nI_eqc, nI_ne5, n5_ne, n5_lt, bI_0, bI_1, nI_add, pk_mul, if_pos, if_neg, ite_not, if_true, if_false, not_true_eq_false, not_false_eq_true, true_and, false_and, and_true, and_false, Nat.reduceAdd, Nat.reduceMul, z_isCard_o]
    · simp (disch := first | omega | assumption) only [h131_0, h131_1, h131_2, h131_3, h131_6, h131_9, h131_10, h131_11, h131_12, h131_15, h131_18, h131_20, h131_23, h131_24, h131_26, h131_29, h131_32, h131_34, h131_35, h131_36, h131_39, h131_40, h131_41, h131_44, h131_46, h131_47, h131_50, h131_52, h131_53, h131_54, h131_55, h131_57, h131_58, h131_61, h131_63, h131_64, h131_65, h131_66, h131_69, h131_71, h131_72, h131_73, h131_75, h131_76, h131_77, h131_80, h131_82, h131_83, h131_84, h131_86, h131_87, h131_89, Option.bind_some, Option.toList_some, Option.toList_none, List.cons_append, List.nil_append, nI_ltc, nI_lec, nI_eqc, nI_ne5, n5_ne, n5_lt, bI_0, bI_1, nI_add, pk_mul, if_pos, if_neg, ite_not, if_true, if_false, not_true_eq_false, not_false_eq_true, true_and, false_and, and_true, and_false, Nat.reduceAdd, Nat.reduceMul, m_isRegion_o]
theorem rem_0 {r g : Nat} (hr : r < 2147483648) (hg : g < 2147483648) (h0 : 0 < g) : nI r - nI r / nI g * nI g = nI (r % g) := by
  have h1 : r / g * g ≤ r := Nat.div_mul_le_self _ _
  rw [nI_div hr hg h0, pk_mul, nI_sub h1]
  congr 1
  have := Nat.div_add_mod r g
  rw [Nat.mul_comm] at this
  omega
theorem up_eq {r g : Nat} (h0 : 0 < g) : ((r + g - 1) / g * g = r) = (r % g = 0) := by
  have h1 := Nat.div_add_mod (r + g - 1) g
  have h2 := Nat.mod_lt (r + g - 1) h0
  have h3 := Nat.div_add_mod r g
  have h4 := Nat.mod_lt r h0
  rw [Nat.mul_comm]
  apply propext
  constructor
  · intro q
    have : g ∣ r := ⟨_, q.symm⟩
    exact Nat.mod_eq_zero_of_dvd this
  · intro q
    have e : (r + g - 1) / g = r / g := by
      have : r = g * (r / g) := by omega
      rw [show r + g - 1 = (g - 1) + g * (r / g) by omega, Nat.add_mul_div_left _ _ h0, Nat.div_eq_of_lt (by omega), Nat.zero_add]
    rw [e]
    omega
theorem op_setReserve (h : Rel mu p) (x y z : Int32) : Pair (d + 4) L 32 [.inl x, .inl y, .inl z, .inr none, .inr none] 138 [.inl x, .inl y, .inl z, .inr none] mu p := by
  rcases ixo x 12 (by omega) with ⟨j, hj, rfl⟩ | hx
  · have hk2 := h.kind hj
    by_cases hk : mu 2 j = nI 2
    · rcases spx y with ⟨s, hs, rfl⟩ | ⟨hz, hz2⟩
      · have hg := @grn_le s
        have hg0 := grn_ne0 s
        obtain ⟨k, hk5, hgk⟩ := grn_pow s
        rcases ixo z (16 * grn s + 1) (by omega) with ⟨r, hr5, rfl⟩ | hz
        · have hup := up_ok (x := r) (a := grn s) k hgk (by omega) (by omega)
          have hmi : ∀ (mu : RV) (p : Nat → Nat), zsem (d + 3) 121 0 [.inl (nI r), .inl (nI 0), .inl (nI (16 * grn s))] [] (HH L mu p) = some (some (.inl (nI 1)), HH L mu p) := fun mu p => m_in_n (d + 3) L mu p r (16 * grn s) (by omega) hr5
          have hrm := rem_0 (r := r) (g := grn s) (by omega) (by omega) (by omega)
          have hue := @up_eq r (grn s) (by omega)
          have hle : (r + grn s - 1) / grn s * grn s ≤ r + grn s - 1 := Nat.div_mul_le_self _ _
          have hml : r % grn s < grn s := Nat.mod_lt _ (by omega)
          by_cases h0 : r % grn s = 0
          · have hc : zsem (d + 3) 33 0 [.inl (nI s), .inl (nI r), .inr none] [] (HH L mu p) = some (some (.inl (nI 1)), HH L mu p) := by
              simp (disch := first | omega | assumption) only [h33_0, h33_1, h33_4, h33_5, h33_6, h33_9, h33_10, h33_12, h33_13, h33_14, h33_17, h33_18, h33_19, h33_22, h33_23, h33_26, h33_27, h33_30, h33_31_0, h33_31_1, h33_31_b, Option.bind_some, Option.toList_some, Option.toList_none, List.cons_append, List.nil_append, nI_ltc, nI_lec, nI_eqc, nI_ne5, n5_ne, n5_lt, bI_0, bI_1, nI_add, pk_mul, if_pos, if_neg, ite_not, if_true, if_false, not_true_eq_false, not_false_eq_true, true_and, false_and, and_true, and_false, Nat.reduceAdd, Nat.reduceMul, z_grainOf, z_roundUp, hup, hue, h0]
            obtain ⟨mu1, p1, e1, hr⟩ := z_rec (d + 2) L mu p h
            obtain ⟨mu3, e2, hm⟩ := rec_m (d + 2) L h hr (mu2 := u2 mu1 9 (j * 2 + s) (nI r)) (fun a ha => u2_row (by omega))
            have g1 : mu1 9 (j * 2 + s) = mu 9 (j * 2 + s) := by rw [hr.2.1 9 (by omega)]
            have g2 : mu3 106 (20 * j + 18 + s) = mu 9 (j * 2 + s) := by rw [hm.b0 (by omega)]; exact (h.win hj (k2_ne0 hk) hs).2.2
            have g3 : u2 mu1 9 (j * 2 + s) (nI r) 106 (20 * j) = nI 2 := by rw [u2_row (by omega), hr.2.1 106 (by omega), hk2]; exact hk
            have hrr : r = r / grn s * grn s := by have := Nat.div_add_mod r (grn s); rw [Nat.mul_comm] at this; omega
            refine ⟨mu 9 (j * 2 + s), u2 mu1 9 (j * 2 + s) (nI r), p1, u2 mu3 106 (20 * j + 18 + s) (nI r), ?_, ?_, ?_⟩
            · simp (disch := first | omega | assumption) only [h32_0, h32_1, h32_4, h32_5, h32_8, h32_11, h32_12, h32_13, h32_14, h32_17, h32_20, h32_21, h32_22, h32_25, h32_28, h32_30, h32_31, h32_32, h32_35, h32_36, h32_39, h32_42, h32_43, h32_44, h32_47, h32_49, h32_50, h32_53, h32_56, h32_58, h32_59, h32_61, h32_62, h32_65, h32_68, h32_70, h32_71, h32_72, h32_74, Option.bind_some, Option.toList_some, Option.toList_none, List.cons_append, List.nil_append, nI_ltc, nI_lec, nI_eqc, nI_ne5, n5_ne, n5_lt, bI_0, bI_1, nI_add, pk_mul, if_pos, if_neg, ite_not, if_true, if_false, not_true_eq_false, not_false_eq_true, true_and, false_and, and_true, and_false, Nat.reduceAdd, Nat.reduceMul, z_isBridge_n, hk, z_isSpace_n, hc, e1, z_windowIndex, g1]
            · simp (disch := first | omega | assumption) only [h138_0, h138_1, h138_2, h138_5, h138_8, h138_9, h138_10, h138_11, h138_14, h138_17, h138_18, h138_19, h138_21, h138_22, h138_25, h138_26, h138_29, h138_32, h138_33, h138_34, h138_37, h138_38, h138_41, h138_43, h138_44, h138_45, h138_48, h138_49, h138_52, h138_53, h138_56, h138_58, h138_59, h138_60, h138_61, h138_62, h138_64, h138_65, h138_68, h138_69, h138_72, h138_74, h138_75, h138_76, h138_77, h138_78, h138_79, h138_81, Option.bind_some, Option.toList_some, Option.toList_none, List.cons_append, List.nil_append, nI_ltc, nI_lec, nI_eqc, nI_ne5, n5_ne, n5_lt, bI_0, bI_1, nI_add, pk_mul, if_pos, if_neg, ite_not, if_true, if_false, not_true_eq_false, not_false_eq_true, true_and, false_and, and_true, and_false, Nat.reduceAdd, Nat.reduceMul, m_isBridge_n, g3, m_isSpace_n, m_grain, hmi, hrm, h0, e2, m_at, g2]
            · have eR : rk (u2 mu1 9 (j * 2 + s) (nI r)) 1 = u2 (rk mu 1) 9 (j * 2 + s) (nI r) := by
                have l9 : rlen 9 = 24 := rfl
                rw [rk_u (by omega) (by omega), hr.rk]
              have hk' : rk mu 1 2 j = nI 2 := by rw [rk_2 hj]; exact hk
              refine hm.fin (fun a ha => u2_row (by omega)) (fun i hi => by rw [u2_row (by omega)]) (fun t h1 h2 => u2_o _ _ (by omega)) ?_ ?_
              · rw [eR, hrr]
                refine OK_reserve h.2.2.1 hj hs hk' ?_
                rw [← Nat.lt_succ_iff, Nat.div_lt_iff_lt_mul (by omega)]
                omega
              · rw [eR]
                refine RelB_of ?_ (fun d hd => ?_)
                · simp (disch := omega) only [u2_o]
                  rw [hm.b0 (by omega)]
                  exact h.B.1
                · by_cases hdj : d = j
                  · subst hdj
                    obtain ⟨h0, h1⟩ := h.B.dv hd
                    obtain ⟨a1, a2, a3, a4, a5, a6⟩ := h1 (k2_ne0 hk')
                    refine ⟨?_, fun _ => ⟨?_, ?_, fun q' hq' => ?_, ?_, ?_, fun s' hs' => ?_⟩⟩
                    · simp (disch := omega) only [u2_o]
                      rw [hm.b0 (by omega)]; exact h0
                    · simp (disch := omega) only [u2_o]
                      rw [hm.b0 (by omega)]; exact a1
                    · simp (disch := omega) only [u2_o]
                      rw [hm.b0 (by omega)]; exact a2
                    · simp (disch := omega) only [u2_o]
                      rw [hm.b0 (by omega), hm.b0 (by omega), hm.b0 (by omega)]
                      exact a3 q' hq'
                    · simp (disch := omega) only [u2_o]
                      rw [hm.b0 (by omega)]; exact a4
                    · simp (disch := omega) only [u2_o]
                      rw [hm.b0 (by omega)]; exact a5
                    · by_cases hqq : s' = s
                      · subst hqq
                        simp (disch := omega) only [u2_o, u2_e]
                        rw [hm.b0 (by omega), hm.b0 (by omega)]
                        exact ⟨(a6 s' hs').1, (a6 s' hs').2.1, trivial⟩
                      · simp (disch := omega) only [u2_o]
                        rw [hm.b0 (by omega), hm.b0 (by omega), hm.b0 (by omega)]
                        exact a6 s' hs'
                  · refine RelD_cong (h.B.dv hd) (fun k hk => ?_) (fun a ha => ?_) (fun a q' ha hq' => ?_) (fun a q' ha hq' => ?_)
                    · simp (disch := omega) only [u2_o]
                      exact hm.b0 (by omega)
                    · simp (disch := omega) only [u2_o]
                    · simp (disch := omega) only [u2_o]
                    · simp (disch := omega) only [u2_o]
          · have hc : zsem (d + 3) 33 0 [.inl (nI s), .inl (nI r), .inr none] [] (HH L mu p) = some (some (.inl (nI 0)), HH L mu p) := by
              simp (disch := first | omega | assumption) only [h33_0, h33_1, h33_4, h33_5, h33_6, h33_9, h33_10, h33_12, h33_13, h33_14, h33_17, h33_18, h33_19, h33_22, h33_23, h33_26, h33_27, h33_30, h33_31_0, h33_31_1, h33_31_b, Option.bind_some, Option.toList_some, Option.toList_none, List.cons_append, List.nil_append, nI_ltc, nI_lec, nI_eqc, nI_ne5, n5_ne, n5_lt, bI_0, bI_1, nI_add, pk_mul, if_pos, if_neg, ite_not, if_true, if_false, not_true_eq_false, not_false_eq_true, true_and, false_and, and_true, and_false, Nat.reduceAdd, Nat.reduceMul, z_grainOf, z_roundUp, hup, hue, h0]
            refine ⟨-2, mu, p, mu, ?_, ?_, h⟩
            · simp (disch := first | omega | assumption) only [h32_0, h32_1, h32_4, h32_5, h32_8, h32_11, h32_12, h32_13, h32_14, h32_17, h32_20, h32_21, h32_22, h32_25, h32_28, h32_30, h32_31, h32_32, h32_35, h32_36, h32_39, h32_42, h32_43, h32_44, h32_47, h32_49, h32_50, h32_53, h32_56, h32_58, h32_59, h32_61, h32_62, h32_65, h32_68, h32_70, h32_71, h32_72, h32_74, Option.bind_some, Option.toList_some, Option.toList_none, List.cons_append, List.nil_append, nI_ltc, nI_lec, nI_eqc, nI_ne5, n5_ne, n5_lt, bI_0, bI_1, nI_add, pk_mul, if_pos, if_neg, ite_not, if_true, if_false, not_true_eq_false, not_false_eq_true, true_and, false_and, and_true, and_false, Nat.reduceAdd, Nat.reduceMul, z_isBridge_n, hk, z_isSpace_n, hc]
            · simp (disch := first | omega | assumption) only [h138_0, h138_1, h138_2, h138_5, h138_8, h138_9, h138_10, h138_11, h138_14, h138_17, h138_18, h138_19, h138_21, h138_22, h138_25, h138_26, h138_29, h138_32, h138_33, h138_34, h138_37, h138_38, h138_41, h138_43, h138_44, h138_45, h138_48, h138_49, h138_52, h138_53, h138_56, h138_58, h138_59, h138_60, h138_61, h138_62, h138_64, h138_65, h138_68, h138_69, h138_72, h138_74, h138_75, h138_76, h138_77, h138_78, h138_79, h138_81, Option.bind_some, Option.toList_some, Option.toList_none, List.cons_append, List.nil_append, nI_ltc, nI_lec, nI_eqc, nI_ne5, n5_ne, n5_lt, bI_0, bI_1, nI_add, pk_mul, if_pos, if_neg, ite_not, if_true, if_false, not_true_eq_false, not_false_eq_true, true_and, false_and, and_true, and_false, Nat.reduceAdd, Nat.reduceMul, m_isBridge_n, hk2, hk, m_isSpace_n, m_grain, hmi, hrm, h0]
        · have hc : zsem (d + 3) 33 0 [.inl (nI s), .inl z, .inr none] [] (HH L mu p) = some (some (.inl (nI 0)), HH L mu p) := by
            by_cases h1 : z < nI 0
            · simp (disch := first | omega | assumption) only [h33_0, h33_1, h33_4, h33_5, h33_6, h33_9, h33_10, h33_12, h33_13, h33_14, h33_17, h33_18, h33_19, h33_22, h33_23, h33_26, h33_27, h33_30, h33_31_0, h33_31_1, h33_31_b, Option.bind_some, Option.toList_some, Option.toList_none, List.cons_append, List.nil_append, nI_ltc, nI_lec, nI_eqc, nI_ne5, n5_ne, n5_lt, bI_0, bI_1, nI_add, pk_mul, if_pos, if_neg, ite_not, if_true, if_false, not_true_eq_false, not_false_eq_true, true_and, false_and, and_true, and_false, Nat.reduceAdd, Nat.reduceMul, z_grainOf, h1]
            · have h2 : nI (16 * grn s) < z := by
                rcases hz with q | q
                · exact absurd q h1
                · rw [Int32.lt_iff_toInt_lt]
                  rw [Int32.le_iff_toInt_le] at q
                  rw [nI_toInt (by omega)] at q ⊢
                  omega
              simp (disch := first | omega | assumption) only [h33_0, h33_1, h33_4, h33_5, h33_6, h33_9, h33_10, h33_12, h33_13, h33_14, h33_17, h33_18, h33_19, h33_22, h33_23, h33_26, h33_27, h33_30, h33_31_0, h33_31_1, h33_31_b, Option.bind_some, Option.toList_some, Option.toList_none, List.cons_append, List.nil_append, nI_ltc, nI_lec, nI_eqc, nI_ne5, n5_ne, n5_lt, bI_0, bI_1, nI_add, pk_mul, if_pos, if_neg, ite_not, if_true, if_false, not_true_eq_false, not_false_eq_true, true_and, false_and, and_true, and_false, Nat.reduceAdd, Nat.reduceMul, z_grainOf, h1, h2]
          have hmi := m_in_o (d + 3) L mu p z (16 * grn s) (by omega) hz
          refine ⟨-2, mu, p, mu, ?_, ?_, h⟩
          · simp (disch := first | omega | assumption) only [h32_0, h32_1, h32_4, h32_5, h32_8, h32_11, h32_12, h32_13, h32_14, h32_17, h32_20, h32_21, h32_22, h32_25, h32_28, h32_30, h32_31, h32_32, h32_35, h32_36, h32_39, h32_42, h32_43, h32_44, h32_47, h32_49, h32_50, h32_53, h32_56, h32_58, h32_59, h32_61, h32_62, h32_65, h32_68, h32_70, h32_71, h32_72, h32_74, Option.bind_some, Option.toList_some, Option.toList_none, List.cons_append, List.nil_append, nI_ltc, nI_lec, nI_eqc, nI_ne5, n5_ne, n5_lt, bI_0, bI_1, nI_add, pk_mul, if_pos, if_neg, ite_not, if_true, if_false, not_true_eq_false, not_false_eq_true, true_and, false_and, and_true, and_false, Nat.reduceAdd, Nat.reduceMul, z_isBridge_n, hk, z_isSpace_n, hc]
          · simp (disch := first | omega | assumption) only [h138_0, h138_1, h138_2, h138_5, h138_8, h138_9, h138_10, h138_11, h138_14, h138_17, h138_18, h138_19, h138_21, h138_22, h138_25, h138_26, h138_29, h138_32, h138_33, h138_34, h138_37, h138_38, h138_41, h138_43, h138_44, h138_45, h138_48, h138_49, h138_52, h138_53, h138_56, h138_58, h138_59, h138_60, h138_61, h138_62, h138_64, h138_65, h138_68, h138_69, h138_72, h138_74, h138_75, h138_76, h138_77, h138_78, h138_79, h138_81, Option.bind_some, Option.toList_some, Option.toList_none, List.cons_append, List.nil_append, nI_ltc, nI_lec, nI_eqc, nI_ne5, n5_ne, n5_lt, bI_0, bI_1, nI_add, pk_mul, if_pos, if_neg, ite_not, if_true, if_false, not_true_eq_false, not_false_eq_true, true_and, false_and, and_true, and_false, Nat.reduceAdd, Nat.reduceMul, m_isBridge_n, hk2, hk, m_isSpace_n, m_grain, hmi]
      · refine ⟨-2, mu, p, mu, ?_, ?_, h⟩
        · simp (disch := first | omega | assumption) only [h32_0, h32_1, h32_4, h32_5, h32_8, h32_11, h32_12, h32_13, h32_14, h32_17, h32_20, h32_21, h32_22, h32_25, h32_28, h32_30, h32_31, h32_32, h32_35, h32_36, h32_39, h32_42, h32_43, h32_44, h32_47, h32_49, h32_50, h32_53, h32_56, h32_58, h32_59, h32_61, h32_62, h32_65, h32_68, h32_70, h32_71, h32_72, h32_74, Option.bind_some, Option.toList_some, Option.toList_none, List.cons_append, List.nil_append, nI_ltc, nI_lec, nI_eqc, nI_ne5, n5_ne, n5_lt, bI_0, bI_1, nI_add, pk_mul, if_pos, if_neg, ite_not, if_true, if_false, not_true_eq_false, not_false_eq_true, true_and, false_and, and_true, and_false, Nat.reduceAdd, Nat.reduceMul, z_isBridge_n, hk, z_isSpace_o]
        · simp (disch := first | omega | assumption) only [h138_0, h138_1, h138_2, h138_5, h138_8, h138_9, h138_10, h138_11, h138_14, h138_17, h138_18, h138_19, h138_21, h138_22, h138_25, h138_26, h138_29, h138_32, h138_33, h138_34, h138_37, h138_38, h138_41, h138_43, h138_44, h138_45, h138_48, h138_49, h138_52, h138_53, h138_56, h138_58, h138_59, h138_60, h138_61, h138_62, h138_64, h138_65, h138_68, h138_69, h138_72, h138_74, h138_75, h138_76, h138_77, h138_78, h138_79, h138_81, Option.bind_some, Option.toList_some, Option.toList_none, List.cons_append, List.nil_append, nI_ltc, nI_lec, nI_eqc, nI_ne5, n5_ne, n5_lt, bI_0, bI_1, nI_add, pk_mul, if_pos, if_neg, ite_not, if_true, if_false, not_true_eq_false, not_false_eq_true, true_and, false_and, and_true, and_false, Nat.reduceAdd, Nat.reduceMul, m_isBridge_n, hk2, hk, m_isSpace_o]
    · refine ⟨-1, mu, p, mu, ?_, ?_, h⟩
      · simp (disch := first | omega | assumption) only [h32_0, h32_1, h32_4, h32_5, h32_8, h32_11, h32_12, h32_13, h32_14, h32_17, h32_20, h32_21, h32_22, h32_25, h32_28, h32_30, h32_31, h32_32, h32_35, h32_36, h32_39, h32_42, h32_43, h32_44, h32_47, h32_49, h32_50, h32_53, h32_56, h32_58, h32_59, h32_61, h32_62, h32_65, h32_68, h32_70, h32_71, h32_72, h32_74, Option.bind_some, Option.toList_some, Option.toList_none, List.cons_append, List.nil_append, nI_ltc, nI_lec, nI_eqc, nI_ne5, n5_ne, n5_lt, bI_0, bI_1, nI_add, pk_mul, if_pos, if_neg, ite_not, if_true, if_false, not_true_eq_false, not_false_eq_true, true_and, false_and, and_true, and_false, Nat.reduceAdd, Nat.reduceMul, z_isBridge_n, hk]
      · simp (disch := first | omega | assumption) only [h138_0, h138_1, h138_2, h138_5, h138_8, h138_9, h138_10, h138_11, h138_14, h138_17, h138_18, h138_19, h138_21, h138_22, h138_25, h138_26, h138_29, h138_32, h138_33, h138_34, h138_37, h138_38, h138_41, h138_43, h138_44, h138_45, h138_48, h138_49, h138_52, h138_53, h138_56, h138_58, h138_59, h138_60, h138_61, h138_62, h138_64, h138_65, h138_68, h138_69, h138_72, h138_74, h138_75, h138_76, h138_77, h138_78, h138_79, h138_81, Option.bind_some, Option.toList_some, Option.toList_none, List.cons_append, List.nil_append, nI_ltc, nI_lec, nI_eqc, nI_ne5, n5_ne, n5_lt, bI_0, bI_1, nI_add, pk_mul, if_pos, if_neg, ite_not, if_true, if_false, not_true_eq_false, not_false_eq_true, true_and, false_and, and_true, and_false, Nat.reduceAdd, Nat.reduceMul, m_isBridge_n, hk2, hk]
  · refine ⟨-1, mu, p, mu, ?_, ?_, h⟩
    · simp (disch := first | omega | assumption) only [h32_0, h32_1, h32_4, h32_5, h32_8, h32_11, h32_12, h32_13, h32_14, h32_17, h32_20, h32_21, h32_22, h32_25, h32_28, h32_30, h32_31, h32_32, h32_35, h32_36, h32_39, h32_42, h32_43, h32_44, h32_47, h32_49, h32_50, h32_53, h32_56, h32_58, h32_59, h32_61, h32_62, h32_65, h32_68, h32_70, h32_71, h32_72, h32_74, Option.bind_some, Option.toList_some, Option.toList_none, List.cons_append, List.nil_append, nI_ltc, nI_lec, nI_eqc, nI_ne5, n5_ne, n5_lt, bI_0, bI_1, nI_add, pk_mul, if_pos, if_neg, ite_not, if_true, if_false, not_true_eq_false, not_false_eq_true, true_and, false_and, and_true, and_false, Nat.reduceAdd, Nat.reduceMul, z_isBridge_o]
    · simp (disch := first | omega | assumption) only [h138_0, h138_1, h138_2, h138_5, h138_8, h138_9, h138_10, h138_11, h138_14, h138_17, h138_18, h138_19, h138_21, h138_22, h138_25, h138_26, h138_29, h138_32, h138_33, h138_34, h138_37, h138_38, h138_41, h138_43, h138_44, h138_45, h138_48, h138_49, h138_52, h138_53, h138_56, h138_58, h138_59, h138_60, h138_61, h138_62, h138_64, h138_65, h138_68, h138_69, h138_72, h138_74, h138_75, h138_76, h138_77, h138_78, h138_79, h138_81, Option.bind_some, Option.toList_some, Option.toList_none, List.cons_append, List.nil_append, nI_ltc, nI_lec, nI_eqc, nI_ne5, n5_ne, n5_lt, bI_0, bI_1, nI_add, pk_mul, if_pos, if_neg, ite_not, if_true, if_false, not_true_eq_false, not_false_eq_true, true_and, false_and, and_true, and_false, Nat.reduceAdd, Nat.reduceMul, m_isBridge_o]
end
