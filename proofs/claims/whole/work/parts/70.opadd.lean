/-! adding: both sides -/
section
variable (d L : Nat) (mu : RV) (p : Nat → Nat)
theorem m_addsL (k x y : Int32) (j : Nat) (hj : j < 12) (hf : mu 106 (20 * j) = nI 0) : ∀ n i, i + n = j → (∀ t, i ≤ t → t < j → ¬mu 106 (20 * t) = nI 0) → zsem (d + 4) 117 62 [.inr (some 105), .inl k, .inl x, .inl y, .inl (nI i)] [] (HH L mu p) = zsem (d + 4) 117 62 [.inr (some 105), .inl k, .inl x, .inl y, .inl (nI j)] [] (HH L mu p) := by
  intro n
  induction n with
  | zero =>
    intro i hi _
    have : i = j := by omega
    subst this
    rfl
  | succ n ih =>
    intro i hi h
    rw [← ih (i + 1) (by omega) (fun t h1 h2 => h t (by omega) h2), h117_62]
    have hk := h i (Nat.le_refl _) (by omega)
    simp (disch := first | omega | assumption) only [h117_0, h117_1, h117_2, h117_5, h117_8, h117_9, h117_10, h117_11, h117_14, h117_17, h117_19, h117_20, h117_21, h117_22, h117_23, h117_26, h117_28, h117_31, h117_32, h117_33, h117_36, h117_37, h117_40, h117_42, h117_43, h117_44, h117_47, h117_49, h117_52, h117_54, h117_55, h117_56, h117_59, h117_60, h117_63, h117_65, h117_68, h117_71, h117_74, h117_77, h117_78, h117_79, h117_81, h117_82, h117_83, h117_84, h117_87, h117_89, Option.bind_some, Option.toList_some, Option.toList_none, List.cons_append, List.nil_append, nI_ltc, nI_lec, nI_eqc, nI_ne5, n5_ne, n5_lt, bI_0, bI_1, nI_add, pk_mul, if_pos, if_neg, ite_not, if_true, if_false, not_true_eq_false, not_false_eq_true, true_and, false_and, and_true, and_false, Nat.reduceAdd, Nat.reduceMul, m_isDevice_n, hk]
theorem op_adds (h : Rel mu p) (k : Int32) (hk : k = nI 1 ∨ k = nI 2) (x y : Int32) : ∃ (v : Int32) (mu1 : RV) (p1 : Nat → Nat) (mu2 : RV), zsem (d + 4) 9 0 [.inr (some 0), .inl k, .inl x, .inl y, .inr none] [] (HH L mu p) = some (some (.inl v), HH L mu1 p1) ∧
    zsem (d + 4) 117 0 [.inr (some 105), .inl k, .inl x, .inl y, .inr none] [] (HH L mu1 p1) = some (some (.inl v), HH L mu2 p1) ∧ Rel mu2 p1 := by
  have slots : ∀ b, b < 13 → (b = 12 ∨ mu 2 b = nI 2) → ∃ (v : Int32) (mu1 : RV) (p1 : Nat → Nat) (mu2 : RV), zsem (d + 4) 9 0 [.inr (some 0), .inl k, .inl (nI b), .inl y, .inr none] [] (HH L mu p) = some (some (.inl v), HH L mu1 p1) ∧
      zsem (d + 4) 117 0 [.inr (some 105), .inl k, .inl (nI b), .inl y, .inr none] [] (HH L mu1 p1) = some (some (.inl v), HH L mu2 p1) ∧ Rel mu2 p1 := by
    intro b hb hbk
    have c1 : zsem (d + 3) 10 0 [.inr (some 1), .inl (nI b)] [] (HH L mu p) = some (some (.inl (nI 1)), HH L mu p) := by
      rcases hbk with rfl | hk
      · exact z_isBus_r (d + 2) L mu p
      · by_cases hb2 : b < 12
        · rw [z_isBus_n (d + 2) L mu p b hb2, bI_t hk]
        · have : b = 12 := by omega
          subst this; exact z_isBus_r (d + 2) L mu p
    have c2 : ∀ (mu' : RV) (p' : Nat → Nat), mu' 106 = mu 106 → zsem (d + 3) 118 0 [.inr (some 105), .inl (nI b)] [] (HH L mu' p') = some (some (.inl (nI 1)), HH L mu' p') := by
      intro mu' p' e
      by_cases hb2 : b < 12
      · rw [m_isBus_n d L mu' p' b hb2, bI_t]
        rw [e, h.kind hb2]
        exact hbk.resolve_left (by omega)
      · have : b = 12 := by omega
        subst this; exact m_isBus_r d L mu' p'
    have hbr : b < 12 → rk mu 1 2 b = nI 2 := fun q => by rw [rk_2 q]; exact hbk.resolve_left (by omega)
    have hrt : rt (rk mu 1) 5 b := by
      by_cases q : b < 12
      · exact Or.inr ⟨q, hbr q, h.T.2.2.2 b q (k2_ne0 (hbr q))⟩
      · exact Or.inl (by omega)
    have hd5 := @dpt_le (rk mu 1) 5 b
    rcases ixo y 4 (by omega) with ⟨s, hs, rfl⟩ | hy
    · have c3 : ∀ (mu' : RV) (p' : Nat → Nat), mu' 106 = mu 106 → zsem (d + 3) 124 0 [.inr (some 105), .inl (nI b), .inl (nI s), .inr none, .inr none] [] (HH L mu' p') = some (some (.inl (mu 5 (b * 4 + s))), HH L mu' p') := fun mu' p' e => by
        have := m_inSlot (d + 1) L mu' p' (R := rk mu 1) (by rw [e]; exact h.B) h.T b s hb hs
        rw [rk_5 (by omega)] at this
        exact this
      have c4 : ∀ (mu' : RV) (p' : Nat → Nat), mu' 106 = mu 106 → zsem (d + 3) 125 0 [.inr (some 105), .inl (nI b), .inr none, .inr none] [] (HH L mu' p') = some (some (.inl (nI (dpt (rk mu 1) 5 b))), HH L mu' p') := fun mu' p' e =>
        m_depthOf (d + 2) L mu' p' (R := rk mu 1) (by rw [e]; exact h.B) h.T 5 b hrt
      have c5 := z_depthOfBus (d + 2) L mu p h.upb b hb
      by_cases he : mu 5 (b * 4 + s) = -5
      · by_cases h5 : dpt (rk mu 1) 5 b = 5
        · rw [h5] at c4 c5
          have c4 := c4 mu p rfl
          have c3 := c3 mu p rfl
          have c2 := c2 mu p rfl
          refine ⟨-4, mu, p, mu, ?_, ?_, h⟩
          · simp (disch := first | omega | assumption) only [h9_0, h9_1, h9_4, h9_5, h9_8, h9_11, h9_12, h9_13, h9_14, h9_17, h9_20, h9_22, h9_23, h9_24, h9_27, h9_28, h9_29, h9_32, h9_34, h9_37, h9_38, h9_41, h9_42, h9_45, h9_46, h9_49, h9_51, h9_52, h9_53, h9_56, h9_59, h9_61, h9_63, h9_65, h9_68, h9_70, h9_71, h9_72, h9_75, h9_76, h9_79, h9_82, h9_83, h9_86, h9_88, h9_89, h9_90, h9_91, h9_94, h9_96, Option.bind_some, Option.toList_some, Option.toList_none, List.cons_append, List.nil_append, nI_ltc, nI_lec, nI_eqc, nI_ne5, n5_ne, n5_lt, bI_0, bI_1, nI_add, pk_mul, if_pos, if_neg, ite_not, if_true, if_false, not_true_eq_false, not_false_eq_true, true_and, false_and, and_true, and_false, Nat.reduceAdd, Nat.reduceMul, c1, z_isSlot_n, z_deviceAt_n, he, c5]
          · simp (disch := first | omega | assumption) only [h117_0, h117_1, h117_2, h117_5, h117_8, h117_9, h117_10, h117_11, h117_14, h117_17, h117_19, h117_20, h117_21, h117_22, h117_23, h117_26, h117_28, h117_31, h117_32, h117_33, h117_36, h117_37, h117_40, h117_42, h117_43, h117_44, h117_47, h117_49, h117_52, h117_54, h117_55, h117_56, h117_59, h117_60, h117_63, h117_65, h117_68, h117_71, h117_74, h117_77, h117_78, h117_79, h117_81, h117_82, h117_83, h117_84, h117_87, h117_89, Option.bind_some, Option.toList_some, Option.toList_none, List.cons_append, List.nil_append, nI_ltc, nI_lec, nI_eqc, nI_ne5, n5_ne, n5_lt, bI_0, bI_1, nI_add, pk_mul, if_pos, if_neg, ite_not, if_true, if_false, not_true_eq_false, not_false_eq_true, true_and, false_and, and_true, and_false, Nat.reduceAdd, Nat.reduceMul, c2, m_isSlot_n, c3, he, c4]
        · rcases z_leastFree (d + 3) L mu p with ⟨j, hj, hj0, hjl, c6⟩ | ⟨hall, c6⟩
          · obtain ⟨mu1, p1, e1, hr⟩ := z_rec (d + 2) L mu p h
            have kr1 := isRk_1
            have fr : ∀ a, a = 0 ∨ (14 ≤ a ∧ a ≤ 80) ∨ 104 ≤ a → u2 (u2 (u2 (u2 mu1 2 j k) 3 j (nI b)) 4 j (nI s)) 5 (b * 4 + s) (nI j) a = mu1 a := fun a ha => by
              rw [u2_row (by omega), u2_row (by omega), u2_row (by omega), u2_row (by omega)]
            have f106 : u2 (u2 (u2 (u2 mu1 2 j k) 3 j (nI b)) 4 j (nI s)) 5 (b * 4 + s) (nI j) 106 = mu 106 := by rw [fr 106 (by omega), hr.2.1 106 (by omega)]
            obtain ⟨mu3, e2, hm⟩ := rec_m (d + 2) L h hr (mu2 := u2 (u2 (u2 (u2 mu1 2 j k) 3 j (nI b)) 4 j (nI s)) 5 (b * 4 + s) (nI j)) fr
            have c2 := c2 _ p1 f106
            have c3 := c3 _ p1 f106
            have c4 := c4 _ p1 f106
            have hcnt : cntP (fun i => ¬u2 (u2 (u2 (u2 mu1 2 j k) 3 j (nI b)) 4 j (nI s)) 5 (b * 4 + s) (nI j) 106 (20 * i) = nI 0) 12 < 12 :=
              cnt_lt _ 12 j hj (by rw [f106, h.kind hj]; exact fun q => q hj0)
            have e3 := m_addsL d L mu3 p1 k (nI b) (nI s) j hj (by rw [hm.b0 (by omega), h.kind hj]; exact hj0) j 0 (by omega) (fun t _ ht => by rw [hm.b0 (by omega), h.kind (by omega)]; exact hjl t ht)
            have hdv : mu3 106 (20 * j) = nI 0 := by rw [hm.b0 (by omega), h.kind hj]; exact hj0
            obtain ⟨mu4, e4, w1, w2⟩ := m_writes (d + 2) L mu3 p1 0 j (by omega) k (nI b) (nI s)
            refine ⟨nI j, u2 (u2 (u2 (u2 mu1 2 j k) 3 j (nI b)) 4 j (nI s)) 5 (b * 4 + s) (nI j), p1, mu4, ?_, ?_, ?_⟩
            · simp (disch := first | omega | assumption) only [h9_0, h9_1, h9_4, h9_5, h9_8, h9_11, h9_12, h9_13, h9_14, h9_17, h9_20, h9_22, h9_23, h9_24, h9_27, h9_28, h9_29, h9_32, h9_34, h9_37, h9_38, h9_41, h9_42, h9_45, h9_46, h9_49, h9_51, h9_52, h9_53, h9_56, h9_59, h9_61, h9_63, h9_65, h9_68, h9_70, h9_71, h9_72, h9_75, h9_76, h9_79, h9_82, h9_83, h9_86, h9_88, h9_89, h9_90, h9_91, h9_94, h9_96, Option.bind_some, Option.toList_some, Option.toList_none, List.cons_append, List.nil_append, nI_ltc, nI_lec, nI_eqc, nI_ne5, n5_ne, n5_lt, bI_0, bI_1, nI_add, pk_mul, if_pos, if_neg, ite_not, if_true, if_false, not_true_eq_false, not_false_eq_true, true_and, false_and, and_true, and_false, Nat.reduceAdd, Nat.reduceMul, c1, z_isSlot_n, z_deviceAt_n, he, c5, c6, e1, z_put]
            · simp (disch := first | omega | assumption) only [h117_0, h117_1, h117_2, h117_5, h117_8, h117_9, h117_10, h117_11, h117_14, h117_17, h117_19, h117_20, h117_21, h117_22, h117_23, h117_26, h117_28, h117_31, h117_32, h117_33, h117_36, h117_37, h117_40, h117_42, h117_43, h117_44, h117_47, h117_49, h117_52, h117_54, h117_55, h117_56, h117_59, h117_60, h117_63, h117_65, h117_68, h117_71, h117_74, h117_77, h117_78, h117_79, h117_81, h117_82, h117_83, h117_84, h117_87, h117_89, Option.bind_some, Option.toList_some, Option.toList_none, List.cons_append, List.nil_append, nI_ltc, nI_lec, nI_eqc, nI_ne5, n5_ne, n5_lt, bI_0, bI_1, nI_add, pk_mul, if_pos, if_neg, ite_not, if_true, if_false, not_true_eq_false, not_false_eq_true, true_and, false_and, and_true, and_false, Nat.reduceAdd, Nat.reduceMul, c2, m_isSlot_n, c3, he, c4, m_many, e2, e3]
              rw [h117_62]
              simp (disch := first | omega | assumption) only [h117_0, h117_1, h117_2, h117_5, h117_8, h117_9, h117_10, h117_11, h117_14, h117_17, h117_19, h117_20, h117_21, h117_22, h117_23, h117_26, h117_28, h117_31, h117_32, h117_33, h117_36, h117_37, h117_40, h117_42, h117_43, h117_44, h117_47, h117_49, h117_52, h117_54, h117_55, h117_56, h117_59, h117_60, h117_63, h117_65, h117_68, h117_71, h117_74, h117_77, h117_78, h117_79, h117_81, h117_82, h117_83, h117_84, h117_87, h117_89, Option.bind_some, Option.toList_some, Option.toList_none, List.cons_append, List.nil_append, nI_ltc, nI_lec, nI_eqc, nI_ne5, n5_ne, n5_lt, bI_0, bI_1, nI_add, pk_mul, if_pos, if_neg, ite_not, if_true, if_false, not_true_eq_false, not_false_eq_true, true_and, false_and, and_true, and_false, Nat.reduceAdd, Nat.reduceMul, m_isDevice_n, hdv, e4]
            · have l2 : rlen 2 = 12 := rfl
              have l3 : rlen 3 = 12 := rfl
              have l4 : rlen 4 = 12 := rfl
              have l5 : rlen 5 = 52 := rfl
              have eR : rk (u2 (u2 (u2 (u2 mu1 2 j k) 3 j (nI b)) 4 j (nI s)) 5 (b * 4 + s) (nI j)) 1 = addR (rk mu 1) j b s k := by
                rw [rk_u (by omega) (by omega), rk_u (by omega) (by omega), rk_u (by omega) (by omega), rk_u (by omega) (by omega), hr.rk]
                rfl
              have hj0' : rk mu 1 2 j = nI 0 := by rw [rk_2 hj]; exact hj0
              refine hm.fin (fun a ha => ?_) (fun i hi => w2 105 i (by omega)) (fun t h1 h2 => w2 106 t (by omega)) ?_ ?_
              · funext i
                exact w2 a i (by omega)
              · rw [eR]
                exact OK_add h.2.2.1 hj hb hs hk hj0' (by rw [rk_5 (by omega)]; exact he) hbr (rt_of_dpt (n := 4) hrt (by show dpt (rk mu 1) 5 b < 5; omega))
              · rw [eR]
                have w3 : ∀ n, n < 20 → mu4 106 (20 * j + n) = wv k (nI b) (nI s) n := fun n hn => by
                  have := w1 n hn
                  rwa [show 0 + 20 * j + n = 20 * j + n by omega] at this
                refine RelB_of ?_ (fun dd hd => ?_)
                · show mu4 106 240 = _
                  rw [w2 106 240 (by omega), hm.b0 (by omega)]
                  exact h.B.1
                · by_cases hdj : dd = j
                  · subst hdj
                    have y1 := h.A.1 dd hj (by rw [hj0']; decide)
                    obtain ⟨x1, x2, x3⟩ := h.A.2 dd hj (by rw [hj0']; decide)
                    have rows : ∀ a, ¬a = 2 → ¬a = 3 → ¬a = 4 → ¬a = 5 → addR (rk mu 1) dd b s k a = rk mu 1 a := fun a h2 h3 h4 h5 => by
                      unfold addR
                      rw [u2_row h5, u2_row h4, u2_row h3, u2_row h2]
                    refine ⟨?_, fun _ => ⟨?_, ?_, fun q hq => ⟨?_, ?_, fun hz => ?_⟩, ?_, ?_, fun s' hs' => ⟨?_, ?_, ?_⟩⟩⟩
                    · have := w3 0 (by omega)
                      unfold addR
                      simp (disch := omega) only [u2_o, u2_e]
                      exact this
                    · have := w3 1 (by omega)
                      unfold addR
                      simp (disch := omega) only [u2_o, u2_e]
                      exact this
                    · have := w3 2 (by omega)
                      unfold addR
                      simp (disch := omega) only [u2_o, u2_e]
                      exact this
                    · have := w3 (3 + 3 * q + 1) (by omega)
                      rw [rows 7 (by omega) (by omega) (by omega) (by omega), (y1 q hq).1]
                      show mu4 106 (20 * dd + 3 + 3 * q + 1) = _
                      rw [show 20 * dd + 3 + 3 * q + 1 = 20 * dd + (3 + 3 * q + 1) by omega, this]
                      rcases (show q = 0 ∨ q = 1 ∨ q = 2 by omega) with rfl | rfl | rfl <;> rfl
                    · have := w3 (3 + 3 * q + 2) (by omega)
                      rw [rows 8 (by omega) (by omega) (by omega) (by omega), (y1 q hq).2]
                      show mu4 106 (20 * dd + 3 + 3 * q + 2) = _
                      rw [show 20 * dd + 3 + 3 * q + 2 = 20 * dd + (3 + 3 * q + 2) by omega, this]
                      rcases (show q = 0 ∨ q = 1 ∨ q = 2 by omega) with rfl | rfl | rfl <;> rfl
                    · rw [rows 7 (by omega) (by omega) (by omega) (by omega)] at hz
                      exact absurd (y1 q hq).1 hz
                    · rw [rows 12 (by omega) (by omega) (by omega) (by omega), x1]
                      exact w3 12 (by omega)
                    · rw [rows 13 (by omega) (by omega) (by omega) (by omega), x2]
                      exact w3 13 (by omega)
                    · rw [rows 10 (by omega) (by omega) (by omega) (by omega), (x3 s' hs').1]
                      show mu4 106 (20 * dd + 14 + s') = _
                      rw [show 20 * dd + 14 + s' = 20 * dd + (14 + s') by omega, w3 (14 + s') (by omega)]
                      rcases (show s' = 0 ∨ s' = 1 by omega) with rfl | rfl <;> rfl
                    · rw [rows 11 (by omega) (by omega) (by omega) (by omega), (x3 s' hs').2.1]
                      show mu4 106 (20 * dd + 16 + s') = _
                      rw [show 20 * dd + 16 + s' = 20 * dd + (16 + s') by omega, w3 (16 + s') (by omega)]
                      rcases (show s' = 0 ∨ s' = 1 by omega) with rfl | rfl <;> rfl
                    · rw [rows 9 (by omega) (by omega) (by omega) (by omega), (x3 s' hs').2.2]
                      show mu4 106 (20 * dd + 18 + s') = _
                      rw [show 20 * dd + 18 + s' = 20 * dd + (18 + s') by omega, w3 (18 + s') (by omega)]
                      rcases (show s' = 0 ∨ s' = 1 by omega) with rfl | rfl <;> rfl
                  · refine RelD_cong (h.B.dv hd) (fun t ht => ?_) (fun a ha => ?_) (fun a q' ha hq' => ?_) (fun a q' ha hq' => ?_)
                    · show mu4 106 (20 * dd + t) = _
                      rw [w2 106 _ (by omega)]
                      exact hm.b0 (by omega)
                    · unfold addR
                      simp (disch := omega) only [u2_o]
                    · unfold addR
                      simp (disch := omega) only [u2_o]
                    · unfold addR
                      simp (disch := omega) only [u2_o]
          · have c4 := c4 mu p rfl
            have c3 := c3 mu p rfl
            have c2 := c2 mu p rfl
            have hcnt : cntP (fun i => ¬mu 106 (20 * i) = nI 0) 12 = 12 := cnt_all _ 12 (fun i hi => by rw [h.kind hi]; exact hall i hi)
            refine ⟨-3, mu, p, mu, ?_, ?_, h⟩
            · simp (disch := first | omega | assumption) only [h9_0, h9_1, h9_4, h9_5, h9_8, h9_11, h9_12, h9_13, h9_14, h9_17, h9_20, h9_22, h9_23, h9_24, h9_27, h9_28, h9_29, h9_32, h9_34, h9_37, h9_38, h9_41, h9_42, h9_45, h9_46, h9_49, h9_51, h9_52, h9_53, h9_56, h9_59, h9_61, h9_63, h9_65, h9_68, h9_70, h9_71, h9_72, h9_75, h9_76, h9_79, h9_82, h9_83, h9_86, h9_88, h9_89, h9_90, h9_91, h9_94, h9_96, Option.bind_some, Option.toList_some, Option.toList_none, List.cons_append, List.nil_append, nI_ltc, nI_lec, nI_eqc, nI_ne5, n5_ne, n5_lt, bI_0, bI_1, nI_add, pk_mul, if_pos, if_neg, ite_not, if_true, if_false, not_true_eq_false, not_false_eq_true, true_and, false_and, and_true, and_false, Nat.reduceAdd, Nat.reduceMul, c1, z_isSlot_n, z_deviceAt_n, he, c5, c6]
            · simp (disch := first | omega | assumption) only [h117_0, h117_1, h117_2, h117_5, h117_8, h117_9, h117_10, h117_11, h117_14, h117_17, h117_19, h117_20, h117_21, h117_22, h117_23, h117_26, h117_28, h117_31, h117_32, h117_33, h117_36, h117_37, h117_40, h117_42, h117_43, h117_44, h117_47, h117_49, h117_52, h117_54, h117_55, h117_56, h117_59, h117_60, h117_63, h117_65, h117_68, h117_71, h117_74, h117_77, h117_78, h117_79, h117_81, h117_82, h117_83, h117_84, h117_87, h117_89, Option.bind_some, Option.toList_some, Option.toList_none, List.cons_append, List.nil_append, nI_ltc, nI_lec, nI_eqc, nI_ne5, n5_ne, n5_lt, bI_0, bI_1, nI_add, pk_mul, if_pos, if_neg, ite_not, if_true, if_false, not_true_eq_false, not_false_eq_true, true_and, false_and, and_true, and_false, Nat.reduceAdd, Nat.reduceMul, c2, m_isSlot_n, c3, he, c4, m_many, hcnt]
      · have c3 := c3 mu p rfl
        have c2 := c2 mu p rfl
        refine ⟨-4, mu, p, mu, ?_, ?_, h⟩
        · simp (disch := first | omega | assumption) only [h9_0, h9_1, h9_4, h9_5, h9_8, h9_11, h9_12, h9_13, h9_14, h9_17, h9_20, h9_22, h9_23, h9_24, h9_27, h9_28, h9_29, h9_32, h9_34, h9_37, h9_38, h9_41, h9_42, h9_45, h9_46, h9_49, h9_51, h9_52, h9_53, h9_56, h9_59, h9_61, h9_63, h9_65, h9_68, h9_70, h9_71, h9_72, h9_75, h9_76, h9_79, h9_82, h9_83, h9_86, h9_88, h9_89, h9_90, h9_91, h9_94, h9_96, Option.bind_some, Option.toList_some, Option.toList_none, List.cons_append, List.nil_append, nI_ltc, nI_lec, nI_eqc, nI_ne5, n5_ne, n5_lt, bI_0, bI_1, nI_add, pk_mul, if_pos, if_neg, ite_not, if_true, if_false, not_true_eq_false, not_false_eq_true, true_and, false_and, and_true, and_false, Nat.reduceAdd, Nat.reduceMul, c1, z_isSlot_n, z_deviceAt_n, he]
        · simp (disch := first | omega | assumption) only [h117_0, h117_1, h117_2, h117_5, h117_8, h117_9, h117_10, h117_11, h117_14, h117_17, h117_19, h117_20, h117_21, h117_22, h117_23, h117_26, h117_28, h117_31, h117_32, h117_33, h117_36, h117_37, h117_40, h117_42, h117_43, h117_44, h117_47, h117_49, h117_52, h117_54, h117_55, h117_56, h117_59, h117_60, h117_63, h117_65, h117_68, h117_71, h117_74, h117_77, h117_78, h117_79, h117_81, h117_82, h117_83, h117_84, h117_87, h117_89, Option.bind_some, Option.toList_some, Option.toList_none, List.cons_append, List.nil_append, nI_ltc, nI_lec, nI_eqc, nI_ne5, n5_ne, n5_lt, bI_0, bI_1, nI_add, pk_mul, if_pos, if_neg, ite_not, if_true, if_false, not_true_eq_false, not_false_eq_true, true_and, false_and, and_true, and_false, Nat.reduceAdd, Nat.reduceMul, c2, m_isSlot_n, c3, he]
    · have c2 := c2 mu p rfl
      refine ⟨-2, mu, p, mu, ?_, ?_, h⟩
      · simp (disch := first | omega | assumption) only [h9_0, h9_1, h9_4, h9_5, h9_8, h9_11, h9_12, h9_13, h9_14, h9_17, h9_20, h9_22, h9_23, h9_24, h9_27, h9_28, h9_29, h9_32, h9_34, h9_37, h9_38, h9_41, h9_42, h9_45, h9_46, h9_49, h9_51, h9_52, h9_53, h9_56, h9_59, h9_61, h9_63, h9_65, h9_68, h9_70, h9_71, h9_72, h9_75, h9_76, h9_79, h9_82, h9_83, h9_86, h9_88, h9_89, h9_90, h9_91, h9_94, h9_96, Option.bind_some, Option.toList_some, Option.toList_none, List.cons_append, List.nil_append, nI_ltc, nI_lec, nI_eqc, nI_ne5, n5_ne, n5_lt, bI_0, bI_1, nI_add, pk_mul, if_pos, if_neg, ite_not, if_true, if_false, not_true_eq_false, not_false_eq_true, true_and, false_and, and_true, and_false, Nat.reduceAdd, Nat.reduceMul, c1, z_isSlot_o]
      · simp (disch := first | omega | assumption) only [h117_0, h117_1, h117_2, h117_5, h117_8, h117_9, h117_10, h117_11, h117_14, h117_17, h117_19, h117_20, h117_21, h117_22, h117_23, h117_26, h117_28, h117_31, h117_32, h117_33, h117_36, h117_37, h117_40, h117_42, h117_43, h117_44, h117_47, h117_49, h117_52, h117_54, h117_55, h117_56, h117_59, h117_60, h117_63, h117_65, h117_68, h117_71, h117_74, h117_77, h117_78, h117_79, h117_81, h117_82, h117_83, h117_84, h117_87, h117_89, Option.bind_some, Option.toList_some, Option.toList_none, List.cons_append, List.nil_append, nI_ltc, nI_lec, nI_eqc, nI_ne5, n5_ne, n5_lt, bI_0, bI_1, nI_add, pk_mul, if_pos, if_neg, ite_not, if_true, if_false, not_true_eq_false, not_false_eq_true, true_and, false_and, and_true, and_false, Nat.reduceAdd, Nat.reduceMul, c2, m_isSlot_o]
  rcases busx x with ⟨b, hb, rfl⟩ | rfl | ⟨h1, h2⟩
  · by_cases hk : mu 2 b = nI 2
    · exact slots b (by omega) (Or.inr hk)
    · have hk2 := h.kind hb
      refine ⟨-1, mu, p, mu, ?_, ?_, h⟩
      · simp (disch := first | omega | assumption) only [h9_0, h9_1, h9_4, h9_5, h9_8, h9_11, h9_12, h9_13, h9_14, h9_17, h9_20, h9_22, h9_23, h9_24, h9_27, h9_28, h9_29, h9_32, h9_34, h9_37, h9_38, h9_41, h9_42, h9_45, h9_46, h9_49, h9_51, h9_52, h9_53, h9_56, h9_59, h9_61, h9_63, h9_65, h9_68, h9_70, h9_71, h9_72, h9_75, h9_76, h9_79, h9_82, h9_83, h9_86, h9_88, h9_89, h9_90, h9_91, h9_94, h9_96, Option.bind_some, Option.toList_some, Option.toList_none, List.cons_append, List.nil_append, nI_ltc, nI_lec, nI_eqc, nI_ne5, n5_ne, n5_lt, bI_0, bI_1, nI_add, pk_mul, if_pos, if_neg, ite_not, if_true, if_false, not_true_eq_false, not_false_eq_true, true_and, false_and, and_true, and_false, Nat.reduceAdd, Nat.reduceMul, z_isBus_n, hk]
      · simp (disch := first | omega | assumption) only [h117_0, h117_1, h117_2, h117_5, h117_8, h117_9, h117_10, h117_11, h117_14, h117_17, h117_19, h117_20, h117_21, h117_22, h117_23, h117_26, h117_28, h117_31, h117_32, h117_33, h117_36, h117_37, h117_40, h117_42, h117_43, h117_44, h117_47, h117_49, h117_52, h117_54, h117_55, h117_56, h117_59, h117_60, h117_63, h117_65, h117_68, h117_71, h117_74, h117_77, h117_78, h117_79, h117_81, h117_82, h117_83, h117_84, h117_87, h117_89, Option.bind_some, Option.toList_some, Option.toList_none, List.cons_append, List.nil_append, nI_ltc, nI_lec, nI_eqc, nI_ne5, n5_ne, n5_lt, bI_0, bI_1, nI_add, pk_mul, if_pos, if_neg, ite_not, if_true, if_false, not_true_eq_false, not_false_eq_true, true_and, false_and, and_true, and_false, Nat.reduceAdd, Nat.reduceMul, m_isBus_n, hk2, hk]
  · exact slots 12 (by omega) (Or.inl rfl)
  · refine ⟨-1, mu, p, mu, ?_, ?_, h⟩
    · simp (disch := first | omega | assumption) only [h9_0, h9_1, h9_4, h9_5, h9_8, h9_11, h9_12, h9_13, h9_14, h9_17, h9_20, h9_22, h9_23, h9_24, h9_27, h9_28, h9_29, h9_32, h9_34, h9_37, h9_38, h9_41, h9_42, h9_45, h9_46, h9_49, h9_51, h9_52, h9_53, h9_56, h9_59, h9_61, h9_63, h9_65, h9_68, h9_70, h9_71, h9_72, h9_75, h9_76, h9_79, h9_82, h9_83, h9_86, h9_88, h9_89, h9_90, h9_91, h9_94, h9_96, Option.bind_some, Option.toList_some, Option.toList_none, List.cons_append, List.nil_append, nI_ltc, nI_lec, nI_eqc, nI_ne5, n5_ne, n5_lt, bI_0, bI_1, nI_add, pk_mul, if_pos, if_neg, ite_not, if_true, if_false, not_true_eq_false, not_false_eq_true, true_and, false_and, and_true, and_false, Nat.reduceAdd, Nat.reduceMul, z_isBus_o]
    · simp (disch := first | omega | assumption) only [h117_0, h117_1, h117_2, h117_5, h117_8, h117_9, h117_10, h117_11, h117_14, h117_17, h117_19, h117_20, h117_21, h117_22, h117_23, h117_26, h117_28, h117_31, h117_32, h117_33, h117_36, h117_37, h117_40, h117_42, h117_43, h117_44, h117_47, h117_49, h117_52, h117_54, h117_55, h117_56, h117_59, h117_60, h117_63, h117_65, h117_68, h117_71, h117_74, h117_77, h117_78, h117_79, h117_81, h117_82, h117_83, h117_84, h117_87, h117_89, Option.bind_some, Option.toList_some, Option.toList_none, List.cons_append, List.nil_append, nI_ltc, nI_lec, nI_eqc, nI_ne5, n5_ne, n5_lt, bI_0, bI_1, nI_add, pk_mul, if_pos, if_neg, ite_not, if_true, if_false, not_true_eq_false, not_false_eq_true, true_and, false_and, and_true, and_false, Nat.reduceAdd, Nat.reduceMul, m_isBus_o]
theorem op_addCard (h : Rel mu p) (x y : Int32) : Pair (d + 5) L 8 [.inl x, .inl y] 116 [.inl x, .inl y] mu p := by
  obtain ⟨v, mu1, p1, mu2, e1, e2, e3⟩ := op_adds d L mu p h (nI 1) (Or.inl rfl) x y
  refine ⟨v, mu1, p1, mu2, ?_, ?_, e3⟩
  · simp (disch := first | omega | assumption) only [h8_0, h8_1, h8_2, h8_3, h8_4, h8_7, Option.bind_some, Option.toList_some, Option.toList_none, List.cons_append, List.nil_append, nI_ltc, nI_lec, nI_eqc, nI_ne5, n5_ne, n5_lt, bI_0, bI_1, nI_add, pk_mul, if_pos, if_neg, ite_not, if_true, if_false, not_true_eq_false, not_false_eq_true, true_and, false_and, and_true, and_false, Nat.reduceAdd, Nat.reduceMul, e1]
  · simp (disch := first | omega | assumption) only [h116_0, h116_1, h116_2, h116_3, h116_4, h116_7, Option.bind_some, Option.toList_some, Option.toList_none, List.cons_append, List.nil_append, nI_ltc, nI_lec, nI_eqc, nI_ne5, n5_ne, n5_lt, bI_0, bI_1, nI_add, pk_mul, if_pos, if_neg, ite_not, if_true, if_false, not_true_eq_false, not_false_eq_true, true_and, false_and, and_true, and_false, Nat.reduceAdd, Nat.reduceMul, e2]
theorem op_addBridge (h : Rel mu p) (x y : Int32) : Pair (d + 5) L 20 [.inl x, .inl y] 130 [.inl x, .inl y] mu p := by
  obtain ⟨v, mu1, p1, mu2, e1, e2, e3⟩ := op_adds d L mu p h (nI 2) (Or.inr rfl) x y
  refine ⟨v, mu1, p1, mu2, ?_, ?_, e3⟩
  · simp (disch := first | omega | assumption) only [h20_0, h20_1, h20_2, h20_3, h20_4, h20_7, Option.bind_some, Option.toList_some, Option.toList_none, List.cons_append, List.nil_append, nI_ltc, nI_lec, nI_eqc, nI_ne5, n5_ne, n5_lt, bI_0, bI_1, nI_add, pk_mul, if_pos, if_neg, ite_not, if_true, if_false, not_true_eq_false, not_false_eq_true, true_and, false_and, and_true, and_false, Nat.reduceAdd, Nat.reduceMul, e1]
  · simp (disch := first | omega | assumption) only [h130_0, h130_1, h130_2, h130_3, h130_4, h130_7, Option.bind_some, Option.toList_some, Option.toList_none, List.cons_append, List.nil_append, nI_ltc, nI_lec, nI_eqc, nI_ne5, n5_ne, n5_lt, bI_0, bI_1, nI_add, pk_mul, if_pos, if_neg, ite_not, if_true, if_false, not_true_eq_false, not_false_eq_true, true_and, false_and, and_true, and_false, Nat.reduceAdd, Nat.reduceMul, e2]
end
