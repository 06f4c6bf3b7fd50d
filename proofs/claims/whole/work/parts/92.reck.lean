/-! measuring: reference -/
def FrN (mu mu' : RV) : Prop := (∀ r, ¬r = 105 → (r < 108 ∨ 113 < r) → mu' r = mu r) ∧ ∀ i, ¬i = 7 → mu' 105 i = mu 105 i
theorem FrN.tr {mu mu1 mu2 : RV} (h : FrN mu mu1) (h' : FrN mu1 mu2) : FrN mu mu2 := ⟨fun r g1 g2 => by rw [h'.1 r g1 g2, h.1 r g1 g2], fun i hi => by rw [h'.2 i hi, h.2 i hi]⟩
theorem FrI.N {mu mu' : RV} (h : FrI mu mu') : FrN mu mu' := ⟨fun r g1 g2 => h.1 r g1 (by omega), h.2⟩
/-- rows 108, 109 hold what is reckoned: depths above D, and of depth D the first k -/
def MRk (R : RV) (D k : Nat) (mu : RV) : Prop := ∀ s j, s < 2 → j < 12 → R 2 j = nI 2 → (D < dq R j + 1 ∨ (dq R j + 1 = D ∧ 12 * s + j < k)) → mu 108 (12 * s + j) = nI (fN R s j) ∧ mu 109 (12 * s + j) = nI (aN R s j)
section
variable (d L : Nat) (p : Nat → Nat)
theorem m_aligned (mu : RV) (x a : Nat) (ha : 0 < a) (hx : x + a < 2147483648) : zsem d 149 0 [.inl (nI x), .inl (nI a)] [] (HH L mu p) = some (some (.inl (nI (up x a))), HH L mu p) := by
  have e1 : nI (x + a) - nI 1 = nI (x + a - 1) := nI_sub (by omega)
  have e2 : nI (x + a - 1) / nI a = nI ((x + a - 1) / a) := nI_div (by omega) (by omega) ha
  have e3 : ¬nI a = nI 0 := by rw [nI_eqc (by omega) (by omega)]; omega
  simp (disch := first | omega | assumption) only [h149_0, h149_1, h149_2, h149_3, h149_4, h149_5, h149_6, h149_7, h149_8, h149_9, Option.bind_some, Option.toList_some, Option.toList_none, List.cons_append, List.nil_append, nI_ltc, nI_lec, nI_eqc, nI_ne5, n5_ne, n5_lt, bI_0, bI_1, nI_add, pk_mul, if_pos, if_neg, ite_not, if_true, if_false, not_true_eq_false, not_false_eq_true, true_and, false_and, and_true, and_false, Nat.reduceAdd, Nat.reduceMul, e1, e2, e3]
  rfl
theorem m_foldL {R : RV} {s b : Nat} (w1 w2 w3 w4 : Int32) (N : Nat) (hN : N ≤ 12) (mu : RV) (hc : mu 105 7 = nI N) : ∀ l i pos, i + l.length = N → Rep (pv R s b) i l mu → (∀ x, x ∈ l → 0 < AL R s b x ∧ AL R s b x ≤ 1024) → pnl (SZ R s b) (AL R s b) pos l ≤ 1000000 →
    zsem (d + 1) 145 55 [.inr (some 105), .inl w1, .inl w2, .inl w3, .inl w4, .inl (nI pos), .inl (nI i)] [] (HH L mu p) = zsem (d + 1) 145 92 [.inr (some 105), .inl w1, .inl w2, .inl w3, .inl w4, .inl (nI (pnl (SZ R s b) (AL R s b) pos l)), .inl (nI N)] [] (HH L mu p) := by
  intro l
  induction l with
  | nil =>
    intro i pos hi _ _ _
    have : i = N := by simpa using hi
    subst this
    rw [h145_55]
    simp (disch := first | omega | assumption) only [h145_57, h145_58, h145_61, h145_64, h145_66, h145_67, h145_70, h145_72, h145_73, h145_76, h145_77, h145_80, h145_82, h145_83, h145_84, h145_86, h145_89, Option.bind_some, Option.toList_some, Option.toList_none, List.cons_append, List.nil_append, nI_ltc, nI_lec, nI_eqc, nI_ne5, n5_ne, n5_lt, bI_0, bI_1, nI_add, pk_mul, if_pos, if_neg, ite_not, if_true, if_false, not_true_eq_false, not_false_eq_true, true_and, false_and, and_true, and_false, Nat.reduceAdd, Nat.reduceMul, hc]
    rfl
  | cons x l ih =>
    intro i pos hi hR hal hp
    rw [List.length_cons] at hi
    obtain ⟨a0, a1, a2, a3⟩ := hR 0 x rfl
    rw [Nat.add_zero] at a2 a3
    have a2 : mu 112 i = nI (SZ R s b x) := a2
    have a3 : mu 113 i = nI (AL R s b x) := a3
    have hx := hal x (List.mem_cons_self ..)
    have hl : ∀ y, y ∈ l → 0 < AL R s b y ∧ AL R s b y ≤ 1024 := fun y hy => hal y (List.mem_cons_of_mem _ hy)
    rw [pnl] at hp
    have h1 := pnl_ge (sz := SZ R s b) l (up pos (AL R s b x) + SZ R s b x) (fun y hy => (hl y hy).1)
    have h2 := @up_ge pos (AL R s b x) hx.1
    rw [pnl, ← ih (i + 1) (up pos (AL R s b x) + SZ R s b x) (by omega) (fun t y hy => by
      have := hR (t + 1) y hy
      rw [show i + 1 + t = i + (t + 1) by omega]
      exact this) hl hp, h145_55]
    have hal1 := m_aligned d L p mu pos (AL R s b x) hx.1 (by omega)
    simp (disch := first | omega | assumption) only [h145_57, h145_58, h145_61, h145_64, h145_66, h145_67, h145_70, h145_72, h145_73, h145_76, h145_77, h145_80, h145_82, h145_83, h145_84, h145_86, h145_89, Option.bind_some, Option.toList_some, Option.toList_none, List.cons_append, List.nil_append, nI_ltc, nI_lec, nI_eqc, nI_ne5, n5_ne, n5_lt, bI_0, bI_1, nI_add, pk_mul, if_pos, if_neg, ite_not, if_true, if_false, not_true_eq_false, not_false_eq_true, true_and, false_and, and_true, and_false, Nat.reduceAdd, Nat.reduceMul, hc, a2, a3, hal1]
theorem m_reckI {R : RV} (hO : OK R) {D : Nat} (hDb : D ≤ 5) : ∀ m k mu (w3 w4 w5 w6 : AV), k + m = 24 → RelB R (fun t => mu 106 t) → MRk R D k mu → ∃ mu' w3' w4' w5' w6', zsem (d + 4) 145 8 [.inr (some 105), .inl (nI D), .inl (nI k), w3, w4, w5, w6] [] (HH L mu p) = zsem (d + 4) 145 8 [.inr (some 105), .inl (nI D), .inl (nI 24), w3', w4', w5', w6'] [] (HH L mu' p) ∧ FrN mu mu' ∧ MRk R D 24 mu' := by
  intro m
  induction m with
  | zero =>
    intro k mu w3 w4 w5 w6 hk hB hM
    have : k = 24 := by omega
    subst this
    exact ⟨mu, w3, w4, w5, w6, rfl, (FrI.rfl' mu).N, hM⟩
  | succ m ih =>
    intro k mu w3 w4 w5 w6 hk hB hM
    have hk24 : k < 24 := by omega
    obtain ⟨s, j, hs, hj, ek⟩ : ∃ s j, s < 2 ∧ j < 12 ∧ k = 12 * s + j := ⟨k / 12, k % 12, by omega, by omega, by omega⟩
    have q1 : nI k / nI 12 = nI s := by rw [nI_div (by omega) (by omega) (by omega)]; congr 1; omega
    have q2 : nI k - nI (s * 12) = nI j := by rw [nI_sub (by omega)]; congr 1; omega
    have q3 : ¬nI 12 = nI 0 := by decide
    have k2 := hB.kind hj
    have pass : ∀ mu1 (w3' w4' w5' w6' : AV), zsem (d + 4) 145 8 [.inr (some 105), .inl (nI D), .inl (nI k), w3, w4, w5, w6] [] (HH L mu p) = zsem (d + 4) 145 8 [.inr (some 105), .inl (nI D), .inl (nI (k + 1)), w3', w4', w5', w6'] [] (HH L mu1 p) → FrN mu mu1 → MRk R D (k + 1) mu1 → ∃ mu' w3' w4' w5' w6', zsem (d + 4) 145 8 [.inr (some 105), .inl (nI D), .inl (nI k), w3, w4, w5, w6] [] (HH L mu p) = zsem (d + 4) 145 8 [.inr (some 105), .inl (nI D), .inl (nI 24), w3', w4', w5', w6'] [] (HH L mu' p) ∧ FrN mu mu' ∧ MRk R D 24 mu' := by
      intro mu1 a3 a4 a5 a6 e h1 h2
      obtain ⟨mu', b3, b4, b5, b6, e1, e2, e3⟩ := ih (k + 1) mu1 a3 a4 a5 a6 (by omega) (RelB_cong hB (fun t _ => by rw [h1.1 106 (by omega) (by omega)])) h2
      exact ⟨mu', b3, b4, b5, b6, e.trans e1, h1.tr e2, e3⟩
    by_cases hb : R 2 j = nI 2
    · rw [hb] at k2
      have hT5 : rt R 5 j := Or.inr ⟨hj, hb, hO.T.2.2.2 j hj (k2_ne0 hb)⟩
      have hdp := m_depthOf (d + 2) L mu p hB hO.T 5 j hT5
      rw [dpt_dq hO.T hj hb] at hdp
      have hdq := dq_le hO.T hj (k2_ne0 hb)
      by_cases hD : dq R j + 1 = D
      · have hF : LayM R s j mu := fun j' hj' h2 hbj => by
          have e := dq_s hO.T hj' (k2_ne0 h2) (by omega)
          rw [hbj] at e
          exact hM s j' hs hj' h2 (Or.inl (by omega))
        obtain ⟨mu1, e1, e2, e3, e4⟩ := m_lists d L p hO hs (b := j) (by omega) mu (RelL_of hO.T (SameL.rfl' R) hB) hF
        obtain ⟨n1, n2, n3, n4⟩ := need_ok hO hs hj hb
        obtain ⟨f1, f2⟩ := fN_eq hO.T (s := s) hj hb
        obtain ⟨p1, p2, p3⟩ := part_ok hO (b := j) hs (by omega)
        have hmem : ∀ x, x ∈ IT R s j → 0 < AL R s j x ∧ AL R s j x ≤ 1024 := fun x hx => by
          obtain ⟨x1, x2⟩ := (itl_mem 12).mp hx
          obtain ⟨e, h1, h2⟩ := p1 x x1 x2
          have := sz_lt h1
          omega
        have hlen : (IT R s j).length ≤ 12 := itl_len 12
        have e5 := m_foldL (d + 3) L p (R := R) (s := s) (b := j) (nI D) (nI k) (nI j) (nI s) (IT R s j).length hlen mu1 e3 (IT R s j) 0 0 (by omega) e2 hmem (by omega)
        obtain ⟨mr, m1, m2⟩ := hO.2.2.2.2.1 j s hj hs
        have hmr : mr * grn s ≤ 16 * 16 := Nat.mul_le_mul m1 (@grn_le s).2
        have hr : mu1 106 (20 * j + 18 + s) = nI (mr * grn s) := by
          rw [e4.1 106 (by omega) (by omega), (hB.win hj (k2_ne0 hb) hs).2.2, m2]
        rw [m2, vn_n (by omega)] at f1
        have hg := gal_hd (sz := SZ R s j) (al := AL R s j) (g := grn s) 12 (fun k hk hz => by
          obtain ⟨e, h1, h2⟩ := p1 k hk hz
          rw [h2]
          have : 1 ≤ 2 ^ e := Nat.pow_pos (by omega)
          have := (gle (g := grn s) (a := 1) (b := 2 ^ e) (by have := @grn_le s; omega)).mpr this
          omega)
        have hsl : (20 * j + 18 + s) < 1687 := by omega
        refine pass (u2 (u2 mu1 108 k (nI (fN R s j))) 109 k (nI (aN R s j))) (.inl (nI j)) (.inl (nI s)) (.inl (nI (pnl (SZ R s j) (AL R s j) 0 (IT R s j)))) (.inl (nI (IT R s j).length)) ?_ ⟨fun r g1 g2 => by rw [u2_row (by omega), u2_row (by omega), e4.1 r (by omega) (by omega)], fun i hi => by rw [u2_row (by omega), u2_row (by omega), e4.2 i hi]⟩ (fun s' j' hs' hj' h2 hc => ?_)
        · rw [h145_8, f1]
          cases hl : IT R s j with
          | nil =>
            have ha : aN R s j = grn s := by rw [f2]; exact hg.1 hl
            rw [ha]
            rw [hl] at e5 e3
            have e3' : mu1 105 7 = nI 0 := e3
            simp (disch := first | omega | assumption) only [h145_0, h145_1, h145_3, h145_6, h145_7, h145_9, h145_11, h145_14, h145_15, h145_17, h145_18, h145_19, h145_20, h145_22, h145_23, h145_25, h145_26, h145_27, h145_30, h145_33, h145_34, h145_35, h145_38, h145_39, h145_42, h145_43, h145_44, h145_46, h145_49, h145_50, h145_52, h145_53, h145_57, h145_58, h145_61, h145_64, h145_66, h145_67, h145_70, h145_72, h145_73, h145_76, h145_77, h145_80, h145_82, h145_83, h145_84, h145_86, h145_89, h145_92, h145_93, h145_96, h145_97, h145_99, h145_100, h145_103, h145_104, h145_107, h145_109, h145_110, h145_112, h145_113, h145_114, h145_115, h145_116, h145_117, h145_120, h145_121, h145_122, h145_125, h145_128, h145_129, h145_132, h145_133, h145_134, h145_137, h145_139, h145_142, h145_143, h145_146, h145_149, h145_152, h145_155, Option.bind_some, Option.toList_some, Option.toList_none, List.cons_append, List.nil_append, nI_ltc, nI_lec, nI_eqc, nI_ne5, n5_ne, n5_lt, bI_0, bI_1, nI_add, pk_mul, if_pos, if_neg, ite_not, if_true, if_false, not_true_eq_false, not_false_eq_true, true_and, false_and, and_true, and_false, Nat.reduceAdd, Nat.reduceMul, q1, q2, q3, m_isBridge_n, k2, hdp, hD, e1]
            rw [e5]
            simp (disch := first | omega | assumption) only [h145_0, h145_1, h145_3, h145_6, h145_7, h145_9, h145_11, h145_14, h145_15, h145_17, h145_18, h145_19, h145_20, h145_22, h145_23, h145_25, h145_26, h145_27, h145_30, h145_33, h145_34, h145_35, h145_38, h145_39, h145_42, h145_43, h145_44, h145_46, h145_49, h145_50, h145_52, h145_53, h145_57, h145_58, h145_61, h145_64, h145_66, h145_67, h145_70, h145_72, h145_73, h145_76, h145_77, h145_80, h145_82, h145_83, h145_84, h145_86, h145_89, h145_92, h145_93, h145_96, h145_97, h145_99, h145_100, h145_103, h145_104, h145_107, h145_109, h145_110, h145_112, h145_113, h145_114, h145_115, h145_116, h145_117, h145_120, h145_121, h145_122, h145_125, h145_128, h145_129, h145_132, h145_133, h145_134, h145_137, h145_139, h145_142, h145_143, h145_146, h145_149, h145_152, h145_155, Option.bind_some, Option.toList_some, Option.toList_none, List.cons_append, List.nil_append, nI_ltc, nI_lec, nI_eqc, nI_ne5, n5_ne, n5_lt, bI_0, bI_1, nI_add, pk_mul, if_pos, if_neg, ite_not, if_true, if_false, not_true_eq_false, not_false_eq_true, true_and, false_and, and_true, and_false, Nat.reduceAdd, Nat.reduceMul, m_at, hr, u2_oa, e3', m_grain]
          | cons x l =>
            have ha : aN R s j = AL R s j x := by rw [f2]; exact (hg.2 x l hl).symm
            have h0 := (e2 0 x (by rw [hl]; rfl)).2.2.2
            have h0 : mu1 113 0 = nI (AL R s j x) := h0
            rw [ha]
            rw [hl] at e5 e3
            have l1 : ¬nI (x :: l).length ≤ nI 0 := by
              rw [hl] at hlen
              rw [nI_lec (by omega) (by omega), List.length_cons]; omega
            simp (disch := first | omega | assumption) only [h145_0, h145_1, h145_3, h145_6, h145_7, h145_9, h145_11, h145_14, h145_15, h145_17, h145_18, h145_19, h145_20, h145_22, h145_23, h145_25, h145_26, h145_27, h145_30, h145_33, h145_34, h145_35, h145_38, h145_39, h145_42, h145_43, h145_44, h145_46, h145_49, h145_50, h145_52, h145_53, h145_57, h145_58, h145_61, h145_64, h145_66, h145_67, h145_70, h145_72, h145_73, h145_76, h145_77, h145_80, h145_82, h145_83, h145_84, h145_86, h145_89, h145_92, h145_93, h145_96, h145_97, h145_99, h145_100, h145_103, h145_104, h145_107, h145_109, h145_110, h145_112, h145_113, h145_114, h145_115, h145_116, h145_117, h145_120, h145_121, h145_122, h145_125, h145_128, h145_129, h145_132, h145_133, h145_134, h145_137, h145_139, h145_142, h145_143, h145_146, h145_149, h145_152, h145_155, Option.bind_some, Option.toList_some, Option.toList_none, List.cons_append, List.nil_append, nI_ltc, nI_lec, nI_eqc, nI_ne5, n5_ne, n5_lt, bI_0, bI_1, nI_add, pk_mul, if_pos, if_neg, ite_not, if_true, if_false, not_true_eq_false, not_false_eq_true, true_and, false_and, and_true, and_false, Nat.reduceAdd, Nat.reduceMul, q1, q2, q3, m_isBridge_n, k2, hdp, hD, e1]
            rw [e5]
            simp (disch := first | omega | assumption) only [h145_0, h145_1, h145_3, h145_6, h145_7, h145_9, h145_11, h145_14, h145_15, h145_17, h145_18, h145_19, h145_20, h145_22, h145_23, h145_25, h145_26, h145_27, h145_30, h145_33, h145_34, h145_35, h145_38, h145_39, h145_42, h145_43, h145_44, h145_46, h145_49, h145_50, h145_52, h145_53, h145_57, h145_58, h145_61, h145_64, h145_66, h145_67, h145_70, h145_72, h145_73, h145_76, h145_77, h145_80, h145_82, h145_83, h145_84, h145_86, h145_89, h145_92, h145_93, h145_96, h145_97, h145_99, h145_100, h145_103, h145_104, h145_107, h145_109, h145_110, h145_112, h145_113, h145_114, h145_115, h145_116, h145_117, h145_120, h145_121, h145_122, h145_125, h145_128, h145_129, h145_132, h145_133, h145_134, h145_137, h145_139, h145_142, h145_143, h145_146, h145_149, h145_152, h145_155, Option.bind_some, Option.toList_some, Option.toList_none, List.cons_append, List.nil_append, nI_ltc, nI_lec, nI_eqc, nI_ne5, n5_ne, n5_lt, bI_0, bI_1, nI_add, pk_mul, if_pos, if_neg, ite_not, if_true, if_false, not_true_eq_false, not_false_eq_true, true_and, false_and, and_true, and_false, Nat.reduceAdd, Nat.reduceMul, m_at, hr, u2_oa, e3, l1, h0]
        · by_cases hjk : 12 * s' + j' = k
          · have h1 : s' = s := by omega
            have h2 : j' = j := by omega
            subst h1
            subst h2
            rw [hjk, u2_row (by omega), u2_s, u2_s]
            exact ⟨rfl, rfl⟩
          · rw [u2_row (by omega), u2_o _ _ (by omega), u2_o _ _ (by omega), u2_row (by omega), e4.1 108 (by omega) (by omega), e4.1 109 (by omega) (by omega)]
            exact hM s' j' hs' hj' h2 (by omega)
      · refine pass mu (.inl (nI j)) (.inl (nI s)) w5 w6 ?_ (FrI.rfl' mu).N (fun s' j' hs' hj' h2 hc => hM s' j' hs' hj' h2 ?_)
        · rw [h145_8]
          simp (disch := first | omega | assumption) only [h145_0, h145_1, h145_3, h145_6, h145_7, h145_9, h145_11, h145_14, h145_15, h145_17, h145_18, h145_19, h145_20, h145_22, h145_23, h145_25, h145_26, h145_27, h145_30, h145_33, h145_34, h145_35, h145_38, h145_39, h145_42, h145_43, h145_44, h145_46, h145_49, h145_50, h145_52, h145_53, h145_57, h145_58, h145_61, h145_64, h145_66, h145_67, h145_70, h145_72, h145_73, h145_76, h145_77, h145_80, h145_82, h145_83, h145_84, h145_86, h145_89, h145_92, h145_93, h145_96, h145_97, h145_99, h145_100, h145_103, h145_104, h145_107, h145_109, h145_110, h145_112, h145_113, h145_114, h145_115, h145_116, h145_117, h145_120, h145_121, h145_122, h145_125, h145_128, h145_129, h145_132, h145_133, h145_134, h145_137, h145_139, h145_142, h145_143, h145_146, h145_149, h145_152, h145_155, Option.bind_some, Option.toList_some, Option.toList_none, List.cons_append, List.nil_append, nI_ltc, nI_lec, nI_eqc, nI_ne5, n5_ne, n5_lt, bI_0, bI_1, nI_add, pk_mul, if_pos, if_neg, ite_not, if_true, if_false, not_true_eq_false, not_false_eq_true, true_and, false_and, and_true, and_false, Nat.reduceAdd, Nat.reduceMul, q1, q2, q3, m_isBridge_n, k2, hdp]
        · by_cases hjk : j' = j
          · subst hjk; omega
          · omega
    · refine pass mu (.inl (nI j)) (.inl (nI s)) w5 w6 ?_ (FrI.rfl' mu).N (fun s' j' hs' hj' h2 hc => hM s' j' hs' hj' h2 ?_)
      · rw [← k2] at hb
        rw [h145_8]
        simp (disch := first | omega | assumption) only [h145_0, h145_1, h145_3, h145_6, h145_7, h145_9, h145_11, h145_14, h145_15, h145_17, h145_18, h145_19, h145_20, h145_22, h145_23, h145_25, h145_26, h145_27, h145_30, h145_33, h145_34, h145_35, h145_38, h145_39, h145_42, h145_43, h145_44, h145_46, h145_49, h145_50, h145_52, h145_53, h145_57, h145_58, h145_61, h145_64, h145_66, h145_67, h145_70, h145_72, h145_73, h145_76, h145_77, h145_80, h145_82, h145_83, h145_84, h145_86, h145_89, h145_92, h145_93, h145_96, h145_97, h145_99, h145_100, h145_103, h145_104, h145_107, h145_109, h145_110, h145_112, h145_113, h145_114, h145_115, h145_116, h145_117, h145_120, h145_121, h145_122, h145_125, h145_128, h145_129, h145_132, h145_133, h145_134, h145_137, h145_139, h145_142, h145_143, h145_146, h145_149, h145_152, h145_155, Option.bind_some, Option.toList_some, Option.toList_none, List.cons_append, List.nil_append, nI_ltc, nI_lec, nI_eqc, nI_ne5, n5_ne, n5_lt, bI_0, bI_1, nI_add, pk_mul, if_pos, if_neg, ite_not, if_true, if_false, not_true_eq_false, not_false_eq_true, true_and, false_and, and_true, and_false, Nat.reduceAdd, Nat.reduceMul, q1, q2, q3, m_isBridge_n, hb]
      · by_cases hjk : j' = j
        · subst hjk; exact absurd h2 hb
        · omega
theorem m_reckO {R : RV} (hO : OK R) : ∀ D mu (w2 w3 w4 w5 w6 : AV), D ≤ 5 → RelB R (fun t => mu 106 t) → MRk R D 0 mu → ∃ mu', zsem (d + 4) 145 2 [.inr (some 105), .inl (nI D), w2, w3, w4, w5, w6] [] (HH L mu p) = some (none, HH L mu' p) ∧ FrN mu mu' ∧ MRk R 0 0 mu' := by
  intro D
  induction D with
  | zero =>
    intro mu w2 w3 w4 w5 w6 hD hB hM
    refine ⟨mu, ?_, (FrI.rfl' mu).N, hM⟩
    rw [h145_2]
    simp (disch := first | omega | assumption) only [h145_0, h145_1, h145_3, h145_6, h145_7, h145_9, h145_11, h145_14, h145_15, h145_17, h145_18, h145_19, h145_20, h145_22, h145_23, h145_25, h145_26, h145_27, h145_30, h145_33, h145_34, h145_35, h145_38, h145_39, h145_42, h145_43, h145_44, h145_46, h145_49, h145_50, h145_52, h145_53, h145_57, h145_58, h145_61, h145_64, h145_66, h145_67, h145_70, h145_72, h145_73, h145_76, h145_77, h145_80, h145_82, h145_83, h145_84, h145_86, h145_89, h145_92, h145_93, h145_96, h145_97, h145_99, h145_100, h145_103, h145_104, h145_107, h145_109, h145_110, h145_112, h145_113, h145_114, h145_115, h145_116, h145_117, h145_120, h145_121, h145_122, h145_125, h145_128, h145_129, h145_132, h145_133, h145_134, h145_137, h145_139, h145_142, h145_143, h145_146, h145_149, h145_152, h145_155, Option.bind_some, Option.toList_some, Option.toList_none, List.cons_append, List.nil_append, nI_ltc, nI_lec, nI_eqc, nI_ne5, n5_ne, n5_lt, bI_0, bI_1, nI_add, pk_mul, if_pos, if_neg, ite_not, if_true, if_false, not_true_eq_false, not_false_eq_true, true_and, false_and, and_true, and_false, Nat.reduceAdd, Nat.reduceMul]
  | succ D ih =>
    intro mu w2 w3 w4 w5 w6 hD hB hM
    obtain ⟨mu1, b3, b4, b5, b6, e1, e2, e3⟩ := m_reckI d L p hO (D := D + 1) hD 24 0 mu w3 w4 w5 w6 rfl hB hM
    obtain ⟨mu2, e4, e5, e6⟩ := ih mu1 (.inl (nI 24)) b3 b4 b5 b6 (by omega) (RelB_cong hB (fun t _ => by rw [e2.1 106 (by omega) (by omega)])) (fun s j hs hj h2 hc => e3 s j hs hj h2 (by omega))
    refine ⟨mu2, ?_, e2.tr e5, e6⟩
    have e0 := dec_ok D
    have l1 : ¬nI (D + 1) ≤ nI 0 := by rw [nI_lec (by omega) (by omega)]; omega
    rw [h145_2]
    simp (disch := first | omega | assumption) only [h145_0, h145_1, h145_3, h145_6, h145_7, h145_9, h145_11, h145_14, h145_15, h145_17, h145_18, h145_19, h145_20, h145_22, h145_23, h145_25, h145_26, h145_27, h145_30, h145_33, h145_34, h145_35, h145_38, h145_39, h145_42, h145_43, h145_44, h145_46, h145_49, h145_50, h145_52, h145_53, h145_57, h145_58, h145_61, h145_64, h145_66, h145_67, h145_70, h145_72, h145_73, h145_76, h145_77, h145_80, h145_82, h145_83, h145_84, h145_86, h145_89, h145_92, h145_93, h145_96, h145_97, h145_99, h145_100, h145_103, h145_104, h145_107, h145_109, h145_110, h145_112, h145_113, h145_114, h145_115, h145_116, h145_117, h145_120, h145_121, h145_122, h145_125, h145_128, h145_129, h145_132, h145_133, h145_134, h145_137, h145_139, h145_142, h145_143, h145_146, h145_149, h145_152, h145_155, Option.bind_some, Option.toList_some, Option.toList_none, List.cons_append, List.nil_append, nI_ltc, nI_lec, nI_eqc, nI_ne5, n5_ne, n5_lt, bI_0, bI_1, nI_add, pk_mul, if_pos, if_neg, ite_not, if_true, if_false, not_true_eq_false, not_false_eq_true, true_and, false_and, and_true, and_false, Nat.reduceAdd, Nat.reduceMul, e1, l1]
    rw [h145_8]
    simp (disch := first | omega | assumption) only [h145_0, h145_1, h145_3, h145_6, h145_7, h145_9, h145_11, h145_14, h145_15, h145_17, h145_18, h145_19, h145_20, h145_22, h145_23, h145_25, h145_26, h145_27, h145_30, h145_33, h145_34, h145_35, h145_38, h145_39, h145_42, h145_43, h145_44, h145_46, h145_49, h145_50, h145_52, h145_53, h145_57, h145_58, h145_61, h145_64, h145_66, h145_67, h145_70, h145_72, h145_73, h145_76, h145_77, h145_80, h145_82, h145_83, h145_84, h145_86, h145_89, h145_92, h145_93, h145_96, h145_97, h145_99, h145_100, h145_103, h145_104, h145_107, h145_109, h145_110, h145_112, h145_113, h145_114, h145_115, h145_116, h145_117, h145_120, h145_121, h145_122, h145_125, h145_128, h145_129, h145_132, h145_133, h145_134, h145_137, h145_139, h145_142, h145_143, h145_146, h145_149, h145_152, h145_155, Option.bind_some, Option.toList_some, Option.toList_none, List.cons_append, List.nil_append, nI_ltc, nI_lec, nI_eqc, nI_ne5, n5_ne, n5_lt, bI_0, bI_1, nI_add, pk_mul, if_pos, if_neg, ite_not, if_true, if_false, not_true_eq_false, not_false_eq_true, true_and, false_and, and_true, and_false, Nat.reduceAdd, Nat.reduceMul, e0, e4]
theorem m_reckons {R : RV} (hO : OK R) (mu : RV) (hB : RelB R (fun t => mu 106 t)) : ∃ mu', zsem (d + 4) 145 0 [.inr (some 105), .inr none, .inr none, .inr none, .inr none, .inr none, .inr none] [] (HH L mu p) = some (none, HH L mu' p) ∧ FrN mu mu' ∧ ∀ s j, s < 2 → j < 12 → R 2 j = nI 2 → mu' 108 (12 * s + j) = nI (fN R s j) ∧ mu' 109 (12 * s + j) = nI (aN R s j) := by
  obtain ⟨mu', e1, e2, e3⟩ := m_reckO d L p hO 5 mu (.inr none) (.inr none) (.inr none) (.inr none) (.inr none) (by omega) hB (fun s j hs hj h2 hc => by
    have := dq_le hO.T hj (k2_ne0 h2)
    omega)
  refine ⟨mu', ?_, e2, fun s j hs hj h2 => e3 s j hs hj h2 (by omega)⟩
  rw [← e1]
  simp (disch := first | omega | assumption) only [h145_0, h145_1, h145_3, h145_6, h145_7, h145_9, h145_11, h145_14, h145_15, h145_17, h145_18, h145_19, h145_20, h145_22, h145_23, h145_25, h145_26, h145_27, h145_30, h145_33, h145_34, h145_35, h145_38, h145_39, h145_42, h145_43, h145_44, h145_46, h145_49, h145_50, h145_52, h145_53, h145_57, h145_58, h145_61, h145_64, h145_66, h145_67, h145_70, h145_72, h145_73, h145_76, h145_77, h145_80, h145_82, h145_83, h145_84, h145_86, h145_89, h145_92, h145_93, h145_96, h145_97, h145_99, h145_100, h145_103, h145_104, h145_107, h145_109, h145_110, h145_112, h145_113, h145_114, h145_115, h145_116, h145_117, h145_120, h145_121, h145_122, h145_125, h145_128, h145_129, h145_132, h145_133, h145_134, h145_137, h145_139, h145_142, h145_143, h145_146, h145_149, h145_152, h145_155, Option.bind_some, Option.toList_some, Option.toList_none, List.cons_append, List.nil_append, nI_ltc, nI_lec, nI_eqc, nI_ne5, n5_ne, n5_lt, bI_0, bI_1, nI_add, pk_mul, if_pos, if_neg, ite_not, if_true, if_false, not_true_eq_false, not_false_eq_true, true_and, false_and, and_true, and_false, Nat.reduceAdd, Nat.reduceMul]
theorem Rel_need {mu mu1 mu2 : RV} (h : Rel mu p) (h1 : ∀ r, (r < 82 ∨ 86 < r) → mu1 r = mu r) (h2 : FrN mu1 mu2) : Rel mu2 p :=
  Rel_scr h (fun a ha => by rw [h2.1 a (by omega) (by omega), h1 a (by omega)]) (fun i hi => by rw [h2.2 i (by omega), h1 105 (by omega)]) (fun t ht => by rw [h2.1 106 (by omega) (by omega), h1 106 (by omega)])
theorem op_need (mu : RV) (h : Rel mu p) (x y : Int32) : Pair (d + 5) L 106 [.inl x, .inl y] 187 [.inl x, .inl y] mu p := by
  have hO := h.2.2.1
  rcases ixo x 12 (by omega) with ⟨j, hj, rfl⟩ | hx
  · have hk2 := h.kind hj
    by_cases hk : mu 2 j = nI 2
    · rcases spx y with ⟨s, hs, rfl⟩ | ⟨hy, hy2⟩
      · obtain ⟨mu1, e1, e2, e3⟩ := z_measure (d + 1) L p hO hs mu rfl
        have hR : rk mu1 1 = rk mu 1 := rk_cong (fun r _ _ => e2 r (by omega))
        obtain ⟨mu2, e4, e5, e6⟩ := m_reckons d L p hO mu1 (by
          rw [e2 106 (by omega)]; exact h.B)
        have hkk : rk mu 1 2 j = nI 2 := by rw [rk_2 hj]; exact hk
        have g1 := (e3 j hj hkk).1
        have g2 := (e6 s j hs hj hkk).1
        have k3 : mu1 106 (20 * j) = nI 2 := by rw [e2 106 (by omega), hk2, hk]
        refine ⟨nI (fN (rk mu 1) s j), mu1, p, mu2, ?_, ?_, Rel_need p h e2 e5⟩
        · simp (disch := first | omega | assumption) only [h106_0, h106_1, h106_4, h106_5, h106_8, h106_11, h106_12, h106_13, h106_14, h106_17, h106_20, h106_22, h106_23, h106_24, h106_27, h106_28, h106_31, h106_32, h106_35, h106_36, h106_39, h106_42, h106_43, h106_44, Option.bind_some, Option.toList_some, Option.toList_none, List.cons_append, List.nil_append, nI_ltc, nI_lec, nI_eqc, nI_ne5, n5_ne, n5_lt, bI_0, bI_1, nI_add, pk_mul, if_pos, if_neg, ite_not, if_true, if_false, not_true_eq_false, not_false_eq_true, true_and, false_and, and_true, and_false, Nat.reduceAdd, Nat.reduceMul, z_isBridge_n, hk, z_isSpace_n, e1, g1]
        · simp (disch := first | omega | assumption) only [h187_0, h187_1, h187_2, h187_5, h187_8, h187_9, h187_10, h187_11, h187_14, h187_17, h187_19, h187_20, h187_21, h187_24, h187_25, h187_28, h187_30, h187_31, h187_32, h187_33, h187_34, h187_35, Option.bind_some, Option.toList_some, Option.toList_none, List.cons_append, List.nil_append, nI_ltc, nI_lec, nI_eqc, nI_ne5, n5_ne, n5_lt, bI_0, bI_1, nI_add, pk_mul, if_pos, if_neg, ite_not, if_true, if_false, not_true_eq_false, not_false_eq_true, true_and, false_and, and_true, and_false, Nat.reduceAdd, Nat.reduceMul, m_isBridge_n, k3, m_isSpace_n, e4, g2]
      · refine ⟨-2, mu, p, mu, ?_, ?_, h⟩
        · simp (disch := first | omega | assumption) only [h106_0, h106_1, h106_4, h106_5, h106_8, h106_11, h106_12, h106_13, h106_14, h106_17, h106_20, h106_22, h106_23, h106_24, h106_27, h106_28, h106_31, h106_32, h106_35, h106_36, h106_39, h106_42, h106_43, h106_44, Option.bind_some, Option.toList_some, Option.toList_none, List.cons_append, List.nil_append, nI_ltc, nI_lec, nI_eqc, nI_ne5, n5_ne, n5_lt, bI_0, bI_1, nI_add, pk_mul, if_pos, if_neg, ite_not, if_true, if_false, not_true_eq_false, not_false_eq_true, true_and, false_and, and_true, and_false, Nat.reduceAdd, Nat.reduceMul, z_isBridge_n, hk, z_isSpace_o]
        · simp (disch := first | omega | assumption) only [h187_0, h187_1, h187_2, h187_5, h187_8, h187_9, h187_10, h187_11, h187_14, h187_17, h187_19, h187_20, h187_21, h187_24, h187_25, h187_28, h187_30, h187_31, h187_32, h187_33, h187_34, h187_35, Option.bind_some, Option.toList_some, Option.toList_none, List.cons_append, List.nil_append, nI_ltc, nI_lec, nI_eqc, nI_ne5, n5_ne, n5_lt, bI_0, bI_1, nI_add, pk_mul, if_pos, if_neg, ite_not, if_true, if_false, not_true_eq_false, not_false_eq_true, true_and, false_and, and_true, and_false, Nat.reduceAdd, Nat.reduceMul, m_isBridge_n, hk2, hk, m_isSpace_o]
    · refine ⟨-1, mu, p, mu, ?_, ?_, h⟩
      · simp (disch := first | omega | assumption) only [h106_0, h106_1, h106_4, h106_5, h106_8, h106_11, h106_12, h106_13, h106_14, h106_17, h106_20, h106_22, h106_23, h106_24, h106_27, h106_28, h106_31, h106_32, h106_35, h106_36, h106_39, h106_42, h106_43, h106_44, Option.bind_some, Option.toList_some, Option.toList_none, List.cons_append, List.nil_append, nI_ltc, nI_lec, nI_eqc, nI_ne5, n5_ne, n5_lt, bI_0, bI_1, nI_add, pk_mul, if_pos, if_neg, ite_not, if_true, if_false, not_true_eq_false, not_false_eq_true, true_and, false_and, and_true, and_false, Nat.reduceAdd, Nat.reduceMul, z_isBridge_n, hk]
      · simp (disch := first | omega | assumption) only [h187_0, h187_1, h187_2, h187_5, h187_8, h187_9, h187_10, h187_11, h187_14, h187_17, h187_19, h187_20, h187_21, h187_24, h187_25, h187_28, h187_30, h187_31, h187_32, h187_33, h187_34, h187_35, Option.bind_some, Option.toList_some, Option.toList_none, List.cons_append, List.nil_append, nI_ltc, nI_lec, nI_eqc, nI_ne5, n5_ne, n5_lt, bI_0, bI_1, nI_add, pk_mul, if_pos, if_neg, ite_not, if_true, if_false, not_true_eq_false, not_false_eq_true, true_and, false_and, and_true, and_false, Nat.reduceAdd, Nat.reduceMul, m_isBridge_n, hk2, hk]
  · refine ⟨-1, mu, p, mu, ?_, ?_, h⟩
    · simp (disch := first | omega | assumption) only [h106_0, h106_1, h106_4, h106_5, h106_8, h106_11, h106_12, h106_13, h106_14, h106_17, h106_20, h106_22, h106_23, h106_24, h106_27, h106_28, h106_31, h106_32, h106_35, h106_36, h106_39, h106_42, h106_43, h106_44, Option.bind_some, Option.toList_some, Option.toList_none, List.cons_append, List.nil_append, nI_ltc, nI_lec, nI_eqc, nI_ne5, n5_ne, n5_lt, bI_0, bI_1, nI_add, pk_mul, if_pos, if_neg, ite_not, if_true, if_false, not_true_eq_false, not_false_eq_true, true_and, false_and, and_true, and_false, Nat.reduceAdd, Nat.reduceMul, z_isBridge_o]
    · simp (disch := first | omega | assumption) only [h187_0, h187_1, h187_2, h187_5, h187_8, h187_9, h187_10, h187_11, h187_14, h187_17, h187_19, h187_20, h187_21, h187_24, h187_25, h187_28, h187_30, h187_31, h187_32, h187_33, h187_34, h187_35, Option.bind_some, Option.toList_some, Option.toList_none, List.cons_append, List.nil_append, nI_ltc, nI_lec, nI_eqc, nI_ne5, n5_ne, n5_lt, bI_0, bI_1, nI_add, pk_mul, if_pos, if_neg, ite_not, if_true, if_false, not_true_eq_false, not_false_eq_true, true_and, false_and, and_true, and_false, Nat.reduceAdd, Nat.reduceMul, m_isBridge_o]
end
