/-! find -/
def HC (mu : RV) (s x i : Nat) : Prop := ∃ a n, a < 4096 ∧ n ≤ 1024 ∧ mu 6 i = nI s ∧ mu 8 i = nI a ∧ mu 7 i = nI n ∧ a ≤ x ∧ x < a + n
section
variable (d L : Nat) (mu : RV) (p : Nat → Nat)
theorem reg_val (h : Rel mu p) {j q : Nat} (hj : j < 12) (hq : q < 3) : mu 8 (j * 3 + q) = -5 ∨ (mu 2 j = nI 1 ∧ ∃ sp a n, sp < 2 ∧ a < 4096 ∧ n ≤ 1024 ∧ 0 < n ∧ mu 6 (j * 3 + q) = nI sp ∧ mu 8 (j * 3 + q) = nI a ∧ mu 7 (j * 3 + q) = nI n) := by
  obtain ⟨i1, i2, i3, i4, i5, i6, i7, i8⟩ := h.2.2.1
  have e6 := rk_6 (mu := mu) (i := j * 3 + q) (by omega)
  have e7 := rk_7 (mu := mu) (i := j * 3 + q) (by omega)
  have e8 := rk_8 (mu := mu) (i := j * 3 + q) (by omega)
  rw [← e6, ← e7, ← e8, ← rk_2 (mu := mu) hj]
  rcases i7.1 j q hj hq with g | ⟨a, ha, g⟩
  · exact Or.inl g
  · by_cases hk : rk mu 1 2 j = nI 1
    · obtain ⟨sp, s1, s2, s3⟩ := i4 j q hj hq
      rcases s3 with ⟨-, s4⟩ | ⟨e, he, s4⟩
      · exact Or.inl s4
      · have := sz_lt he
        exact Or.inr ⟨hk, sp, a, _, s1, ha, this.1, this.2, s2, g, s4⟩
    · exact Or.inl (i2.1 j hj hk q hq).2
theorem HC_card (h : Rel mu p) {s x j q : Nat} (hs : s < 2) (hj : j < 12) (hq : q < 3) (hc : HC mu s x (j * 3 + q)) : mu 2 j = nI 1 := by
  obtain ⟨a, n, h1, h2, h3, h4, h5, h6, h7⟩ := hc
  rcases reg_val mu p h hj hq with g | ⟨g, -⟩
  · rw [h4, nI_ne5 (by omega)] at g; exact g.elim
  · exact g
theorem HC_one (h : Rel mu p) {s x i i' : Nat} (hs : s < 2) (hi : i < 36) (hi' : i' < 36) (c : HC mu s x i) (c' : HC mu s x i') : i = i' := by
  have e : i = i / 3 * 3 + i % 3 := by omega
  have e' : i' = i' / 3 * 3 + i' % 3 := by omega
  rw [e] at c
  rw [e'] at c'
  have k := HC_card mu p h hs (by omega) (by omega) c
  have k' := HC_card mu p h hs (by omega) (by omega) c'
  obtain ⟨a, n, h1, h2, h3, h4, h5, h6, h7⟩ := c
  obtain ⟨a', n', h1', h2', h3', h4', h5', h6', h7'⟩ := c'
  have kk : rk mu 1 2 (i / 3) = nI 1 := by rw [rk_2 (by omega)]; exact k
  have kk' : rk mu 1 2 (i' / 3) = nI 1 := by rw [rk_2 (by omega)]; exact k'
  have cv : cov (rk mu 1) s (i / 3) (i % 3) a n := ⟨h1, by omega, Or.inl ⟨kk, by rw [rk_6 (by omega)]; exact h3, by rw [rk_8 (by omega)]; exact h4, by rw [rk_7 (by omega)]; exact h5⟩⟩
  have cv' : cov (rk mu 1) s (i' / 3) (i' % 3) a' n' := ⟨h1', by omega, Or.inl ⟨kk', by rw [rk_6 (by omega)]; exact h3', by rw [rk_8 (by omega)]; exact h4', by rw [rk_7 (by omega)]; exact h5'⟩⟩
  have hW : InvW (rk mu 1) s := by
    obtain ⟨i1, i2, i3, i4, i5, i6, i7, i8⟩ := h.2.2.1
    rcases (show s = 0 ∨ s = 1 by omega) with rfl | rfl
    · exact i7
    · exact i8
  have := reg_one h.T hW (by omega) (by omega) (by omega) (by omega) kk kk' cv cv' h6 h7 h6' h7'
  omega
theorem z_regL (h : Rel mu p) (s x : Nat) (hs : s < 2) (hx : x < 4096) : ∀ k i (w : AV), i + k = 36 → (∃ j, i ≤ j ∧ j < 36 ∧ HC mu s x j ∧ zsem d 111 2 [.inr (some 1), .inl (nI s), .inl (nI x), .inl (nI i), w] [] (HH L mu p) = some (some (.inl (nI j)), HH L mu p)) ∨
    ((∀ j, i ≤ j → j < 36 → ¬HC mu s x j) ∧ zsem d 111 2 [.inr (some 1), .inl (nI s), .inl (nI x), .inl (nI i), w] [] (HH L mu p) = some (some (.inl (-5)), HH L mu p)) := by
  intro k
  induction k with
  | zero =>
    intro i w hi
    have : i = 36 := by omega
    subst this
    refine Or.inr ⟨fun j h1 h2 => by omega, ?_⟩
    rw [h111_2]
    simp (disch := first | omega | assumption) only [h111_0, h111_1, h111_3, h111_5, h111_8, h111_9, h111_12, h111_13, h111_14, h111_16, h111_18, h111_20, h111_23, h111_24, h111_27, h111_28, h111_29, h111_30, h111_33, h111_35, h111_36, h111_39, h111_40, h111_42, h111_43, h111_46, h111_47, h111_48, h111_49, h111_52, h111_53, h111_54, h111_57, h111_60, h111_62, Option.bind_some, Option.toList_some, Option.toList_none, List.cons_append, List.nil_append, nI_ltc, nI_lec, nI_eqc, nI_ne5, n5_ne, n5_lt, bI_0, bI_1, nI_add, pk_mul, if_pos, if_neg, ite_not, if_true, if_false, not_true_eq_false, not_false_eq_true, true_and, false_and, and_true, and_false, Nat.reduceAdd, Nat.reduceMul]
  | succ k ih =>
    intro i w hi
    have nxt : ∀ w' : AV, ¬HC mu s x i → zsem d 111 2 [.inr (some 1), .inl (nI s), .inl (nI x), .inl (nI i), w] [] (HH L mu p) = zsem d 111 2 [.inr (some 1), .inl (nI s), .inl (nI x), .inl (nI (i + 1)), w'] [] (HH L mu p) → (∃ j, i ≤ j ∧ j < 36 ∧ HC mu s x j ∧ zsem d 111 2 [.inr (some 1), .inl (nI s), .inl (nI x), .inl (nI i), w] [] (HH L mu p) = some (some (.inl (nI j)), HH L mu p)) ∨
        ((∀ j, i ≤ j → j < 36 → ¬HC mu s x j) ∧ zsem d 111 2 [.inr (some 1), .inl (nI s), .inl (nI x), .inl (nI i), w] [] (HH L mu p) = some (some (.inl (-5)), HH L mu p)) := by
      intro w' hc e
      rw [e]
      rcases ih (i + 1) w' (by omega) with ⟨j, h1, h2, h3, h4⟩ | ⟨h1, h2⟩
      · exact Or.inl ⟨j, by omega, h2, h3, h4⟩
      · refine Or.inr ⟨fun j g1 g2 => ?_, h2⟩
        by_cases hj : j = i
        · rw [hj]; exact hc
        · exact h1 j (by omega) g2
    have hv := reg_val mu p h (j := i / 3) (q := i % 3) (by omega) (by omega)
    rw [show i / 3 * 3 + i % 3 = i by omega] at hv
    rcases hv with g | ⟨-, sp, a, n, v1, v2, v3, v4, v5, v6, v7⟩
    · refine nxt (.inl (-5)) (fun ⟨a, n, _, _, _, q, _⟩ => by rw [q, nI_ne5 (by omega)] at g; exact g) ?_
      rw [h111_2]
      simp (disch := first | omega | assumption) only [h111_0, h111_1, h111_3, h111_5, h111_8, h111_9, h111_12, h111_13, h111_14, h111_16, h111_18, h111_20, h111_23, h111_24, h111_27, h111_28, h111_29, h111_30, h111_33, h111_35, h111_36, h111_39, h111_40, h111_42, h111_43, h111_46, h111_47, h111_48, h111_49, h111_52, h111_53, h111_54, h111_57, h111_60, h111_62, Option.bind_some, Option.toList_some, Option.toList_none, List.cons_append, List.nil_append, nI_ltc, nI_lec, nI_eqc, nI_ne5, n5_ne, n5_lt, bI_0, bI_1, nI_add, pk_mul, if_pos, if_neg, ite_not, if_true, if_false, not_true_eq_false, not_false_eq_true, true_and, false_and, and_true, and_false, Nat.reduceAdd, Nat.reduceMul, g]
    · by_cases hsp : sp = s
      · subst hsp
        by_cases h1 : a ≤ x
        · by_cases h2 : x < a + n
          · refine Or.inl ⟨i, Nat.le_refl _, by omega, ⟨a, n, v2, v3, v5, v6, v7, h1, h2⟩, ?_⟩
            rw [h111_2]
            simp (disch := first | omega | assumption) only [h111_0, h111_1, h111_3, h111_5, h111_8, h111_9, h111_12, h111_13, h111_14, h111_16, h111_18, h111_20, h111_23, h111_24, h111_27, h111_28, h111_29, h111_30, h111_33, h111_35, h111_36, h111_39, h111_40, h111_42, h111_43, h111_46, h111_47, h111_48, h111_49, h111_52, h111_53, h111_54, h111_57, h111_60, h111_62, Option.bind_some, Option.toList_some, Option.toList_none, List.cons_append, List.nil_append, nI_ltc, nI_lec, nI_eqc, nI_ne5, n5_ne, n5_lt, bI_0, bI_1, nI_add, pk_mul, if_pos, if_neg, ite_not, if_true, if_false, not_true_eq_false, not_false_eq_true, true_and, false_and, and_true, and_false, Nat.reduceAdd, Nat.reduceMul, v5, v6, v7]
          · refine nxt (.inl (nI a)) (fun ⟨a', n', _, _, _, q, q2, q3, q4⟩ => ?_) ?_
            · rw [v6, nI_eqc (by omega) (by omega)] at q
              rw [v7, nI_eqc (by omega) (by omega)] at q2
              omega
            · rw [h111_2]
              simp (disch := first | omega | assumption) only [h111_0, h111_1, h111_3, h111_5, h111_8, h111_9, h111_12, h111_13, h111_14, h111_16, h111_18, h111_20, h111_23, h111_24, h111_27, h111_28, h111_29, h111_30, h111_33, h111_35, h111_36, h111_39, h111_40, h111_42, h111_43, h111_46, h111_47, h111_48, h111_49, h111_52, h111_53, h111_54, h111_57, h111_60, h111_62, Option.bind_some, Option.toList_some, Option.toList_none, List.cons_append, List.nil_append, nI_ltc, nI_lec, nI_eqc, nI_ne5, n5_ne, n5_lt, bI_0, bI_1, nI_add, pk_mul, if_pos, if_neg, ite_not, if_true, if_false, not_true_eq_false, not_false_eq_true, true_and, false_and, and_true, and_false, Nat.reduceAdd, Nat.reduceMul, v5, v6, v7]
        · refine nxt (.inl (nI a)) (fun ⟨a', n', _, _, _, q, q2, q3, q4⟩ => ?_) ?_
          · rw [v6, nI_eqc (by omega) (by omega)] at q
            omega
          · rw [h111_2]
            simp (disch := first | omega | assumption) only [h111_0, h111_1, h111_3, h111_5, h111_8, h111_9, h111_12, h111_13, h111_14, h111_16, h111_18, h111_20, h111_23, h111_24, h111_27, h111_28, h111_29, h111_30, h111_33, h111_35, h111_36, h111_39, h111_40, h111_42, h111_43, h111_46, h111_47, h111_48, h111_49, h111_52, h111_53, h111_54, h111_57, h111_60, h111_62, Option.bind_some, Option.toList_some, Option.toList_none, List.cons_append, List.nil_append, nI_ltc, nI_lec, nI_eqc, nI_ne5, n5_ne, n5_lt, bI_0, bI_1, nI_add, pk_mul, if_pos, if_neg, ite_not, if_true, if_false, not_true_eq_false, not_false_eq_true, true_and, false_and, and_true, and_false, Nat.reduceAdd, Nat.reduceMul, v5, v6]
      · refine nxt (.inl (nI a)) (fun ⟨a', n', _, _, q, _⟩ => ?_) ?_
        · rw [v5, nI_eqc (by omega) (by omega)] at q
          exact hsp q
        · rw [h111_2]
          simp (disch := first | omega | assumption) only [h111_0, h111_1, h111_3, h111_5, h111_8, h111_9, h111_12, h111_13, h111_14, h111_16, h111_18, h111_20, h111_23, h111_24, h111_27, h111_28, h111_29, h111_30, h111_33, h111_35, h111_36, h111_39, h111_40, h111_42, h111_43, h111_46, h111_47, h111_48, h111_49, h111_52, h111_53, h111_54, h111_57, h111_60, h111_62, Option.bind_some, Option.toList_some, Option.toList_none, List.cons_append, List.nil_append, nI_ltc, nI_lec, nI_eqc, nI_ne5, n5_ne, n5_lt, bI_0, bI_1, nI_add, pk_mul, if_pos, if_neg, ite_not, if_true, if_false, not_true_eq_false, not_false_eq_true, true_and, false_and, and_true, and_false, Nat.reduceAdd, Nat.reduceMul, v5, v6]
def FI (mu : RV) (s x : Nat) (i : Nat) (f : Int32) : Prop := (∀ t, t < i → HC mu s x t → f = nI t) ∧ ((∀ t, t < i → ¬HC mu s x t) → f = -5)
theorem FI_n {mu : RV} {s x i : Nat} {f : Int32} (h : FI mu s x i f) (hc : ¬HC mu s x i) : FI mu s x (i + 1) f := by
  refine ⟨fun t ht hq => ?_, fun q => h.2 (fun t ht => q t (by omega))⟩
  by_cases e : t = i
  · subst e; exact absurd hq hc
  · exact h.1 t (by omega) hq
theorem FI_s {mu : RV} {p : Nat → Nat} (hR : Rel mu p) {s x i : Nat} (hs : s < 2) (hi : i < 36) (hc : HC mu s x i) : FI mu s x (i + 1) (nI i) := by
  refine ⟨fun t ht hq => ?_, fun q => absurd hc (q i (by omega))⟩
  rw [HC_one mu p hR hs (by omega) hi hq hc]
theorem m_findI (h : Rel mu p) (s x : Nat) (hs : s < 2) (hx : x < 4096) (j : Nat) (hj : j < 12) (hk : mu 2 j = nI 1) : ∀ k q f (w6 w7 : AV), q + k = 3 → FI mu s x (j * 3 + q) f → ∃ f' w6' w7', zsem (d + 3) 189 40 [.inr (some 105), .inl (nI s), .inl (nI x), .inl f, .inl (nI j), .inl (nI q), w6, w7] [] (HH L mu p) = zsem (d + 3) 189 30 [.inr (some 105), .inl (nI s), .inl (nI x), .inl f', .inl (nI (j + 1)), .inl (nI 3), w6', w7'] [] (HH L mu p) ∧ FI mu s x (j * 3 + 3) f' := by
  have hk2 := h.kind hj
  intro k
  induction k with
  | zero =>
    intro q f w6 w7 hq hf
    have : q = 3 := by omega
    subst this
    refine ⟨f, w6, w7, ?_, hf⟩
    rw [h189_40]
    simp (disch := first | omega | assumption) only [h189_0, h189_1, h189_4, h189_7, h189_8, h189_9, h189_10, h189_13, h189_14, h189_15, h189_18, h189_21, h189_23, h189_24, h189_26, h189_27, h189_28, h189_32, h189_34, h189_37, h189_38, h189_42, h189_43, h189_46, h189_47, h189_49, h189_52, h189_55, h189_57, h189_59, h189_62, h189_64, h189_65, h189_68, h189_70, h189_71, h189_72, h189_75, h189_76, h189_79, h189_81, h189_82, h189_83, h189_84, h189_86, h189_89, h189_90, h189_91, h189_94, h189_96, h189_97, h189_98, h189_99, h189_100, h189_103, h189_105, h189_106, h189_107, h189_108, h189_109, h189_112, h189_114, h189_115, h189_116, h189_117, h189_118, h189_119, h189_120, h189_123, h189_126, h189_127, h189_130, h189_131, h189_133, h189_135, h189_138, h189_139, h189_141, h189_142, h189_144, h189_145, h189_148, h189_149, h189_150, h189_153, h189_156, h189_159, h189_162, h189_163, Option.bind_some, Option.toList_some, Option.toList_none, List.cons_append, List.nil_append, nI_ltc, nI_lec, nI_eqc, nI_ne5, n5_ne, n5_lt, bI_0, bI_1, nI_add, pk_mul, if_pos, if_neg, ite_not, if_true, if_false, not_true_eq_false, not_false_eq_true, true_and, false_and, and_true, and_false, Nat.reduceAdd, Nat.reduceMul]
  | succ k ih =>
    intro q f w6 w7 hq hf
    have hq3 : q < 3 := by omega
    obtain ⟨r1, r2, r3⟩ := h.reg hj (k1_ne0 hk) hq3
    rcases reg_val mu p h hj hq3 with g | ⟨-, sp, a, n, v1, v2, v3, v4, v5, v6, v7⟩
    · rw [g] at r2
      have hc : ¬HC mu s x (j * 3 + q) := fun ⟨a, n, _, _, _, z, _⟩ => by rw [z, nI_ne5 (by omega)] at g; exact g
      obtain ⟨f', a6, a7, e1, e2⟩ := ih (q + 1) f (.inl (nI (20 * j + 3 + 3 * q))) (.inl (nI 0)) (by omega) (FI_n hf hc)
      refine ⟨f', a6, a7, ?_, e2⟩
      rw [← e1, h189_40]
      by_cases hsp : mu 106 (20 * j + 3 + 3 * q) = nI s
      · simp (disch := first | omega | assumption) only [h189_0, h189_1, h189_4, h189_7, h189_8, h189_9, h189_10, h189_13, h189_14, h189_15, h189_18, h189_21, h189_23, h189_24, h189_26, h189_27, h189_28, h189_32, h189_34, h189_37, h189_38, h189_42, h189_43, h189_46, h189_47, h189_49, h189_52, h189_55, h189_57, h189_59, h189_62, h189_64, h189_65, h189_68, h189_70, h189_71, h189_72, h189_75, h189_76, h189_79, h189_81, h189_82, h189_83, h189_84, h189_86, h189_89, h189_90, h189_91, h189_94, h189_96, h189_97, h189_98, h189_99, h189_100, h189_103, h189_105, h189_106, h189_107, h189_108, h189_109, h189_112, h189_114, h189_115, h189_116, h189_117, h189_118, h189_119, h189_120, h189_123, h189_126, h189_127, h189_130, h189_131, h189_133, h189_135, h189_138, h189_139, h189_141, h189_142, h189_144, h189_145, h189_148, h189_149, h189_150, h189_153, h189_156, h189_159, h189_162, h189_163, Option.bind_some, Option.toList_some, Option.toList_none, List.cons_append, List.nil_append, nI_ltc, nI_lec, nI_eqc, nI_ne5, n5_ne, n5_lt, bI_0, bI_1, nI_add, pk_mul, if_pos, if_neg, ite_not, if_true, if_false, not_true_eq_false, not_false_eq_true, true_and, false_and, and_true, and_false, Nat.reduceAdd, Nat.reduceMul, m_isCard_n, hk2, hk, m_regionAt, hsp, r2]
      · simp (disch := first | omega | assumption) only [h189_0, h189_1, h189_4, h189_7, h189_8, h189_9, h189_10, h189_13, h189_14, h189_15, h189_18, h189_21, h189_23, h189_24, h189_26, h189_27, h189_28, h189_32, h189_34, h189_37, h189_38, h189_42, h189_43, h189_46, h189_47, h189_49, h189_52, h189_55, h189_57, h189_59, h189_62, h189_64, h189_65, h189_68, h189_70, h189_71, h189_72, h189_75, h189_76, h189_79, h189_81, h189_82, h189_83, h189_84, h189_86, h189_89, h189_90, h189_91, h189_94, h189_96, h189_97, h189_98, h189_99, h189_100, h189_103, h189_105, h189_106, h189_107, h189_108, h189_109, h189_112, h189_114, h189_115, h189_116, h189_117, h189_118, h189_119, h189_120, h189_123, h189_126, h189_127, h189_130, h189_131, h189_133, h189_135, h189_138, h189_139, h189_141, h189_142, h189_144, h189_145, h189_148, h189_149, h189_150, h189_153, h189_156, h189_159, h189_162, h189_163, Option.bind_some, Option.toList_some, Option.toList_none, List.cons_append, List.nil_append, nI_ltc, nI_lec, nI_eqc, nI_ne5, n5_ne, n5_lt, bI_0, bI_1, nI_add, pk_mul, if_pos, if_neg, ite_not, if_true, if_false, not_true_eq_false, not_false_eq_true, true_and, false_and, and_true, and_false, Nat.reduceAdd, Nat.reduceMul, m_isCard_n, hk2, hk, m_regionAt, hsp]
    · rw [v7] at r1
      rw [v6] at r2
      have r3 := r3 (by rw [v7, nI_eqc (by omega) (by omega)]; omega)
      rw [v5] at r3
      have hsub : nI (a + n) - nI 1 = nI (a + n - 1) := nI_sub (by omega)
      by_cases hsp : sp = s
      · subst hsp
        have hin : zsem (d + 2) 121 0 [.inl (nI x), .inl (nI a), .inl (nI (a + n - 1))] [] (HH L mu p) = some (some (.inl (bI (a ≤ x ∧ x < a + n))), HH L mu p) := by
          rw [m_in]
          by_cases hh : a ≤ x ∧ x < a + n
          · rw [bI_t hh, bI_t]
            rw [nI_ltc (by omega) (by omega), nI_ltc (by omega) (by omega)]
            omega
          · rw [bI_f hh, bI_f]
            rw [nI_ltc (by omega) (by omega), nI_ltc (by omega) (by omega)]
            omega
        by_cases hh : a ≤ x ∧ x < a + n
        · rw [bI_t hh] at hin
          have hc : HC mu sp x (j * 3 + q) := ⟨a, n, v2, v3, v5, v6, v7, hh.1, hh.2⟩
          have hF := FI_s h hs (by omega) hc
          rw [show j * 3 + q = 3 * j + q by omega] at hF
          obtain ⟨f', a6, a7, e1, e2⟩ := ih (q + 1) (nI (3 * j + q)) (.inl (nI (20 * j + 3 + 3 * q))) (.inl (nI 1)) (by omega) (by rw [show j * 3 + (q + 1) = 3 * j + q + 1 by omega]; exact hF)
          refine ⟨f', a6, a7, ?_, e2⟩
          rw [← e1, h189_40]
          simp (disch := first | omega | assumption) only [h189_0, h189_1, h189_4, h189_7, h189_8, h189_9, h189_10, h189_13, h189_14, h189_15, h189_18, h189_21, h189_23, h189_24, h189_26, h189_27, h189_28, h189_32, h189_34, h189_37, h189_38, h189_42, h189_43, h189_46, h189_47, h189_49, h189_52, h189_55, h189_57, h189_59, h189_62, h189_64, h189_65, h189_68, h189_70, h189_71, h189_72, h189_75, h189_76, h189_79, h189_81, h189_82, h189_83, h189_84, h189_86, h189_89, h189_90, h189_91, h189_94, h189_96, h189_97, h189_98, h189_99, h189_100, h189_103, h189_105, h189_106, h189_107, h189_108, h189_109, h189_112, h189_114, h189_115, h189_116, h189_117, h189_118, h189_119, h189_120, h189_123, h189_126, h189_127, h189_130, h189_131, h189_133, h189_135, h189_138, h189_139, h189_141, h189_142, h189_144, h189_145, h189_148, h189_149, h189_150, h189_153, h189_156, h189_159, h189_162, h189_163, Option.bind_some, Option.toList_some, Option.toList_none, List.cons_append, List.nil_append, nI_ltc, nI_lec, nI_eqc, nI_ne5, n5_ne, n5_lt, bI_0, bI_1, nI_add, pk_mul, if_pos, if_neg, ite_not, if_true, if_false, not_true_eq_false, not_false_eq_true, true_and, false_and, and_true, and_false, Nat.reduceAdd, Nat.reduceMul, m_isCard_n, hk2, hk, m_regionAt, r1, r2, r3, hsub, hin]
        · rw [bI_f hh] at hin
          have hc : ¬HC mu sp x (j * 3 + q) := fun ⟨a', n', _, _, _, z, z2, z3, z4⟩ => by
            rw [v6, nI_eqc (by omega) (by omega)] at z
            rw [v7, nI_eqc (by omega) (by omega)] at z2
            omega
          obtain ⟨f', a6, a7, e1, e2⟩ := ih (q + 1) f (.inl (nI (20 * j + 3 + 3 * q))) (.inl (nI 0)) (by omega) (FI_n hf hc)
          refine ⟨f', a6, a7, ?_, e2⟩
          rw [← e1, h189_40]
          simp (disch := first | omega | assumption) only [h189_0, h189_1, h189_4, h189_7, h189_8, h189_9, h189_10, h189_13, h189_14, h189_15, h189_18, h189_21, h189_23, h189_24, h189_26, h189_27, h189_28, h189_32, h189_34, h189_37, h189_38, h189_42, h189_43, h189_46, h189_47, h189_49, h189_52, h189_55, h189_57, h189_59, h189_62, h189_64, h189_65, h189_68, h189_70, h189_71, h189_72, h189_75, h189_76, h189_79, h189_81, h189_82, h189_83, h189_84, h189_86, h189_89, h189_90, h189_91, h189_94, h189_96, h189_97, h189_98, h189_99, h189_100, h189_103, h189_105, h189_106, h189_107, h189_108, h189_109, h189_112, h189_114, h189_115, h189_116, h189_117, h189_118, h189_119, h189_120, h189_123, h189_126, h189_127, h189_130, h189_131, h189_133, h189_135, h189_138, h189_139, h189_141, h189_142, h189_144, h189_145, h189_148, h189_149, h189_150, h189_153, h189_156, h189_159, h189_162, h189_163, Option.bind_some, Option.toList_some, Option.toList_none, List.cons_append, List.nil_append, nI_ltc, nI_lec, nI_eqc, nI_ne5, n5_ne, n5_lt, bI_0, bI_1, nI_add, pk_mul, if_pos, if_neg, ite_not, if_true, if_false, not_true_eq_false, not_false_eq_true, true_and, false_and, and_true, and_false, Nat.reduceAdd, Nat.reduceMul, m_isCard_n, hk2, hk, m_regionAt, r1, r2, r3, hsub, hin]
      · have hc : ¬HC mu s x (j * 3 + q) := fun ⟨a', n', _, _, z, _⟩ => by
          rw [v5, nI_eqc (by omega) (by omega)] at z
          exact hsp z
        obtain ⟨f', a6, a7, e1, e2⟩ := ih (q + 1) f (.inl (nI (20 * j + 3 + 3 * q))) (.inl (nI 0)) (by omega) (FI_n hf hc)
        refine ⟨f', a6, a7, ?_, e2⟩
        rw [← e1, h189_40]
        simp (disch := first | omega | assumption) only [h189_0, h189_1, h189_4, h189_7, h189_8, h189_9, h189_10, h189_13, h189_14, h189_15, h189_18, h189_21, h189_23, h189_24, h189_26, h189_27, h189_28, h189_32, h189_34, h189_37, h189_38, h189_42, h189_43, h189_46, h189_47, h189_49, h189_52, h189_55, h189_57, h189_59, h189_62, h189_64, h189_65, h189_68, h189_70, h189_71, h189_72, h189_75, h189_76, h189_79, h189_81, h189_82, h189_83, h189_84, h189_86, h189_89, h189_90, h189_91, h189_94, h189_96, h189_97, h189_98, h189_99, h189_100, h189_103, h189_105, h189_106, h189_107, h189_108, h189_109, h189_112, h189_114, h189_115, h189_116, h189_117, h189_118, h189_119, h189_120, h189_123, h189_126, h189_127, h189_130, h189_131, h189_133, h189_135, h189_138, h189_139, h189_141, h189_142, h189_144, h189_145, h189_148, h189_149, h189_150, h189_153, h189_156, h189_159, h189_162, h189_163, Option.bind_some, Option.toList_some, Option.toList_none, List.cons_append, List.nil_append, nI_ltc, nI_lec, nI_eqc, nI_ne5, n5_ne, n5_lt, bI_0, bI_1, nI_add, pk_mul, if_pos, if_neg, ite_not, if_true, if_false, not_true_eq_false, not_false_eq_true, true_and, false_and, and_true, and_false, Nat.reduceAdd, Nat.reduceMul, m_isCard_n, hk2, hk, m_regionAt, r3]
theorem m_findL (h : Rel mu p) (s x : Nat) (hs : s < 2) (hx : x < 4096) : ∀ k j f (w5 w6 w7 : AV), j + k = 12 → FI mu s x (j * 3) f → ∃ f', zsem (d + 3) 189 30 [.inr (some 105), .inl (nI s), .inl (nI x), .inl f, .inl (nI j), w5, w6, w7] [] (HH L mu p) = some (some (.inl f'), HH L mu p) ∧ FI mu s x 36 f' := by
  intro k
  induction k with
  | zero =>
    intro j f w5 w6 w7 hj hf
    have : j = 12 := by omega
    subst this
    refine ⟨f, ?_, hf⟩
    rw [h189_30]
    simp (disch := first | omega | assumption) only [h189_0, h189_1, h189_4, h189_7, h189_8, h189_9, h189_10, h189_13, h189_14, h189_15, h189_18, h189_21, h189_23, h189_24, h189_26, h189_27, h189_28, h189_32, h189_34, h189_37, h189_38, h189_42, h189_43, h189_46, h189_47, h189_49, h189_52, h189_55, h189_57, h189_59, h189_62, h189_64, h189_65, h189_68, h189_70, h189_71, h189_72, h189_75, h189_76, h189_79, h189_81, h189_82, h189_83, h189_84, h189_86, h189_89, h189_90, h189_91, h189_94, h189_96, h189_97, h189_98, h189_99, h189_100, h189_103, h189_105, h189_106, h189_107, h189_108, h189_109, h189_112, h189_114, h189_115, h189_116, h189_117, h189_118, h189_119, h189_120, h189_123, h189_126, h189_127, h189_130, h189_131, h189_133, h189_135, h189_138, h189_139, h189_141, h189_142, h189_144, h189_145, h189_148, h189_149, h189_150, h189_153, h189_156, h189_159, h189_162, h189_163, Option.bind_some, Option.toList_some, Option.toList_none, List.cons_append, List.nil_append, nI_ltc, nI_lec, nI_eqc, nI_ne5, n5_ne, n5_lt, bI_0, bI_1, nI_add, pk_mul, if_pos, if_neg, ite_not, if_true, if_false, not_true_eq_false, not_false_eq_true, true_and, false_and, and_true, and_false, Nat.reduceAdd, Nat.reduceMul]
  | succ k ih =>
    intro j f w5 w6 w7 hj hf
    have hj12 : j < 12 := by omega
    have hk2 := h.kind hj12
    by_cases hk : mu 2 j = nI 1
    · obtain ⟨f1, a6, a7, e1, e2⟩ := m_findI d L mu p h s x hs hx j hj12 hk 3 0 f w6 w7 rfl hf
      obtain ⟨f', e3, e4⟩ := ih (j + 1) f1 (.inl (nI 3)) a6 a7 (by omega) (by rw [show (j + 1) * 3 = j * 3 + 3 by omega]; exact e2)
      refine ⟨f', ?_, e4⟩
      rw [← e3, ← e1, h189_30]
      simp (disch := first | omega | assumption) only [h189_0, h189_1, h189_4, h189_7, h189_8, h189_9, h189_10, h189_13, h189_14, h189_15, h189_18, h189_21, h189_23, h189_24, h189_26, h189_27, h189_28, h189_32, h189_34, h189_37, h189_38, h189_42, h189_43, h189_46, h189_47, h189_49, h189_52, h189_55, h189_57, h189_59, h189_62, h189_64, h189_65, h189_68, h189_70, h189_71, h189_72, h189_75, h189_76, h189_79, h189_81, h189_82, h189_83, h189_84, h189_86, h189_89, h189_90, h189_91, h189_94, h189_96, h189_97, h189_98, h189_99, h189_100, h189_103, h189_105, h189_106, h189_107, h189_108, h189_109, h189_112, h189_114, h189_115, h189_116, h189_117, h189_118, h189_119, h189_120, h189_123, h189_126, h189_127, h189_130, h189_131, h189_133, h189_135, h189_138, h189_139, h189_141, h189_142, h189_144, h189_145, h189_148, h189_149, h189_150, h189_153, h189_156, h189_159, h189_162, h189_163, Option.bind_some, Option.toList_some, Option.toList_none, List.cons_append, List.nil_append, nI_ltc, nI_lec, nI_eqc, nI_ne5, n5_ne, n5_lt, bI_0, bI_1, nI_add, pk_mul, if_pos, if_neg, ite_not, if_true, if_false, not_true_eq_false, not_false_eq_true, true_and, false_and, and_true, and_false, Nat.reduceAdd, Nat.reduceMul]
    · have nc : ∀ q, q < 3 → ¬HC mu s x (j * 3 + q) := fun q hq hc => hk (HC_card mu p h hs hj12 hq hc)
      obtain ⟨f', e3, e4⟩ := ih (j + 1) f (.inl (nI 0)) w6 w7 (by omega) (by
        rw [show (j + 1) * 3 = j * 3 + 0 + 1 + 1 + 1 by omega]
        exact FI_n (FI_n (FI_n hf (nc 0 (by omega))) (nc 1 (by omega))) (nc 2 (by omega)))
      refine ⟨f', ?_, e4⟩
      rw [← e3, h189_30]
      simp (disch := first | omega | assumption) only [h189_0, h189_1, h189_4, h189_7, h189_8, h189_9, h189_10, h189_13, h189_14, h189_15, h189_18, h189_21, h189_23, h189_24, h189_26, h189_27, h189_28, h189_32, h189_34, h189_37, h189_38, h189_42, h189_43, h189_46, h189_47, h189_49, h189_52, h189_55, h189_57, h189_59, h189_62, h189_64, h189_65, h189_68, h189_70, h189_71, h189_72, h189_75, h189_76, h189_79, h189_81, h189_82, h189_83, h189_84, h189_86, h189_89, h189_90, h189_91, h189_94, h189_96, h189_97, h189_98, h189_99, h189_100, h189_103, h189_105, h189_106, h189_107, h189_108, h189_109, h189_112, h189_114, h189_115, h189_116, h189_117, h189_118, h189_119, h189_120, h189_123, h189_126, h189_127, h189_130, h189_131, h189_133, h189_135, h189_138, h189_139, h189_141, h189_142, h189_144, h189_145, h189_148, h189_149, h189_150, h189_153, h189_156, h189_159, h189_162, h189_163, h189_40, Option.bind_some, Option.toList_some, Option.toList_none, List.cons_append, List.nil_append, nI_ltc, nI_lec, nI_eqc, nI_ne5, n5_ne, n5_lt, bI_0, bI_1, nI_add, pk_mul, if_pos, if_neg, ite_not, if_true, if_false, not_true_eq_false, not_false_eq_true, true_and, false_and, and_true, and_false, Nat.reduceAdd, Nat.reduceMul, ↓reduceIte, m_isCard_n, hk2, hk]
theorem adr_le {s : Nat} : 256 ≤ adr s ∧ adr s ≤ 4096 := by unfold adr; split <;> omega
theorem op_find (h : Rel mu p) (y z : Int32) : Pair (d + 3) L 110 [.inl y, .inl z] 189 [.inl y, .inl z, .inr none, .inr none, .inr none, .inr none, .inr none] mu p := by
  rcases spx y with ⟨s, hs, rfl⟩ | ⟨hy, hy2⟩
  · have ha := @adr_le s
    have hsub : nI (adr s) - nI 1 = nI (adr s - 1) := nI_sub (by omega)
    rcases ixo z (adr s) (by omega) with ⟨x, hx, rfl⟩ | hz
    · have hin := m_in_n (d + 2) L mu p x (adr s - 1) (by omega) (by omega)
      have hb0 : ∀ w, zsem (d + 2) 111 0 [.inr (some 1), .inl (nI s), .inl (nI x), w, .inr none] [] (HH L mu p) = zsem (d + 2) 111 2 [.inr (some 1), .inl (nI s), .inl (nI x), .inl (nI 0), .inr none] [] (HH L mu p) := fun w => by
        simp (disch := first | omega | assumption) only [h111_0, h111_1, h111_3, h111_5, h111_8, h111_9, h111_12, h111_13, h111_14, h111_16, h111_18, h111_20, h111_23, h111_24, h111_27, h111_28, h111_29, h111_30, h111_33, h111_35, h111_36, h111_39, h111_40, h111_42, h111_43, h111_46, h111_47, h111_48, h111_49, h111_52, h111_53, h111_54, h111_57, h111_60, h111_62, Option.bind_some, Option.toList_some, Option.toList_none, List.cons_append, List.nil_append, nI_ltc, nI_lec, nI_eqc, nI_ne5, n5_ne, n5_lt, bI_0, bI_1, nI_add, pk_mul, if_pos, if_neg, ite_not, if_true, if_false, not_true_eq_false, not_false_eq_true, true_and, false_and, and_true, and_false, Nat.reduceAdd, Nat.reduceMul]
      have hb0 := hb0 (.inr none)
      obtain ⟨v, e1, e2⟩ := m_findL d L mu p h s x hs (by omega) 12 0 (-5) (.inr none) (.inr none) (.inr none) rfl ⟨fun t ht => by omega, fun _ => rfl⟩
      rcases z_regL (d + 2) L mu p h s x hs (by omega) 36 0 (.inr none) rfl with ⟨j, h1, h2, h3, h4⟩ | ⟨h1, h4⟩
      · have hv := e2.1 j h2 h3
        subst hv
        rw [h4] at hb0
        refine ⟨nI j, mu, p, mu, ?_, ?_, h⟩
        · simp (disch := first | omega | assumption) only [h110_0, h110_1, h110_4, h110_7, h110_8, h110_11, h110_12, h110_13, h110_16, h110_19, h110_21, h110_22, h110_23, h110_26, h110_27, h110_28, h110_31, Option.bind_some, Option.toList_some, Option.toList_none, List.cons_append, List.nil_append, nI_ltc, nI_lec, nI_eqc, nI_ne5, n5_ne, n5_lt, bI_0, bI_1, nI_add, pk_mul, if_pos, if_neg, ite_not, if_true, if_false, not_true_eq_false, not_false_eq_true, true_and, false_and, and_true, and_false, Nat.reduceAdd, Nat.reduceMul, z_isSpace_n, z_addressesOf, hb0]
        · rw [← e1]
          simp (disch := first | omega | assumption) only [h189_0, h189_1, h189_4, h189_7, h189_8, h189_9, h189_10, h189_13, h189_14, h189_15, h189_18, h189_21, h189_23, h189_24, h189_26, h189_27, h189_28, h189_32, h189_34, h189_37, h189_38, h189_42, h189_43, h189_46, h189_47, h189_49, h189_52, h189_55, h189_57, h189_59, h189_62, h189_64, h189_65, h189_68, h189_70, h189_71, h189_72, h189_75, h189_76, h189_79, h189_81, h189_82, h189_83, h189_84, h189_86, h189_89, h189_90, h189_91, h189_94, h189_96, h189_97, h189_98, h189_99, h189_100, h189_103, h189_105, h189_106, h189_107, h189_108, h189_109, h189_112, h189_114, h189_115, h189_116, h189_117, h189_118, h189_119, h189_120, h189_123, h189_126, h189_127, h189_130, h189_131, h189_133, h189_135, h189_138, h189_139, h189_141, h189_142, h189_144, h189_145, h189_148, h189_149, h189_150, h189_153, h189_156, h189_159, h189_162, h189_163, Option.bind_some, Option.toList_some, Option.toList_none, List.cons_append, List.nil_append, nI_ltc, nI_lec, nI_eqc, nI_ne5, n5_ne, n5_lt, bI_0, bI_1, nI_add, pk_mul, if_pos, if_neg, ite_not, if_true, if_false, not_true_eq_false, not_false_eq_true, true_and, false_and, and_true, and_false, Nat.reduceAdd, Nat.reduceMul, m_isSpace_n, m_addresses, hsub, hin]
      · have hv := e2.2 (fun t ht => h1 t (by omega) ht)
        subst hv
        rw [h4] at hb0
        refine ⟨-5, mu, p, mu, ?_, ?_, h⟩
        · simp (disch := first | omega | assumption) only [h110_0, h110_1, h110_4, h110_7, h110_8, h110_11, h110_12, h110_13, h110_16, h110_19, h110_21, h110_22, h110_23, h110_26, h110_27, h110_28, h110_31, Option.bind_some, Option.toList_some, Option.toList_none, List.cons_append, List.nil_append, nI_ltc, nI_lec, nI_eqc, nI_ne5, n5_ne, n5_lt, bI_0, bI_1, nI_add, pk_mul, if_pos, if_neg, ite_not, if_true, if_false, not_true_eq_false, not_false_eq_true, true_and, false_and, and_true, and_false, Nat.reduceAdd, Nat.reduceMul, z_isSpace_n, z_addressesOf, hb0]
        · rw [← e1]
          simp (disch := first | omega | assumption) only [h189_0, h189_1, h189_4, h189_7, h189_8, h189_9, h189_10, h189_13, h189_14, h189_15, h189_18, h189_21, h189_23, h189_24, h189_26, h189_27, h189_28, h189_32, h189_34, h189_37, h189_38, h189_42, h189_43, h189_46, h189_47, h189_49, h189_52, h189_55, h189_57, h189_59, h189_62, h189_64, h189_65, h189_68, h189_70, h189_71, h189_72, h189_75, h189_76, h189_79, h189_81, h189_82, h189_83, h189_84, h189_86, h189_89, h189_90, h189_91, h189_94, h189_96, h189_97, h189_98, h189_99, h189_100, h189_103, h189_105, h189_106, h189_107, h189_108, h189_109, h189_112, h189_114, h189_115, h189_116, h189_117, h189_118, h189_119, h189_120, h189_123, h189_126, h189_127, h189_130, h189_131, h189_133, h189_135, h189_138, h189_139, h189_141, h189_142, h189_144, h189_145, h189_148, h189_149, h189_150, h189_153, h189_156, h189_159, h189_162, h189_163, Option.bind_some, Option.toList_some, Option.toList_none, List.cons_append, List.nil_append, nI_ltc, nI_lec, nI_eqc, nI_ne5, n5_ne, n5_lt, bI_0, bI_1, nI_add, pk_mul, if_pos, if_neg, ite_not, if_true, if_false, not_true_eq_false, not_false_eq_true, true_and, false_and, and_true, and_false, Nat.reduceAdd, Nat.reduceMul, m_isSpace_n, m_addresses, hsub, hin]
    · have hin := m_in_o (d + 2) L mu p z (adr s - 1) (by omega) (by rw [show adr s - 1 + 1 = adr s by omega]; exact hz)
      refine ⟨-2, mu, p, mu, ?_, ?_, h⟩
      · by_cases h1 : z < nI 0
        · simp (disch := first | omega | assumption) only [h110_0, h110_1, h110_4, h110_7, h110_8, h110_11, h110_12, h110_13, h110_16, h110_19, h110_21, h110_22, h110_23, h110_26, h110_27, h110_28, h110_31, Option.bind_some, Option.toList_some, Option.toList_none, List.cons_append, List.nil_append, nI_ltc, nI_lec, nI_eqc, nI_ne5, n5_ne, n5_lt, bI_0, bI_1, nI_add, pk_mul, if_pos, if_neg, ite_not, if_true, if_false, not_true_eq_false, not_false_eq_true, true_and, false_and, and_true, and_false, Nat.reduceAdd, Nat.reduceMul, z_isSpace_n, h1]
        · have h2 : ¬z < nI (adr s) := by rw [Int32.not_lt]; exact hz.resolve_left h1
          simp (disch := first | omega | assumption) only [h110_0, h110_1, h110_4, h110_7, h110_8, h110_11, h110_12, h110_13, h110_16, h110_19, h110_21, h110_22, h110_23, h110_26, h110_27, h110_28, h110_31, Option.bind_some, Option.toList_some, Option.toList_none, List.cons_append, List.nil_append, nI_ltc, nI_lec, nI_eqc, nI_ne5, n5_ne, n5_lt, bI_0, bI_1, nI_add, pk_mul, if_pos, if_neg, ite_not, if_true, if_false, not_true_eq_false, not_false_eq_true, true_and, false_and, and_true, and_false, Nat.reduceAdd, Nat.reduceMul, z_isSpace_n, z_addressesOf, h1, h2]
      · simp (disch := first | omega | assumption) only [h189_0, h189_1, h189_4, h189_7, h189_8, h189_9, h189_10, h189_13, h189_14, h189_15, h189_18, h189_21, h189_23, h189_24, h189_26, h189_27, h189_28, h189_32, h189_34, h189_37, h189_38, h189_42, h189_43, h189_46, h189_47, h189_49, h189_52, h189_55, h189_57, h189_59, h189_62, h189_64, h189_65, h189_68, h189_70, h189_71, h189_72, h189_75, h189_76, h189_79, h189_81, h189_82, h189_83, h189_84, h189_86, h189_89, h189_90, h189_91, h189_94, h189_96, h189_97, h189_98, h189_99, h189_100, h189_103, h189_105, h189_106, h189_107, h189_108, h189_109, h189_112, h189_114, h189_115, h189_116, h189_117, h189_118, h189_119, h189_120, h189_123, h189_126, h189_127, h189_130, h189_131, h189_133, h189_135, h189_138, h189_139, h189_141, h189_142, h189_144, h189_145, h189_148, h189_149, h189_150, h189_153, h189_156, h189_159, h189_162, h189_163, Option.bind_some, Option.toList_some, Option.toList_none, List.cons_append, List.nil_append, nI_ltc, nI_lec, nI_eqc, nI_ne5, n5_ne, n5_lt, bI_0, bI_1, nI_add, pk_mul, if_pos, if_neg, ite_not, if_true, if_false, not_true_eq_false, not_false_eq_true, true_and, false_and, and_true, and_false, Nat.reduceAdd, Nat.reduceMul, m_isSpace_n, m_addresses, hsub, hin]
  · refine ⟨-2, mu, p, mu, ?_, ?_, h⟩
    · simp (disch := first | omega | assumption) only [h110_0, h110_1, h110_4, h110_7, h110_8, h110_11, h110_12, h110_13, h110_16, h110_19, h110_21, h110_22, h110_23, h110_26, h110_27, h110_28, h110_31, Option.bind_some, Option.toList_some, Option.toList_none, List.cons_append, List.nil_append, nI_ltc, nI_lec, nI_eqc, nI_ne5, n5_ne, n5_lt, bI_0, bI_1, nI_add, pk_mul, if_pos, if_neg, ite_not, if_true, if_false, not_true_eq_false, not_false_eq_true, true_and, false_and, and_true, and_false, Nat.reduceAdd, Nat.reduceMul, z_isSpace_o]
    · simp (disch := first | omega | assumption) only [h189_0, h189_1, h189_4, h189_7, h189_8, h189_9, h189_10, h189_13, h189_14, h189_15, h189_18, h189_21, h189_23, h189_24, h189_26, h189_27, h189_28, h189_32, h189_34, h189_37, h189_38, h189_42, h189_43, h189_46, h189_47, h189_49, h189_52, h189_55, h189_57, h189_59, h189_62, h189_64, h189_65, h189_68, h189_70, h189_71, h189_72, h189_75, h189_76, h189_79, h189_81, h189_82, h189_83, h189_84, h189_86, h189_89, h189_90, h189_91, h189_94, h189_96, h189_97, h189_98, h189_99, h189_100, h189_103, h189_105, h189_106, h189_107, h189_108, h189_109, h189_112, h189_114, h189_115, h189_116, h189_117, h189_118, h189_119, h189_120, h189_123, h189_126, h189_127, h189_130, h189_131, h189_133, h189_135, h189_138, h189_139, h189_141, h189_142, h189_144, h189_145, h189_148, h189_149, h189_150, h189_153, h189_156, h189_159, h189_162, h189_163, Option.bind_some, Option.toList_some, Option.toList_none, List.cons_append, List.nil_append, nI_ltc, nI_lec, nI_eqc, nI_ne5, n5_ne, n5_lt, bI_0, bI_1, nI_add, pk_mul, if_pos, if_neg, ite_not, if_true, if_false, not_true_eq_false, not_false_eq_true, true_and, false_and, and_true, and_false, Nat.reduceAdd, Nat.reduceMul, m_isSpace_o]
end
