/-! one bridge a number -/
def dq (R : RV) (d : Nat) : Nat := dpt R 5 (bn R d)
theorem dq_s {R : RV} (hI : InvT R) {d : Nat} (hd : d < 12) (hk : ¬R 2 d = nI 0) (hb : bn R d < 12) : dq R d = dq R (bn R d) + 1 := by
  have h2 := (hI.bus hd hk).2.2 hb
  have hr := hI.2.2.2 (bn R d) hb (k2_ne0 h2)
  unfold dq
  rw [dpt_s, if_pos ⟨hb, h2⟩, dpt_up hr (m := 5) (by omega)]
theorem dq_0 {R : RV} {d : Nat} (hb : bn R d = 12) : dq R d = 0 := by
  unfold dq
  rw [hb, dpt_12]
theorem numd_k {R : RV} (hA : InvA R) {d a b : Nat} (hd : d < 12) (h : numd R d a b) : R 2 d = nI 2 := by
  by_cases q : R 2 d = nI 2
  · exact q
  · have := (hA.2 d hd q).1
    rw [h.1, nI_ne5 (by have := h.2.2.2; omega)] at this
    exact this.elim
theorem num_lev {R : RV} (hI : InvT R) (hA : InvA R) (hN : InvN R) : ∀ n d d' a b a' b', d < 12 → d' < 12 → ¬d = d' → numd R d a b → numd R d' a' b' → dq R d = n → dq R d' = n → b < a' ∨ b' < a := by
  intro n
  induction n with
  | zero =>
    intro d d' a b a' b' hd hd' hne h1 h2 e1 e2
    have k1 := k2_ne0 (numd_k hA hd h1)
    have k2 := k2_ne0 (numd_k hA hd' h2)
    have z1 : bn R d = 12 := by
      by_cases q : bn R d < 12
      · rw [dq_s hI hd k1 q] at e1; omega
      · have := (hI.bus hd k1).1; omega
    have z2 : bn R d' = 12 := by
      by_cases q : bn R d' < 12
      · rw [dq_s hI hd' k2 q] at e2; omega
      · have := (hI.bus hd' k2).1; omega
    exact hN.2.2 d d' a b a' b' hd hd' hne (by rw [z1, z2]) h1 h2
  | succ n ih =>
    intro d d' a b a' b' hd hd' hne h1 h2 e1 e2
    have k1 := k2_ne0 (numd_k hA hd h1)
    have k2 := k2_ne0 (numd_k hA hd' h2)
    by_cases hb : bn R d = bn R d'
    · exact hN.2.2 d d' a b a' b' hd hd' hne hb h1 h2
    · rcases hN.2.1 d a b hd h1 with q | ⟨x, y, p1, p2, p3⟩
      · rw [dq_0 q] at e1; omega
      · rcases hN.2.1 d' a' b' hd' h2 with q | ⟨x', y', p1', p2', p3'⟩
        · rw [dq_0 q] at e2; omega
        · by_cases q : bn R d < 12
          · by_cases q' : bn R d' < 12
            · rw [dq_s hI hd k1 q] at e1
              rw [dq_s hI hd' k2 q'] at e2
              have := ih (bn R d) (bn R d') x y x' y' q q' hb p1 p1' (by omega) (by omega)
              have := h1.2.2.2.1
              have := h2.2.2.2.1
              omega
            · have h12 : bn R d' = 12 := by have := (hI.bus hd' k2).1; omega
              rw [dq_0 h12] at e2; omega
          · have h12 : bn R d = 12 := by have := (hI.bus hd k1).1; omega
            rw [dq_0 h12] at e1; omega
theorem num_up {R : RV} (hI : InvT R) (hA : InvA R) (hN : InvN R) (m : Nat) : ∀ k d a b, d < 12 → numd R d a b → dq R d = m + (k + 1) → ∃ e x y, e < 12 ∧ dq R e = m ∧ numd R e x y ∧ x < a ∧ b ≤ y := by
  intro k
  induction k with
  | zero =>
    intro d a b hd h e
    have k1 := k2_ne0 (numd_k hA hd h)
    by_cases q : bn R d < 12
    · rw [dq_s hI hd k1 q] at e
      rcases hN.2.1 d a b hd h with q2 | ⟨x, y, p1, p2, p3⟩
      · omega
      · exact ⟨bn R d, x, y, q, by omega, p1, p2, p3⟩
    · have h12 : bn R d = 12 := by have := (hI.bus hd k1).1; omega
      rw [dq_0 h12] at e; omega
  | succ k ih =>
    intro d a b hd h e
    have k1 := k2_ne0 (numd_k hA hd h)
    by_cases q : bn R d < 12
    · rw [dq_s hI hd k1 q] at e
      rcases hN.2.1 d a b hd h with q2 | ⟨x, y, p1, p2, p3⟩
      · omega
      · obtain ⟨f, x', y', g1, g2, g3, g4, g5⟩ := ih (bn R d) x y q p1 (by omega)
        exact ⟨f, x', y', g1, g2, g3, by omega, by omega⟩
    · have h12 : bn R d = 12 := by have := (hI.bus hd k1).1; omega
      rw [dq_0 h12] at e; omega
theorem num_one {R : RV} (h : OK R) {d d' : Nat} {n : Nat} (hd : d < 12) (hd' : d' < 12) (hn : n < 2147483648) (h1 : R 12 d = nI n) (h2 : R 12 d' = nI n) : d = d' := by
  obtain ⟨hI, hA, -, -, -, hN, -, -⟩ := h
  have num : ∀ x, x < 12 → R 12 x = nI n → ∃ b, numd R x n b := fun x hx hxn => by
    rcases hN.1 x hx with ⟨q, -⟩ | ⟨a, b, q⟩
    · rw [hxn, nI_ne5 hn] at q; exact q.elim
    · have := q.1
      rw [hxn, nI_eqc hn (by have := q.2.2.2; omega)] at this
      subst this
      exact ⟨b, q⟩
  obtain ⟨b, n1⟩ := num d hd h1
  obtain ⟨b', n2⟩ := num d' hd' h2
  have l1 := n1.2.2.2.1
  have l2 := n2.2.2.2.1
  by_cases hne : d = d'
  · exact hne
  · exfalso
    by_cases e : dq R d = dq R d'
    · have := num_lev hI hA hN _ d d' n b n b' hd hd' hne n1 n2 rfl e.symm
      omega
    · have aux : ∀ x y bx ney, x < 12 → y < 12 → numd R x n bx → numd R y n ney → dq R y < dq R x → False := by
        intro x y bx ney hx hy n1 n2 hlt
        obtain ⟨f, u, v, g1, g2, g3, g4, g5⟩ := num_up hI hA hN (dq R y) (dq R x - dq R y - 1) x n bx hx n1 (by omega)
        have l1 := n1.2.2.2.1
        have l2 := n2.2.2.2.1
        by_cases q : f = y
        · subst q
          have r1 := g3.1
          rw [n2.1, nI_eqc hn (by have := g3.2.2.2; omega)] at r1
          omega
        · have := num_lev hI hA hN _ f y u v n ney g1 hy q g3 n2 g2 rfl
          omega
      by_cases e2 : dq R d < dq R d'
      · exact aux d' d b' b hd' hd n2 n1 e2
      · exact aux d d' b b' hd hd' n1 n2 (by omega)
section
variable (d L : Nat) (mu : RV) (p : Nat → Nat)
theorem z_bwnL (n : Nat) (hn : n < 2147483648) : ∀ k i, i + k = 12 → (∃ j, i ≤ j ∧ j < 12 ∧ mu 12 j = nI n ∧ zsem d 109 9 [.inr (some 1), .inl (nI n), .inl (nI i)] [] (HH L mu p) = some (some (.inl (nI j)), HH L mu p)) ∨
    ((∀ j, i ≤ j → j < 12 → ¬mu 12 j = nI n) ∧ zsem d 109 9 [.inr (some 1), .inl (nI n), .inl (nI i)] [] (HH L mu p) = some (some (.inl (-5)), HH L mu p)) := by
  intro k
  induction k with
  | zero =>
    intro i hi
    have : i = 12 := by omega
    subst this
    refine Or.inr ⟨fun j h1 h2 => by omega, ?_⟩
    rw [h109_9]
    simp (disch := first | omega | assumption) only [h109_0, h109_1, h109_4, h109_6, h109_7, h109_8, h109_10, h109_12, h109_15, h109_16, h109_19, h109_20, h109_21, h109_22, h109_25, h109_26, h109_27, h109_30, h109_33, h109_35, Option.bind_some, Option.toList_some, Option.toList_none, List.cons_append, List.nil_append, nI_ltc, nI_lec, nI_eqc, nI_ne5, n5_ne, n5_lt, bI_0, bI_1, nI_add, pk_mul, if_pos, if_neg, ite_not, if_true, if_false, not_true_eq_false, not_false_eq_true, true_and, false_and, and_true, and_false, Nat.reduceAdd, Nat.reduceMul]
  | succ k ih =>
    intro i hi
    by_cases h0 : mu 12 i = nI n
    · refine Or.inl ⟨i, Nat.le_refl _, by omega, h0, ?_⟩
      rw [h109_9]
      simp (disch := first | omega | assumption) only [h109_0, h109_1, h109_4, h109_6, h109_7, h109_8, h109_10, h109_12, h109_15, h109_16, h109_19, h109_20, h109_21, h109_22, h109_25, h109_26, h109_27, h109_30, h109_33, h109_35, Option.bind_some, Option.toList_some, Option.toList_none, List.cons_append, List.nil_append, nI_ltc, nI_lec, nI_eqc, nI_ne5, n5_ne, n5_lt, bI_0, bI_1, nI_add, pk_mul, if_pos, if_neg, ite_not, if_true, if_false, not_true_eq_false, not_false_eq_true, true_and, false_and, and_true, and_false, Nat.reduceAdd, Nat.reduceMul, h0]
    · have e : zsem d 109 9 [.inr (some 1), .inl (nI n), .inl (nI i)] [] (HH L mu p) = zsem d 109 9 [.inr (some 1), .inl (nI n), .inl (nI (i + 1))] [] (HH L mu p) := by
        rw [h109_9]
        simp (disch := first | omega | assumption) only [h109_0, h109_1, h109_4, h109_6, h109_7, h109_8, h109_10, h109_12, h109_15, h109_16, h109_19, h109_20, h109_21, h109_22, h109_25, h109_26, h109_27, h109_30, h109_33, h109_35, Option.bind_some, Option.toList_some, Option.toList_none, List.cons_append, List.nil_append, nI_ltc, nI_lec, nI_eqc, nI_ne5, n5_ne, n5_lt, bI_0, bI_1, nI_add, pk_mul, if_pos, if_neg, ite_not, if_true, if_false, not_true_eq_false, not_false_eq_true, true_and, false_and, and_true, and_false, Nat.reduceAdd, Nat.reduceMul, h0]
      rw [e]
      rcases ih (i + 1) (by omega) with ⟨j, h1, h2, h3, h4⟩ | ⟨h1, h2⟩
      · exact Or.inl ⟨j, by omega, h2, h3, h4⟩
      · refine Or.inr ⟨fun j g1 g2 => ?_, h2⟩
        by_cases hx : j = i
        · rw [hx]; exact h0
        · exact h1 j (by omega) g2
theorem m_answerL (h : Rel mu p) (n s : Nat) (hn : n ≤ 15) (hs : s < 4) (v0 : Int32) : ∀ k i f, i + k = 12 → ((∀ x, x < i → mu 2 x = nI 2 → mu 12 x = nI n → f = mu 5 (x * 4 + s)) ∧ ((∀ x, x < i → ¬(mu 2 x = nI 2 ∧ mu 12 x = nI n)) → f = v0)) →
    ∃ v, zsem (d + 4) 188 40 [.inr (some 105), .inl (nI n), .inl (nI s), .inl f, .inl (nI i)] [] (HH L mu p) = some (some (.inl v), HH L mu p) ∧ (∀ x, x < 12 → mu 2 x = nI 2 → mu 12 x = nI n → v = mu 5 (x * 4 + s)) ∧ ((∀ x, x < 12 → ¬(mu 2 x = nI 2 ∧ mu 12 x = nI n)) → v = v0) := by
  intro k
  induction k with
  | zero =>
    intro i f hi hf
    have : i = 12 := by omega
    subst this
    refine ⟨f, ?_, hf⟩
    rw [h188_40]
    simp (disch := first | omega | assumption) only [h188_0, h188_1, h188_2, h188_4, h188_7, h188_10, h188_11, h188_14, h188_17, h188_19, h188_20, h188_21, h188_24, h188_25, h188_27, h188_28, h188_31, h188_34, h188_36, h188_37, h188_38, h188_42, h188_44, h188_47, h188_48, h188_50, h188_53, h188_56, h188_57, h188_60, h188_62, h188_65, h188_67, h188_68, h188_69, h188_70, h188_73, h188_74, h188_76, h188_77, h188_80, h188_83, h188_84, h188_85, h188_88, h188_91, h188_92, Option.bind_some, Option.toList_some, Option.toList_none, List.cons_append, List.nil_append, nI_ltc, nI_lec, nI_eqc, nI_ne5, n5_ne, n5_lt, bI_0, bI_1, nI_add, pk_mul, if_pos, if_neg, ite_not, if_true, if_false, not_true_eq_false, not_false_eq_true, true_and, false_and, and_true, and_false, Nat.reduceAdd, Nat.reduceMul]
  | succ k ih =>
    intro i f hi hf
    have hi12 : i < 12 := by omega
    have hk2 := h.kind hi12
    by_cases hk : mu 2 i = nI 2
    · have e12 := (h.dev hi12 (k2_ne0 hk)).2.2.1
      by_cases h12 : mu 12 i = nI n
      · have c3 := m_inSlot (d + 1) L mu p h.B h.T i s (by omega) hs
        rw [rk_5 (by omega)] at c3
        obtain ⟨v, e1, e2, e3⟩ := ih (i + 1) (mu 5 (i * 4 + s)) (by omega) ⟨fun x hx g1 g2 => by
          by_cases q : x = i
          · rw [q]
          · have := num_one h.2.2.1 (d := x) (d' := i) (n := n) (by omega) hi12 (by omega) (by rw [rk_12 (by omega)]; exact g2) (by rw [rk_12 hi12]; exact h12)
            exact absurd this q, fun q => absurd ⟨hk, h12⟩ (q i (by omega))⟩
        refine ⟨v, ?_, e2, e3⟩
        rw [← e1, h188_40]
        simp (disch := first | omega | assumption) only [h188_0, h188_1, h188_2, h188_4, h188_7, h188_10, h188_11, h188_14, h188_17, h188_19, h188_20, h188_21, h188_24, h188_25, h188_27, h188_28, h188_31, h188_34, h188_36, h188_37, h188_38, h188_42, h188_44, h188_47, h188_48, h188_50, h188_53, h188_56, h188_57, h188_60, h188_62, h188_65, h188_67, h188_68, h188_69, h188_70, h188_73, h188_74, h188_76, h188_77, h188_80, h188_83, h188_84, h188_85, h188_88, h188_91, h188_92, Option.bind_some, Option.toList_some, Option.toList_none, List.cons_append, List.nil_append, nI_ltc, nI_lec, nI_eqc, nI_ne5, n5_ne, n5_lt, bI_0, bI_1, nI_add, pk_mul, if_pos, if_neg, ite_not, if_true, if_false, not_true_eq_false, not_false_eq_true, true_and, false_and, and_true, and_false, Nat.reduceAdd, Nat.reduceMul, m_isBridge_n, hk2, hk, m_at, e12, h12, c3]
      · obtain ⟨v, e1, e2, e3⟩ := ih (i + 1) f (by omega) ⟨fun x hx g1 g2 => by
          by_cases q : x = i
          · subst q; exact absurd g2 h12
          · exact hf.1 x (by omega) g1 g2, fun q => hf.2 (fun x hx => q x (by omega))⟩
        refine ⟨v, ?_, e2, e3⟩
        rw [← e1, h188_40]
        simp (disch := first | omega | assumption) only [h188_0, h188_1, h188_2, h188_4, h188_7, h188_10, h188_11, h188_14, h188_17, h188_19, h188_20, h188_21, h188_24, h188_25, h188_27, h188_28, h188_31, h188_34, h188_36, h188_37, h188_38, h188_42, h188_44, h188_47, h188_48, h188_50, h188_53, h188_56, h188_57, h188_60, h188_62, h188_65, h188_67, h188_68, h188_69, h188_70, h188_73, h188_74, h188_76, h188_77, h188_80, h188_83, h188_84, h188_85, h188_88, h188_91, h188_92, Option.bind_some, Option.toList_some, Option.toList_none, List.cons_append, List.nil_append, nI_ltc, nI_lec, nI_eqc, nI_ne5, n5_ne, n5_lt, bI_0, bI_1, nI_add, pk_mul, if_pos, if_neg, ite_not, if_true, if_false, not_true_eq_false, not_false_eq_true, true_and, false_and, and_true, and_false, Nat.reduceAdd, Nat.reduceMul, m_isBridge_n, hk2, hk, m_at, e12, h12]
    · obtain ⟨v, e1, e2, e3⟩ := ih (i + 1) f (by omega) ⟨fun x hx g1 g2 => by
        by_cases q : x = i
        · subst q; exact absurd g1 hk
        · exact hf.1 x (by omega) g1 g2, fun q => hf.2 (fun x hx => q x (by omega))⟩
      refine ⟨v, ?_, e2, e3⟩
      rw [← e1, h188_40]
      simp (disch := first | omega | assumption) only [h188_0, h188_1, h188_2, h188_4, h188_7, h188_10, h188_11, h188_14, h188_17, h188_19, h188_20, h188_21, h188_24, h188_25, h188_27, h188_28, h188_31, h188_34, h188_36, h188_37, h188_38, h188_42, h188_44, h188_47, h188_48, h188_50, h188_53, h188_56, h188_57, h188_60, h188_62, h188_65, h188_67, h188_68, h188_69, h188_70, h188_73, h188_74, h188_76, h188_77, h188_80, h188_83, h188_84, h188_85, h188_88, h188_91, h188_92, Option.bind_some, Option.toList_some, Option.toList_none, List.cons_append, List.nil_append, nI_ltc, nI_lec, nI_eqc, nI_ne5, n5_ne, n5_lt, bI_0, bI_1, nI_add, pk_mul, if_pos, if_neg, ite_not, if_true, if_false, not_true_eq_false, not_false_eq_true, true_and, false_and, and_true, and_false, Nat.reduceAdd, Nat.reduceMul, m_isBridge_n, hk2, hk]
theorem op_answer (h : Rel mu p) (x y : Int32) : Pair (d + 4) L 108 [.inl x, .inl y] 188 [.inl x, .inl y, .inr none, .inr none] mu p := by
  rcases ixo x 16 (by omega) with ⟨n, hn, rfl⟩ | hx
  · rcases ixo y 4 (by omega) with ⟨s, hs, rfl⟩ | hy
    · by_cases h0 : n = 0
      · subst h0
        have c3 := m_inSlot (d + 1) L mu p h.B h.T 12 s (by omega) hs
        rw [rk_5 (by omega)] at c3
        obtain ⟨v, e1, e2, e3⟩ := m_answerL d L mu p h 0 s (by omega) hs (mu 5 (12 * 4 + s)) 12 0 (mu 5 (12 * 4 + s)) rfl ⟨fun x hx => by omega, fun _ => rfl⟩
        have hv := e3 (fun z hz q => by
          rcases h.2.2.1.2.2.2.2.2.1.1 z hz with ⟨g, -⟩ | ⟨a, b, g⟩
          · rw [rk_12 hz, q.2] at g
            exact absurd g (by decide)
          · have g1 := g.1
            have g2 := g.2.2
            rw [rk_12 hz, q.2, nI_eqc (by omega) (by omega)] at g1
            omega)
        subst hv
        refine ⟨mu 5 (12 * 4 + s), mu, p, mu, ?_, ?_, h⟩
        · simp (disch := first | omega | assumption) only [h108_0, h108_1, h108_4, h108_5, h108_7, h108_10, h108_11, h108_14, h108_17, h108_19, h108_20, h108_21, h108_24, h108_25, h108_28, h108_29, h108_32, h108_33, h108_36, h109_0, h109_1, h109_4, h109_6, h109_7, h109_8, h109_10, h109_12, h109_15, h109_16, h109_19, h109_20, h109_21, h109_22, h109_25, h109_26, h109_27, h109_30, h109_33, h109_35, Option.bind_some, Option.toList_some, Option.toList_none, List.cons_append, List.nil_append, nI_ltc, nI_lec, nI_eqc, nI_ne5, n5_ne, n5_lt, bI_0, bI_1, nI_add, pk_mul, if_pos, if_neg, ite_not, if_true, if_false, not_true_eq_false, not_false_eq_true, true_and, false_and, and_true, and_false, Nat.reduceAdd, Nat.reduceMul, z_isSlot_n, z_deviceAt_n]
        · rw [← e1]
          simp (disch := first | omega | assumption) only [h188_0, h188_1, h188_2, h188_4, h188_7, h188_10, h188_11, h188_14, h188_17, h188_19, h188_20, h188_21, h188_24, h188_25, h188_27, h188_28, h188_31, h188_34, h188_36, h188_37, h188_38, h188_42, h188_44, h188_47, h188_48, h188_50, h188_53, h188_56, h188_57, h188_60, h188_62, h188_65, h188_67, h188_68, h188_69, h188_70, h188_73, h188_74, h188_76, h188_77, h188_80, h188_83, h188_84, h188_85, h188_88, h188_91, h188_92, Option.bind_some, Option.toList_some, Option.toList_none, List.cons_append, List.nil_append, nI_ltc, nI_lec, nI_eqc, nI_ne5, n5_ne, n5_lt, bI_0, bI_1, nI_add, pk_mul, if_pos, if_neg, ite_not, if_true, if_false, not_true_eq_false, not_false_eq_true, true_and, false_and, and_true, and_false, Nat.reduceAdd, Nat.reduceMul, m_in_n, m_isSlot_n, c3]
      · have hb0 : zsem (d + 3) 109 0 [.inr (some 1), .inl (nI n), .inr none] [] (HH L mu p) = zsem (d + 3) 109 9 [.inr (some 1), .inl (nI n), .inl (nI 0)] [] (HH L mu p) := by
          simp (disch := first | omega | assumption) only [h109_0, h109_1, h109_4, h109_6, h109_7, h109_8, h109_10, h109_12, h109_15, h109_16, h109_19, h109_20, h109_21, h109_22, h109_25, h109_26, h109_27, h109_30, h109_33, h109_35, Option.bind_some, Option.toList_some, Option.toList_none, List.cons_append, List.nil_append, nI_ltc, nI_lec, nI_eqc, nI_ne5, n5_ne, n5_lt, bI_0, bI_1, nI_add, pk_mul, if_pos, if_neg, ite_not, if_true, if_false, not_true_eq_false, not_false_eq_true, true_and, false_and, and_true, and_false, Nat.reduceAdd, Nat.reduceMul]
        obtain ⟨v, e1, e2, e3⟩ := m_answerL d L mu p h n s (by omega) hs (-5) 12 0 (-5) rfl ⟨fun x hx => by omega, fun _ => rfl⟩
        rcases z_bwnL (d + 3) L mu p n (by omega) 12 0 rfl with ⟨j, h1, h2, h3, h4⟩ | ⟨h1, h2⟩
        · have hk : mu 2 j = nI 2 := by
            rw [← rk_2 (mu := mu) h2]
            by_cases q : rk mu 1 2 j = nI 2
            · exact q
            · have := (h.A.2 j h2 q).1
              rw [rk_12 h2, h3, nI_ne5 (by omega)] at this
              exact this.elim
          have hv := e2 j h2 hk h3
          subst hv
          rw [h4] at hb0
          refine ⟨mu 5 (j * 4 + s), mu, p, mu, ?_, ?_, h⟩
          · simp (disch := first | omega | assumption) only [h108_0, h108_1, h108_4, h108_5, h108_7, h108_10, h108_11, h108_14, h108_17, h108_19, h108_20, h108_21, h108_24, h108_25, h108_28, h108_29, h108_32, h108_33, h108_36, Option.bind_some, Option.toList_some, Option.toList_none, List.cons_append, List.nil_append, nI_ltc, nI_lec, nI_eqc, nI_ne5, n5_ne, n5_lt, bI_0, bI_1, nI_add, pk_mul, if_pos, if_neg, ite_not, if_true, if_false, not_true_eq_false, not_false_eq_true, true_and, false_and, and_true, and_false, Nat.reduceAdd, Nat.reduceMul, z_isSlot_n, hb0, z_deviceAt_n]
          · rw [← e1]
            simp (disch := first | omega | assumption) only [h188_0, h188_1, h188_2, h188_4, h188_7, h188_10, h188_11, h188_14, h188_17, h188_19, h188_20, h188_21, h188_24, h188_25, h188_27, h188_28, h188_31, h188_34, h188_36, h188_37, h188_38, h188_42, h188_44, h188_47, h188_48, h188_50, h188_53, h188_56, h188_57, h188_60, h188_62, h188_65, h188_67, h188_68, h188_69, h188_70, h188_73, h188_74, h188_76, h188_77, h188_80, h188_83, h188_84, h188_85, h188_88, h188_91, h188_92, Option.bind_some, Option.toList_some, Option.toList_none, List.cons_append, List.nil_append, nI_ltc, nI_lec, nI_eqc, nI_ne5, n5_ne, n5_lt, bI_0, bI_1, nI_add, pk_mul, if_pos, if_neg, ite_not, if_true, if_false, not_true_eq_false, not_false_eq_true, true_and, false_and, and_true, and_false, Nat.reduceAdd, Nat.reduceMul, m_in_n, m_isSlot_n]
        · have hv := e3 (fun x hx q => h1 x (by omega) hx q.2)
          subst hv
          rw [h2] at hb0
          refine ⟨-5, mu, p, mu, ?_, ?_, h⟩
          · simp (disch := first | omega | assumption) only [h108_0, h108_1, h108_4, h108_5, h108_7, h108_10, h108_11, h108_14, h108_17, h108_19, h108_20, h108_21, h108_24, h108_25, h108_28, h108_29, h108_32, h108_33, h108_36, Option.bind_some, Option.toList_some, Option.toList_none, List.cons_append, List.nil_append, nI_ltc, nI_lec, nI_eqc, nI_ne5, n5_ne, n5_lt, bI_0, bI_1, nI_add, pk_mul, if_pos, if_neg, ite_not, if_true, if_false, not_true_eq_false, not_false_eq_true, true_and, false_and, and_true, and_false, Nat.reduceAdd, Nat.reduceMul, z_isSlot_n, hb0, z_deviceAt_5]
          · rw [← e1]
            simp (disch := first | omega | assumption) only [h188_0, h188_1, h188_2, h188_4, h188_7, h188_10, h188_11, h188_14, h188_17, h188_19, h188_20, h188_21, h188_24, h188_25, h188_27, h188_28, h188_31, h188_34, h188_36, h188_37, h188_38, h188_42, h188_44, h188_47, h188_48, h188_50, h188_53, h188_56, h188_57, h188_60, h188_62, h188_65, h188_67, h188_68, h188_69, h188_70, h188_73, h188_74, h188_76, h188_77, h188_80, h188_83, h188_84, h188_85, h188_88, h188_91, h188_92, Option.bind_some, Option.toList_some, Option.toList_none, List.cons_append, List.nil_append, nI_ltc, nI_lec, nI_eqc, nI_ne5, n5_ne, n5_lt, bI_0, bI_1, nI_add, pk_mul, if_pos, if_neg, ite_not, if_true, if_false, not_true_eq_false, not_false_eq_true, true_and, false_and, and_true, and_false, Nat.reduceAdd, Nat.reduceMul, m_in_n, m_isSlot_n]
    · refine ⟨-2, mu, p, mu, ?_, ?_, h⟩
      · simp (disch := first | omega | assumption) only [h108_0, h108_1, h108_4, h108_5, h108_7, h108_10, h108_11, h108_14, h108_17, h108_19, h108_20, h108_21, h108_24, h108_25, h108_28, h108_29, h108_32, h108_33, h108_36, Option.bind_some, Option.toList_some, Option.toList_none, List.cons_append, List.nil_append, nI_ltc, nI_lec, nI_eqc, nI_ne5, n5_ne, n5_lt, bI_0, bI_1, nI_add, pk_mul, if_pos, if_neg, ite_not, if_true, if_false, not_true_eq_false, not_false_eq_true, true_and, false_and, and_true, and_false, Nat.reduceAdd, Nat.reduceMul, z_isSlot_o]
      · simp (disch := first | omega | assumption) only [h188_0, h188_1, h188_2, h188_4, h188_7, h188_10, h188_11, h188_14, h188_17, h188_19, h188_20, h188_21, h188_24, h188_25, h188_27, h188_28, h188_31, h188_34, h188_36, h188_37, h188_38, h188_42, h188_44, h188_47, h188_48, h188_50, h188_53, h188_56, h188_57, h188_60, h188_62, h188_65, h188_67, h188_68, h188_69, h188_70, h188_73, h188_74, h188_76, h188_77, h188_80, h188_83, h188_84, h188_85, h188_88, h188_91, h188_92, Option.bind_some, Option.toList_some, Option.toList_none, List.cons_append, List.nil_append, nI_ltc, nI_lec, nI_eqc, nI_ne5, n5_ne, n5_lt, bI_0, bI_1, nI_add, pk_mul, if_pos, if_neg, ite_not, if_true, if_false, not_true_eq_false, not_false_eq_true, true_and, false_and, and_true, and_false, Nat.reduceAdd, Nat.reduceMul, m_in_n, m_isSlot_o]
  · have e := m_in_o (d + 3) L mu p x 15 (by omega) hx
    refine ⟨-2, mu, p, mu, ?_, ?_, h⟩
    · by_cases h1 : x < nI 0
      · simp (disch := first | omega | assumption) only [h108_0, h108_1, h108_4, h108_5, h108_7, h108_10, h108_11, h108_14, h108_17, h108_19, h108_20, h108_21, h108_24, h108_25, h108_28, h108_29, h108_32, h108_33, h108_36, Option.bind_some, Option.toList_some, Option.toList_none, List.cons_append, List.nil_append, nI_ltc, nI_lec, nI_eqc, nI_ne5, n5_ne, n5_lt, bI_0, bI_1, nI_add, pk_mul, if_pos, if_neg, ite_not, if_true, if_false, not_true_eq_false, not_false_eq_true, true_and, false_and, and_true, and_false, Nat.reduceAdd, Nat.reduceMul, h1]
      · have h2 : nI 15 < x := by
          rw [← Int32.not_le]
          intro q
          rcases hx with h | h
          · exact h1 h
          · rw [Int32.le_iff_toInt_le] at q h
            rw [nI_toInt (by omega)] at q h
            omega
        simp (disch := first | omega | assumption) only [h108_0, h108_1, h108_4, h108_5, h108_7, h108_10, h108_11, h108_14, h108_17, h108_19, h108_20, h108_21, h108_24, h108_25, h108_28, h108_29, h108_32, h108_33, h108_36, Option.bind_some, Option.toList_some, Option.toList_none, List.cons_append, List.nil_append, nI_ltc, nI_lec, nI_eqc, nI_ne5, n5_ne, n5_lt, bI_0, bI_1, nI_add, pk_mul, if_pos, if_neg, ite_not, if_true, if_false, not_true_eq_false, not_false_eq_true, true_and, false_and, and_true, and_false, Nat.reduceAdd, Nat.reduceMul, h1, h2]
    · simp (disch := first | omega | assumption) only [h188_0, h188_1, h188_2, h188_4, h188_7, h188_10, h188_11, h188_14, h188_17, h188_19, h188_20, h188_21, h188_24, h188_25, h188_27, h188_28, h188_31, h188_34, h188_36, h188_37, h188_38, h188_42, h188_44, h188_47, h188_48, h188_50, h188_53, h188_56, h188_57, h188_60, h188_62, h188_65, h188_67, h188_68, h188_69, h188_70, h188_73, h188_74, h188_76, h188_77, h188_80, h188_83, h188_84, h188_85, h188_88, h188_91, h188_92, Option.bind_some, Option.toList_some, Option.toList_none, List.cons_append, List.nil_append, nI_ltc, nI_lec, nI_eqc, nI_ne5, n5_ne, n5_lt, bI_0, bI_1, nI_add, pk_mul, if_pos, if_neg, ite_not, if_true, if_false, not_true_eq_false, not_false_eq_true, true_and, false_and, and_true, and_false, Nat.reduceAdd, Nat.reduceMul, e]
end
