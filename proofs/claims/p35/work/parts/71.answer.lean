/-! one bridge a number -/
def dq (R : RV) (d : Nat) : Nat := dpt R 5 (bn R d)
theorem dq_s {R : RV} (hI : InvT R) {d : Nat} (hd : d < 12) (hk : ¬R 2 d = nI 0) (hb : bn R d < 12) : dq R d = dq R (bn R d) + 1 := by
  have h2 := (hI.bus hd hk).2.2 hb
  have hr := hI.2.2.2 (bn R d) hb (k2_ne0 h2)
  unfold dq
  rw [dpt_s, if_pos ⟨hb, h2⟩, dpt_up hr (m := 5) (by omega)]
theorem dq_0 {R : RV} {d : Nat} (hb : bn R d = 12) : dq R d = 0 := by
  unfold dq
  rw [hb, dpt_12]
theorem numd_k {R : RV} (hA : InvA R) {d a b : Nat} (hd : d < 12) (h : numd R d a b) : R 2 d = nI 2 := by
  by_cases q : R 2 d = nI 2
  · exact q
  · have := (hA.2 d hd q).1
    rw [h.1, nI_ne5 (by have := h.2.2.2; omega)] at this
    exact this.elim
theorem num_lev {R : RV} (hI : InvT R) (hA : InvA R) (hN : InvN R) : ∀ n d d' a b a' b', d < 12 → d' < 12 → ¬d = d' → numd R d a b → numd R d' a' b' → dq R d = n → dq R d' = n → b < a' ∨ b' < a := by
  intro n
  induction n with
  | zero =>
    intro d d' a b a' b' hd hd' hne h1 h2 e1 e2
    have k1 := k2_ne0 (numd_k hA hd h1)
    have k2 := k2_ne0 (numd_k hA hd' h2)
    have z1 : bn R d = 12 := by
      by_cases q : bn R d < 12
      · rw [dq_s hI hd k1 q] at e1; omega
      · have := (hI.bus hd k1).1; omega
    have z2 : bn R d' = 12 := by
      by_cases q : bn R d' < 12
      · rw [dq_s hI hd' k2 q] at e2; omega
      · have := (hI.bus hd' k2).1; omega
    exact hN.2.2 d d' a b a' b' hd hd' hne (by rw [z1, z2]) h1 h2
  | succ n ih =>
    intro d d' a b a' b' hd hd' hne h1 h2 e1 e2
    have k1 := k2_ne0 (numd_k hA hd h1)
    have k2 := k2_ne0 (numd_k hA hd' h2)
    by_cases hb : bn R d = bn R d'
    · exact hN.2.2 d d' a b a' b' hd hd' hne hb h1 h2
    · rcases hN.2.1 d a b hd h1 with q | ⟨x, y, p1, p2, p3⟩
      · rw [dq_0 q] at e1; omega
      · rcases hN.2.1 d' a' b' hd' h2 with q | ⟨x', y', p1', p2', p3'⟩
        · rw [dq_0 q] at e2; omega
        · by_cases q : bn R d < 12
          · by_cases q' : bn R d' < 12
            · rw [dq_s hI hd k1 q] at e1
              rw [dq_s hI hd' k2 q'] at e2
              have := ih (bn R d) (bn R d') x y x' y' q q' hb p1 p1' (by omega) (by omega)
              have := h1.2.2.2.1
              have := h2.2.2.2.1
              omega
            · have h12 : bn R d' = 12 := by have := (hI.bus hd' k2).1; omega
              rw [dq_0 h12] at e2; omega
          · have h12 : bn R d = 12 := by have := (hI.bus hd k1).1; omega
            rw [dq_0 h12] at e1; omega
theorem num_up {R : RV} (hI : InvT R) (hA : InvA R) (hN : InvN R) (m : Nat) : ∀ k d a b, d < 12 → numd R d a b → dq R d = m + (k + 1) → ∃ e x y, e < 12 ∧ dq R e = m ∧ numd R e x y ∧ x < a ∧ b ≤ y := by
  intro k
  induction k with
  | zero =>
    intro d a b hd h e
    have k1 := k2_ne0 (numd_k hA hd h)
    by_cases q : bn R d < 12
    · rw [dq_s hI hd k1 q] at e
      rcases hN.2.1 d a b hd h with q2 | ⟨x, y, p1, p2, p3⟩
      · omega
      · exact ⟨bn R d, x, y, q, by omega, p1, p2, p3⟩
    · have h12 : bn R d = 12 := by have := (hI.bus hd k1).1; omega
      rw [dq_0 h12] at e; omega
  | succ k ih =>
    intro d a b hd h e
    have k1 := k2_ne0 (numd_k hA hd h)
    by_cases q : bn R d < 12
    · rw [dq_s hI hd k1 q] at e
      rcases hN.2.1 d a b hd h with q2 | ⟨x, y, p1, p2, p3⟩
      · omega
      · obtain ⟨f, x', y', g1, g2, g3, g4, g5⟩ := ih (bn R d) x y q p1 (by omega)
        exact ⟨f, x', y', g1, g2, g3, by omega, by omega⟩
    · have h12 : bn R d = 12 := by have := (hI.bus hd k1).1; omega
      rw [dq_0 h12] at e; omega
theorem num_one {R : RV} (h : OK R) {d d' : Nat} {n : Nat} (hd : d < 12) (hd' : d' < 12) (hn : n < 2147483648) (h1 : R 12 d = nI n) (h2 : R 12 d' = nI n) : d = d' := by
  obtain ⟨hI, hA, -, -, -, hN, -, -⟩ := h
  have num : ∀ x, x < 12 → R 12 x = nI n → ∃ b, numd R x n b := fun x hx hxn => by
    rcases hN.1 x hx with ⟨q, -⟩ | ⟨a, b, q⟩
    · rw [hxn, nI_ne5 hn] at q; exact q.elim
    · have := q.1
      rw [hxn, nI_eqc hn (by have := q.2.2.2; omega)] at this
      subst this
      exact ⟨b, q⟩
  obtain ⟨b, n1⟩ := num d hd h1
  obtain ⟨b', n2⟩ := num d' hd' h2
  have l1 := n1.2.2.2.1
  have l2 := n2.2.2.2.1
  by_cases hne : d = d'
  · exact hne
  · exfalso
    by_cases e : dq R d = dq R d'
    · have := num_lev hI hA hN _ d d' n b n b' hd hd' hne n1 n2 rfl e.symm
      omega
    · have aux : ∀ x y bx ney, x < 12 → y < 12 → numd R x n bx → numd R y n ney → dq R y < dq R x → False := by
        intro x y bx ney hx hy n1 n2 hlt
        obtain ⟨f, u, v, g1, g2, g3, g4, g5⟩ := num_up hI hA hN (dq R y) (dq R x - dq R y - 1) x n bx hx n1 (by omega)
        have l1 := n1.2.2.2.1
        have l2 := n2.2.2.2.1
        by_cases q : f = y
        · subst q
          have r1 := g3.1
          rw [n2.1, nI_eqc hn (by have := g3.2.2.2; omega)] at r1
          omega
        · have := num_lev hI hA hN _ f y u v n ney g1 hy q g3 n2 g2 rfl
          omega
      by_cases e2 : dq R d < dq R d'
      · exact aux d' d b' b hd' hd n2 n1 e2
      · exact aux d d' b b' hd hd' n1 n2 (by omega)
section
variable (d L : Nat) (mu : RV) (p : Nat → Nat)
theorem z_bwnL (n : Nat) (hn : n < 2147483648) : ∀ k i, i + k = 12 → (∃ j, i ≤ j ∧ j < 12 ∧ mu 12 j = nI n ∧ zsem d 36 9 [.inr (.inl (some 1)), .inl (nI n), .inl (nI i)] [] (HH L mu p) = some (some (.inl (nI j)), HH L mu p)) ∨
    ((∀ j, i ≤ j → j < 12 → ¬mu 12 j = nI n) ∧ zsem d 36 9 [.inr (.inl (some 1)), .inl (nI n), .inl (nI i)] [] (HH L mu p) = some (some (.inl (-5)), HH L mu p)) := by
  intro k
  induction k with
  | zero =>
    intro i hi
    have : i = 12 := by omega
    subst this
    refine Or.inr ⟨fun j h1 h2 => by omega, ?_⟩
    rw [h36_9]
    simp (disch := first | omega | assumption) only [h36_0, h36_1, h36_4, h36_6, h36_7, h36_8, h36_10, h36_12, h36_15, h36_16, h36_19, h36_20, h36_21, h36_22, h36_25, h36_26, h36_27, h36_30, h36_33, h36_35, Option.bind_some, Option.toList_some, Option.toList_none, List.cons_append, List.nil_append, nI_ltc, nI_lec, nI_eqc, nI_ne5, n5_ne, n5_lt, bI_0, bI_1, nI_add, pk_mul, if_pos, if_neg, ite_not, if_true, if_false, not_true_eq_false, not_false_eq_true, true_and, false_and, and_true, and_false, Nat.reduceAdd, Nat.reduceMul]
  | succ k ih =>
    intro i hi
    by_cases h0 : mu 12 i = nI n
    · refine Or.inl ⟨i, Nat.le_refl _, by omega, h0, ?_⟩
      rw [h36_9]
      simp (disch := first | omega | assumption) only [h36_0, h36_1, h36_4, h36_6, h36_7, h36_8, h36_10, h36_12, h36_15, h36_16, h36_19, h36_20, h36_21, h36_22, h36_25, h36_26, h36_27, h36_30, h36_33, h36_35, Option.bind_some, Option.toList_some, Option.toList_none, List.cons_append, List.nil_append, nI_ltc, nI_lec, nI_eqc, nI_ne5, n5_ne, n5_lt, bI_0, bI_1, nI_add, pk_mul, if_pos, if_neg, ite_not, if_true, if_false, not_true_eq_false, not_false_eq_true, true_and, false_and, and_true, and_false, Nat.reduceAdd, Nat.reduceMul, h0]
    · have e : zsem d 36 9 [.inr (.inl (some 1)), .inl (nI n), .inl (nI i)] [] (HH L mu p) = zsem d 36 9 [.inr (.inl (some 1)), .inl (nI n), .inl (nI (i + 1))] [] (HH L mu p) := by
        rw [h36_9]
        simp (disch := first | omega | assumption) only [h36_0, h36_1, h36_4, h36_6, h36_7, h36_8, h36_10, h36_12, h36_15, h36_16, h36_19, h36_20, h36_21, h36_22, h36_25, h36_26, h36_27, h36_30, h36_33, h36_35, Option.bind_some, Option.toList_some, Option.toList_none, List.cons_append, List.nil_append, nI_ltc, nI_lec, nI_eqc, nI_ne5, n5_ne, n5_lt, bI_0, bI_1, nI_add, pk_mul, if_pos, if_neg, ite_not, if_true, if_false, not_true_eq_false, not_false_eq_true, true_and, false_and, and_true, and_false, Nat.reduceAdd, Nat.reduceMul, h0]
      rw [e]
      rcases ih (i + 1) (by omega) with ⟨j, h1, h2, h3, h4⟩ | ⟨h1, h2⟩
      · exact Or.inl ⟨j, by omega, h2, h3, h4⟩
      · refine Or.inr ⟨fun j g1 g2 => ?_, h2⟩
        by_cases hx : j = i
        · rw [hx]; exact h0
        · exact h1 j (by omega) g2
end
