/-! find -/
def HC (mu : RV) (s x i : Nat) : Prop := ∃ a n, a < 4096 ∧ n ≤ 1024 ∧ mu 6 i = nI s ∧ mu 8 i = nI a ∧ mu 7 i = nI n ∧ a ≤ x ∧ x < a + n
section
variable (d L : Nat) (mu : RV) (p : Nat → Nat)
theorem reg_val (h : Rel mu p) {j q : Nat} (hj : j < 12) (hq : q < 3) : mu 8 (j * 3 + q) = -5 ∨ (mu 2 j = nI 1 ∧ ∃ sp a n, sp < 2 ∧ a < 4096 ∧ n ≤ 1024 ∧ 0 < n ∧ mu 6 (j * 3 + q) = nI sp ∧ mu 8 (j * 3 + q) = nI a ∧ mu 7 (j * 3 + q) = nI n) := by
  obtain ⟨i1, i2, i3, i4, i5, i6, i7, i8⟩ := h.2.2.1
  have e6 := rk_6 (mu := mu) (i := j * 3 + q) (by omega)
  have e7 := rk_7 (mu := mu) (i := j * 3 + q) (by omega)
  have e8 := rk_8 (mu := mu) (i := j * 3 + q) (by omega)
  rw [← e6, ← e7, ← e8, ← rk_2 (mu := mu) hj]
  rcases i7.1 j q hj hq with g | ⟨a, ha, g⟩
  · exact Or.inl g
  · by_cases hk : rk mu 1 2 j = nI 1
    · obtain ⟨sp, s1, s2, s3⟩ := i4 j q hj hq
      rcases s3 with ⟨-, s4⟩ | ⟨e, he, s4⟩
      · exact Or.inl s4
      · have := sz_lt he
        exact Or.inr ⟨hk, sp, a, _, s1, ha, this.1, this.2, s2, g, s4⟩
    · exact Or.inl (i2.1 j hj hk q hq).2
theorem HC_card (h : Rel mu p) {s x j q : Nat} (hs : s < 2) (hj : j < 12) (hq : q < 3) (hc : HC mu s x (j * 3 + q)) : mu 2 j = nI 1 := by
  obtain ⟨a, n, h1, h2, h3, h4, h5, h6, h7⟩ := hc
  rcases reg_val mu p h hj hq with g | ⟨g, -⟩
  · rw [h4, nI_ne5 (by omega)] at g; exact g.elim
  · exact g
theorem HC_one (h : Rel mu p) {s x i i' : Nat} (hs : s < 2) (hi : i < 36) (hi' : i' < 36) (c : HC mu s x i) (c' : HC mu s x i') : i = i' := by
  have e : i = i / 3 * 3 + i % 3 := by omega
  have e' : i' = i' / 3 * 3 + i' % 3 := by omega
  rw [e] at c
  rw [e'] at c'
  have k := HC_card mu p h hs (by omega) (by omega) c
  have k' := HC_card mu p h hs (by omega) (by omega) c'
  obtain ⟨a, n, h1, h2, h3, h4, h5, h6, h7⟩ := c
  obtain ⟨a', n', h1', h2', h3', h4', h5', h6', h7'⟩ := c'
  have kk : rk mu 1 2 (i / 3) = nI 1 := by rw [rk_2 (by omega)]; exact k
  have kk' : rk mu 1 2 (i' / 3) = nI 1 := by rw [rk_2 (by omega)]; exact k'
  have cv : cov (rk mu 1) s (i / 3) (i % 3) a n := ⟨h1, by omega, Or.inl ⟨kk, by rw [rk_6 (by omega)]; exact h3, by rw [rk_8 (by omega)]; exact h4, by rw [rk_7 (by omega)]; exact h5⟩⟩
  have cv' : cov (rk mu 1) s (i' / 3) (i' % 3) a' n' := ⟨h1', by omega, Or.inl ⟨kk', by rw [rk_6 (by omega)]; exact h3', by rw [rk_8 (by omega)]; exact h4', by rw [rk_7 (by omega)]; exact h5'⟩⟩
  have hW : InvW (rk mu 1) s := by
    obtain ⟨i1, i2, i3, i4, i5, i6, i7, i8⟩ := h.2.2.1
    rcases (show s = 0 ∨ s = 1 by omega) with rfl | rfl
    · exact i7
    · exact i8
  have := reg_one h.T hW (by omega) (by omega) (by omega) (by omega) kk kk' cv cv' h6 h7 h6' h7'
  omega
theorem z_regL (h : Rel mu p) (s x : Nat) (hs : s < 2) (hx : x < 4096) : ∀ k i (w : AV), i + k = 36 → (∃ j, i ≤ j ∧ j < 36 ∧ HC mu s x j ∧ zsem d 53 2 [.inr (.inl (some 1)), .inl (nI s), .inl (nI x), .inl (nI i), w] [] (HH L mu p) = some (some (.inl (nI j)), HH L mu p)) ∨
    ((∀ j, i ≤ j → j < 36 → ¬HC mu s x j) ∧ zsem d 53 2 [.inr (.inl (some 1)), .inl (nI s), .inl (nI x), .inl (nI i), w] [] (HH L mu p) = some (some (.inl (-5)), HH L mu p)) := by
  intro k
  induction k with
  | zero =>
    intro i w hi
    have : i = 36 := by omega
    subst this
    refine Or.inr ⟨fun j h1 h2 => by omega, ?_⟩
    rw [h53_2]
    simp (disch := first | omega | assumption) only [h53_0, h53_1, h53_3, h53_5, h53_8, h53_9, h53_12, h53_13, h53_14, h53_16, h53_18, h53_20, h53_23, h53_24, h53_27, h53_28, h53_29, h53_30, h53_33, h53_35, h53_36, h53_39, h53_40, h53_42, h53_43, h53_46, h53_47, h53_48, h53_49, h53_52, h53_53, h53_54, h53_57, h53_60, h53_62, Option.bind_some, Option.toList_some, Option.toList_none, List.cons_append, List.nil_append, nI_ltc, nI_lec, nI_eqc, nI_ne5, n5_ne, n5_lt, bI_0, bI_1, nI_add, pk_mul, if_pos, if_neg, ite_not, if_true, if_false, not_true_eq_false, not_false_eq_true, true_and, false_and, and_true, and_false, Nat.reduceAdd, Nat.reduceMul]
  | succ k ih =>
    intro i w hi
    have nxt : ∀ w' : AV, ¬HC mu s x i → zsem d 53 2 [.inr (.inl (some 1)), .inl (nI s), .inl (nI x), .inl (nI i), w] [] (HH L mu p) = zsem d 53 2 [.inr (.inl (some 1)), .inl (nI s), .inl (nI x), .inl (nI (i + 1)), w'] [] (HH L mu p) → (∃ j, i ≤ j ∧ j < 36 ∧ HC mu s x j ∧ zsem d 53 2 [.inr (.inl (some 1)), .inl (nI s), .inl (nI x), .inl (nI i), w] [] (HH L mu p) = some (some (.inl (nI j)), HH L mu p)) ∨
        ((∀ j, i ≤ j → j < 36 → ¬HC mu s x j) ∧ zsem d 53 2 [.inr (.inl (some 1)), .inl (nI s), .inl (nI x), .inl (nI i), w] [] (HH L mu p) = some (some (.inl (-5)), HH L mu p)) := by
      intro w' hc e
      rw [e]
      rcases ih (i + 1) w' (by omega) with ⟨j, h1, h2, h3, h4⟩ | ⟨h1, h2⟩
      · exact Or.inl ⟨j, by omega, h2, h3, h4⟩
      · refine Or.inr ⟨fun j g1 g2 => ?_, h2⟩
        by_cases hj : j = i
        · rw [hj]; exact hc
        · exact h1 j (by omega) g2
    have hv := reg_val mu p h (j := i / 3) (q := i % 3) (by omega) (by omega)
    rw [show i / 3 * 3 + i % 3 = i by omega] at hv
    rcases hv with g | ⟨-, sp, a, n, v1, v2, v3, v4, v5, v6, v7⟩
    · refine nxt (.inl (-5)) (fun ⟨a, n, _, _, _, q, _⟩ => by rw [q, nI_ne5 (by omega)] at g; exact g) ?_
      rw [h53_2]
      simp (disch := first | omega | assumption) only [h53_0, h53_1, h53_3, h53_5, h53_8, h53_9, h53_12, h53_13, h53_14, h53_16, h53_18, h53_20, h53_23, h53_24, h53_27, h53_28, h53_29, h53_30, h53_33, h53_35, h53_36, h53_39, h53_40, h53_42, h53_43, h53_46, h53_47, h53_48, h53_49, h53_52, h53_53, h53_54, h53_57, h53_60, h53_62, Option.bind_some, Option.toList_some, Option.toList_none, List.cons_append, List.nil_append, nI_ltc, nI_lec, nI_eqc, nI_ne5, n5_ne, n5_lt, bI_0, bI_1, nI_add, pk_mul, if_pos, if_neg, ite_not, if_true, if_false, not_true_eq_false, not_false_eq_true, true_and, false_and, and_true, and_false, Nat.reduceAdd, Nat.reduceMul, g]
    · by_cases hsp : sp = s
      · subst hsp
        by_cases h1 : a ≤ x
        · by_cases h2 : x < a + n
          · refine Or.inl ⟨i, Nat.le_refl _, by omega, ⟨a, n, v2, v3, v5, v6, v7, h1, h2⟩, ?_⟩
            rw [h53_2]
            simp (disch := first | omega | assumption) only [h53_0, h53_1, h53_3, h53_5, h53_8, h53_9, h53_12, h53_13, h53_14, h53_16, h53_18, h53_20, h53_23, h53_24, h53_27, h53_28, h53_29, h53_30, h53_33, h53_35, h53_36, h53_39, h53_40, h53_42, h53_43, h53_46, h53_47, h53_48, h53_49, h53_52, h53_53, h53_54, h53_57, h53_60, h53_62, Option.bind_some, Option.toList_some, Option.toList_none, List.cons_append, List.nil_append, nI_ltc, nI_lec, nI_eqc, nI_ne5, n5_ne, n5_lt, bI_0, bI_1, nI_add, pk_mul, if_pos, if_neg, ite_not, if_true, if_false, not_true_eq_false, not_false_eq_true, true_and, false_and, and_true, and_false, Nat.reduceAdd, Nat.reduceMul, v5, v6, v7]
          · refine nxt (.inl (nI a)) (fun ⟨a', n', _, _, _, q, q2, q3, q4⟩ => ?_) ?_
            · rw [v6, nI_eqc (by omega) (by omega)] at q
              rw [v7, nI_eqc (by omega) (by omega)] at q2
              omega
            · rw [h53_2]
              simp (disch := first | omega | assumption) only [h53_0, h53_1, h53_3, h53_5, h53_8, h53_9, h53_12, h53_13, h53_14, h53_16, h53_18, h53_20, h53_23, h53_24, h53_27, h53_28, h53_29, h53_30, h53_33, h53_35, h53_36, h53_39, h53_40, h53_42, h53_43, h53_46, h53_47, h53_48, h53_49, h53_52, h53_53, h53_54, h53_57, h53_60, h53_62, Option.bind_some, Option.toList_some, Option.toList_none, List.cons_append, List.nil_append, nI_ltc, nI_lec, nI_eqc, nI_ne5, n5_ne, n5_lt, bI_0, bI_1, nI_add, pk_mul, if_pos, if_neg, ite_not, if_true, if_false, not_true_eq_false, not_false_eq_true, true_and, false_and, and_true, and_false, Nat.reduceAdd, Nat.reduceMul, v5, v6, v7]
        · refine nxt (.inl (nI a)) (fun ⟨a', n', _, _, _, q, q2, q3, q4⟩ => ?_) ?_
          · rw [v6, nI_eqc (by omega) (by omega)] at q
            omega
          · rw [h53_2]
            simp (disch := first | omega | assumption) only [h53_0, h53_1, h53_3, h53_5, h53_8, h53_9, h53_12, h53_13, h53_14, h53_16, h53_18, h53_20, h53_23, h53_24, h53_27, h53_28, h53_29, h53_30, h53_33, h53_35, h53_36, h53_39, h53_40, h53_42, h53_43, h53_46, h53_47, h53_48, h53_49, h53_52, h53_53, h53_54, h53_57, h53_60, h53_62, Option.bind_some, Option.toList_some, Option.toList_none, List.cons_append, List.nil_append, nI_ltc, nI_lec, nI_eqc, nI_ne5, n5_ne, n5_lt, bI_0, bI_1, nI_add, pk_mul, if_pos, if_neg, ite_not, if_true, if_false, not_true_eq_false, not_false_eq_true, true_and, false_and, and_true, and_false, Nat.reduceAdd, Nat.reduceMul, v5, v6]
      · refine nxt (.inl (nI a)) (fun ⟨a', n', _, _, q, _⟩ => ?_) ?_
        · rw [v5, nI_eqc (by omega) (by omega)] at q
          exact hsp q
        · rw [h53_2]
          simp (disch := first | omega | assumption) only [h53_0, h53_1, h53_3, h53_5, h53_8, h53_9, h53_12, h53_13, h53_14, h53_16, h53_18, h53_20, h53_23, h53_24, h53_27, h53_28, h53_29, h53_30, h53_33, h53_35, h53_36, h53_39, h53_40, h53_42, h53_43, h53_46, h53_47, h53_48, h53_49, h53_52, h53_53, h53_54, h53_57, h53_60, h53_62, Option.bind_some, Option.toList_some, Option.toList_none, List.cons_append, List.nil_append, nI_ltc, nI_lec, nI_eqc, nI_ne5, n5_ne, n5_lt, bI_0, bI_1, nI_add, pk_mul, if_pos, if_neg, ite_not, if_true, if_false, not_true_eq_false, not_false_eq_true, true_and, false_and, and_true, and_false, Nat.reduceAdd, Nat.reduceMul, v5, v6]
def FI (mu : RV) (s x : Nat) (i : Nat) (f : Int32) : Prop := (∀ t, t < i → HC mu s x t → f = nI t) ∧ ((∀ t, t < i → ¬HC mu s x t) → f = -5)
theorem FI_n {mu : RV} {s x i : Nat} {f : Int32} (h : FI mu s x i f) (hc : ¬HC mu s x i) : FI mu s x (i + 1) f := by
  refine ⟨fun t ht hq => ?_, fun q => h.2 (fun t ht => q t (by omega))⟩
  by_cases e : t = i
  · subst e; exact absurd hq hc
  · exact h.1 t (by omega) hq
theorem FI_s {mu : RV} {p : Nat → Nat} (hR : Rel mu p) {s x i : Nat} (hs : s < 2) (hi : i < 36) (hc : HC mu s x i) : FI mu s x (i + 1) (nI i) := by
  refine ⟨fun t ht hq => ?_, fun q => absurd hc (q i (by omega))⟩
  rw [HC_one mu p hR hs (by omega) hi hq hc]
theorem adr_le {s : Nat} : 256 ≤ adr s ∧ adr s ≤ 4096 := by unfold adr; split <;> omega
end
