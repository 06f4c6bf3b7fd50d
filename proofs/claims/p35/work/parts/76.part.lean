/-- the part k of bus b covers n addresses from a -/
def CP (R : RV) (s b k a n : Nat) : Prop := ∃ j, j < 12 ∧ R 5 (b * 4 + k / 3) = nI j ∧ cov R s j (k % 3) a n
section
variable (d L : Nat) (mu : RV) (p : Nat → Nat)
theorem OK.T {R : RV} (h : OK R) : InvT R := h.1
theorem OK.W {R : RV} (h : OK R) {s : Nat} (hs : s < 2) : InvW R s := by
  obtain ⟨i1, i2, i3, i4, i5, i6, i7, i8⟩ := h
  rcases (show s = 0 ∨ s = 1 by omega) with rfl | rfl
  · exact i7
  · exact i8
theorem Rel.W (h : Rel mu p) {s : Nat} (hs : s < 2) : InvW (rk mu 1) s := h.2.2.1.W hs
theorem OK.rv {R : RV} (h : OK R) {j q : Nat} (hj : j < 12) (hq : q < 3) : R 8 (j * 3 + q) = -5 ∨ (R 2 j = nI 1 ∧ ∃ sp a n, sp < 2 ∧ a < 4096 ∧ n ≤ 1024 ∧ 0 < n ∧ R 6 (j * 3 + q) = nI sp ∧ R 8 (j * 3 + q) = nI a ∧ R 7 (j * 3 + q) = nI n) := by
  obtain ⟨i1, i2, i3, i4, i5, i6, i7, i8⟩ := h
  rcases i7.1 j q hj hq with g | ⟨a, ha, g⟩
  · exact Or.inl g
  · by_cases hk : R 2 j = nI 1
    · obtain ⟨sp, s1, s2, s3⟩ := i4 j q hj hq
      rcases s3 with ⟨-, s4⟩ | ⟨e, he, s4⟩
      · exact Or.inl s4
      · have := sz_lt he
        exact Or.inr ⟨hk, sp, a, _, s1, ha, this.1, this.2, s2, g, s4⟩
    · exact Or.inl (i2.1 j hj hk q hq).2
theorem OK.rvm {mu : RV} (h : OK (rk mu 1)) {j q : Nat} (hj : j < 12) (hq : q < 3) : mu 8 (j * 3 + q) = -5 ∨ (mu 2 j = nI 1 ∧ ∃ sp a n, sp < 2 ∧ a < 4096 ∧ n ≤ 1024 ∧ 0 < n ∧ mu 6 (j * 3 + q) = nI sp ∧ mu 8 (j * 3 + q) = nI a ∧ mu 7 (j * 3 + q) = nI n) := by
  have := h.rv hj hq
  rwa [rk_6 (by omega), rk_7 (by omega), rk_8 (by omega), rk_2 hj] at this
theorem OK.kinds {mu : RV} (h : OK (rk mu 1)) {j : Nat} (hj : j < 12) : mu 2 j = nI 0 ∨ mu 2 j = nI 1 ∨ mu 2 j = nI 2 := by
  rw [← rk_2 (mu := mu) hj]
  exact h.T.1 j hj
theorem z_part (h : OK (rk mu 1)) (b s k : Nat) (hb : b < 13) (hs : s < 2) (hk : k < 12) :
    (∃ z : Int32, (∀ w w', zsem (d + 1) 57 0 [.inr (.inl (some 1)), .inl (nI b), .inl (nI s), .inl (nI k), w, w'] [] (HH L mu p) = some (some (.inl (-5)), HH L mu p)) ∧ (∀ w, zsem (d + 1) 58 0 [.inr (.inl (some 1)), .inl (nI b), .inl (nI s), .inl (nI k), w] [] (HH L mu p) = some (some (.inl z), HH L mu p)) ∧ ∀ a n, ¬CP (rk mu 1) s b k a n) ∨
    (∃ a n, (∀ w w', zsem (d + 1) 57 0 [.inr (.inl (some 1)), .inl (nI b), .inl (nI s), .inl (nI k), w, w'] [] (HH L mu p) = some (some (.inl (nI a)), HH L mu p)) ∧ (∀ w, zsem (d + 1) 58 0 [.inr (.inl (some 1)), .inl (nI b), .inl (nI s), .inl (nI k), w] [] (HH L mu p) = some (some (.inl (nI n)), HH L mu p)) ∧ CP (rk mu 1) s b k a n) := by
  have ek : k = k / 3 * 3 + k % 3 := by omega
  have ht : k / 3 < 4 := by omega
  have hq : k % 3 < 3 := by omega
  rcases h.T.2.2.1 b (k / 3) hb ht with hv | ⟨j, hj, hv, hkj, -, -⟩
  · have hv' := hv
    rw [rk_5 (by omega)] at hv'
    refine Or.inl ⟨nI 0, fun w w' => ?_, fun w => ?_, fun a n ⟨j, g1, g2, g3⟩ => ?_⟩
    · have := z_cst_n d L mu p b s (k / 3) (k % 3) hb ht hq hv' w w'
      rwa [← ek] at this
    · have := z_csz_n d L mu p b s (k / 3) (k % 3) hb ht hq hv' w
      rwa [← ek] at this
    · rw [hv, n5_ne (by omega)] at g2; exact g2
  · have hv' := hv
    rw [rk_5 (by omega)] at hv'
    have uniq : ∀ a n, CP (rk mu 1) s b k a n → cov (rk mu 1) s j (k % 3) a n := fun a n ⟨j', g1, g2, g3⟩ => by
      rw [hv, nI_eqc (by omega) (by omega)] at g2
      subst g2
      exact g3
    have hkind : mu 2 j = nI 1 ∨ mu 2 j = nI 2 := by
      have := h.kinds hj
      rw [rk_2 hj] at hkj
      exact this.resolve_left hkj
    rcases hkind with h2 | h2
    · have h2' : rk mu 1 2 j = nI 1 := by rw [rk_2 hj]; exact h2
      have cs := fun w w' => z_cst_c d L mu p b s (k / 3) (k % 3) j hb ht hq hj hv' h2 w w'
      have cz := fun w => z_csz_c d L mu p b s (k / 3) (k % 3) j hb ht hq hj hv' h2 w
      rw [← ek] at cs cz
      by_cases h6 : mu 6 (j * 3 + k % 3) = nI s
      · rw [if_pos h6] at cs
        rcases h.rvm hj hq with g | ⟨-, sp, a, n, v1, v2, v3, v4, v5, v6, v7⟩
        · rw [g] at cs
          refine Or.inl ⟨_, cs, cz, fun a n hc => ?_⟩
          obtain ⟨c1, c2, c3⟩ := uniq a n hc
          rcases c3 with ⟨-, -, c, -⟩ | ⟨-, c, -⟩
          · rw [rk_8 (by omega), g, n5_ne (by omega)] at c; exact c
          · rw [h2'] at c; exact absurd c (by decide)
        · rw [v6] at cs
          rw [v7] at cz
          exact Or.inr ⟨a, n, cs, cz, j, hj, hv, v2, by omega, Or.inl ⟨h2', by rw [rk_6 (by omega)]; exact h6, by rw [rk_8 (by omega)]; exact v6, by rw [rk_7 (by omega)]; exact v7⟩⟩
      · rw [if_neg h6] at cs
        refine Or.inl ⟨_, cs, cz, fun a n hc => ?_⟩
        obtain ⟨c1, c2, c3⟩ := uniq a n hc
        rcases c3 with ⟨-, c, -⟩ | ⟨-, c, -⟩
        · rw [rk_6 (by omega)] at c; exact h6 c
        · rw [h2'] at c; exact absurd c (by decide)
    · have h2' : rk mu 1 2 j = nI 2 := by rw [rk_2 hj]; exact h2
      have cs := fun w w' => z_cst_b d L mu p b s (k / 3) (k % 3) j hb hs ht hq hj hv' h2 w w'
      have cz := fun w => z_csz_b d L mu p b s (k / 3) (k % 3) j hb hs ht hq hj hv' h2 w
      rw [← ek] at cs cz
      by_cases h0 : k % 3 = 0
      · rw [if_pos h0] at cs
        rcases (h.W hs).2.1 j hj with ⟨g1, g2⟩ | ⟨a, n, g1, g2, g3, g4⟩
        · have g1' := g1
          rw [rk_10 (by omega)] at g1
          rw [g1] at cs
          refine Or.inl ⟨_, cs, cz, fun a n hc => ?_⟩
          obtain ⟨c1, c2, c3⟩ := uniq a n hc
          rcases c3 with ⟨c, -⟩ | ⟨-, -, c, -⟩
          · rw [h2'] at c; exact absurd c (by decide)
          · rw [g1', n5_ne (by omega)] at c; exact c
        · have g3' := g3
          have g4' := g4
          rw [rk_10 (by omega)] at g3
          rw [rk_11 (by omega)] at g4
          rw [g3] at cs
          rw [g4] at cz
          exact Or.inr ⟨a, n, cs, cz, j, hj, hv, g1, g2, Or.inr ⟨h0, h2', g3', g4'⟩⟩
      · rw [if_neg h0] at cs
        refine Or.inl ⟨_, cs, cz, fun a n hc => ?_⟩
        obtain ⟨c1, c2, c3⟩ := uniq a n hc
        rcases c3 with ⟨c, -⟩ | ⟨c, -⟩
        · rw [h2'] at c; exact absurd c (by decide)
        · exact h0 c
theorem z_eocL (h : OK (rk mu 1)) (b s st en : Nat) (hb : b < 13) (hs : s < 2) (hst : st < 100000) (hen : en < 100000) : ∀ m k (w w' : AV), k + m = 12 →
    (∃ i a n, i < 12 ∧ CP (rk mu 1) s b i a n ∧ a < en ∧ st < a + n ∧ zsem (d + 2) 69 3 [.inr (.inl (some 1)), .inl (nI b), .inl (nI s), .inl (nI st), .inl (nI en), .inl (nI k), w, w'] [] (HH L mu p) = some (some (.inl (nI (a + n))), HH L mu p)) ∨
    ((∀ i a n, k ≤ i → i < 12 → CP (rk mu 1) s b i a n → ¬(a < en ∧ st < a + n)) ∧ zsem (d + 2) 69 3 [.inr (.inl (some 1)), .inl (nI b), .inl (nI s), .inl (nI st), .inl (nI en), .inl (nI k), w, w'] [] (HH L mu p) = some (some (.inl (-5)), HH L mu p)) := by
  intro m
  induction m with
  | zero =>
    intro k w w' hk
    have : k = 12 := by omega
    subst this
    refine Or.inr ⟨fun i a n h1 h2 => by omega, ?_⟩
    rw [h69_3]
    simp (disch := first | omega | assumption) only [h69_0, h69_1, h69_5, h69_7, h69_10, h69_11, h69_12, h69_13, h69_15, h69_18, h69_20, h69_22, h69_23, h69_24, h69_25, h69_27, h69_30, h69_31, h69_33, h69_35, h69_37, h69_40, h69_42, h69_44, h69_47, h69_49, h69_50, h69_53, h69_55, h69_56, h69_59, h69_62, h69_64, Option.bind_some, Option.toList_some, Option.toList_none, List.cons_append, List.nil_append, nI_ltc, nI_lec, nI_eqc, nI_ne5, n5_ne, n5_lt, bI_0, bI_1, nI_add, pk_mul, if_pos, if_neg, ite_not, if_true, if_false, not_true_eq_false, not_false_eq_true, true_and, false_and, and_true, and_false, Nat.reduceAdd, Nat.reduceMul]
  | succ m ih =>
    intro k w w' hk
    rcases z_part d L mu p h b s k hb hs (by omega) with ⟨z, e1, e2, hno⟩ | ⟨a, n, e1, e2, hc⟩
    · have e : zsem (d + 2) 69 3 [.inr (.inl (some 1)), .inl (nI b), .inl (nI s), .inl (nI st), .inl (nI en), .inl (nI k), w, w'] [] (HH L mu p) = zsem (d + 2) 69 3 [.inr (.inl (some 1)), .inl (nI b), .inl (nI s), .inl (nI st), .inl (nI en), .inl (nI (k + 1)), .inl (-5), .inl (-5 + z)] [] (HH L mu p) := by
        rw [h69_3]
        simp (disch := first | omega | assumption) only [h69_0, h69_1, h69_5, h69_7, h69_10, h69_11, h69_12, h69_13, h69_15, h69_18, h69_20, h69_22, h69_23, h69_24, h69_25, h69_27, h69_30, h69_31, h69_33, h69_35, h69_37, h69_40, h69_42, h69_44, h69_47, h69_49, h69_50, h69_53, h69_55, h69_56, h69_59, h69_62, h69_64, Option.bind_some, Option.toList_some, Option.toList_none, List.cons_append, List.nil_append, nI_ltc, nI_lec, nI_eqc, nI_ne5, n5_ne, n5_lt, bI_0, bI_1, nI_add, pk_mul, if_pos, if_neg, ite_not, if_true, if_false, not_true_eq_false, not_false_eq_true, true_and, false_and, and_true, and_false, Nat.reduceAdd, Nat.reduceMul, e1, e2]
      rw [e]
      rcases ih (k + 1) _ _ (by omega) with q | ⟨q1, q2⟩
      · exact Or.inl q
      · refine Or.inr ⟨fun i a n h1 h2 hc => ?_, q2⟩
        by_cases hi : i = k
        · subst hi; exact absurd hc (hno a n)
        · exact q1 i a n (by omega) h2 hc
    · have han : a < 4096 ∧ n ≤ 4096 := by
        obtain ⟨j, -, -, c1, c2, -⟩ := hc
        exact ⟨c1, c2⟩
      have un : ∀ a' n', CP (rk mu 1) s b k a' n' → a' = a ∧ n' = n := fun a' n' hc' => by
        obtain ⟨j, g1, g2, c1, c2, c3⟩ := hc
        obtain ⟨j', g1', g2', c1', c2', c3'⟩ := hc'
        rw [g2, nI_eqc (by omega) (by omega)] at g2'
        subst g2'
        rcases c3 with ⟨x1, x2, x3, x4⟩ | ⟨x1, x2, x3, x4⟩ <;> rcases c3' with ⟨y1, y2, y3, y4⟩ | ⟨y1, y2, y3, y4⟩
        · rw [x3, nI_eqc (by omega) (by omega)] at y3
          rw [x4, nI_eqc (by omega) (by omega)] at y4
          exact ⟨y3.symm, y4.symm⟩
        · rw [x1] at y2; exact absurd y2 (by decide)
        · rw [x2] at y1; exact absurd y1 (by decide)
        · rw [x3, nI_eqc (by omega) (by omega)] at y3
          rw [x4, nI_eqc (by omega) (by omega)] at y4
          exact ⟨y3.symm, y4.symm⟩
      by_cases hh : a < en ∧ st < a + n
      · obtain ⟨hh1, hh2⟩ := hh
        refine Or.inl ⟨k, a, n, by omega, hc, hh1, hh2, ?_⟩
        rw [h69_3]
        simp (disch := first | omega | assumption) only [h69_0, h69_1, h69_5, h69_7, h69_10, h69_11, h69_12, h69_13, h69_15, h69_18, h69_20, h69_22, h69_23, h69_24, h69_25, h69_27, h69_30, h69_31, h69_33, h69_35, h69_37, h69_40, h69_42, h69_44, h69_47, h69_49, h69_50, h69_53, h69_55, h69_56, h69_59, h69_62, h69_64, Option.bind_some, Option.toList_some, Option.toList_none, List.cons_append, List.nil_append, nI_ltc, nI_lec, nI_eqc, nI_ne5, n5_ne, n5_lt, bI_0, bI_1, nI_add, pk_mul, if_pos, if_neg, ite_not, if_true, if_false, not_true_eq_false, not_false_eq_true, true_and, false_and, and_true, and_false, Nat.reduceAdd, Nat.reduceMul, e1, e2]
      · have e : zsem (d + 2) 69 3 [.inr (.inl (some 1)), .inl (nI b), .inl (nI s), .inl (nI st), .inl (nI en), .inl (nI k), w, w'] [] (HH L mu p) = zsem (d + 2) 69 3 [.inr (.inl (some 1)), .inl (nI b), .inl (nI s), .inl (nI st), .inl (nI en), .inl (nI (k + 1)), .inl (nI a), .inl (nI (a + n))] [] (HH L mu p) := by
          rw [h69_3]
          by_cases h1 : a < en
          · have h2 : ¬st < a + n := fun q => hh ⟨h1, q⟩
            simp (disch := first | omega | assumption) only [h69_0, h69_1, h69_5, h69_7, h69_10, h69_11, h69_12, h69_13, h69_15, h69_18, h69_20, h69_22, h69_23, h69_24, h69_25, h69_27, h69_30, h69_31, h69_33, h69_35, h69_37, h69_40, h69_42, h69_44, h69_47, h69_49, h69_50, h69_53, h69_55, h69_56, h69_59, h69_62, h69_64, Option.bind_some, Option.toList_some, Option.toList_none, List.cons_append, List.nil_append, nI_ltc, nI_lec, nI_eqc, nI_ne5, n5_ne, n5_lt, bI_0, bI_1, nI_add, pk_mul, if_pos, if_neg, ite_not, if_true, if_false, not_true_eq_false, not_false_eq_true, true_and, false_and, and_true, and_false, Nat.reduceAdd, Nat.reduceMul, e1, e2]
          · simp (disch := first | omega | assumption) only [h69_0, h69_1, h69_5, h69_7, h69_10, h69_11, h69_12, h69_13, h69_15, h69_18, h69_20, h69_22, h69_23, h69_24, h69_25, h69_27, h69_30, h69_31, h69_33, h69_35, h69_37, h69_40, h69_42, h69_44, h69_47, h69_49, h69_50, h69_53, h69_55, h69_56, h69_59, h69_62, h69_64, Option.bind_some, Option.toList_some, Option.toList_none, List.cons_append, List.nil_append, nI_ltc, nI_lec, nI_eqc, nI_ne5, n5_ne, n5_lt, bI_0, bI_1, nI_add, pk_mul, if_pos, if_neg, ite_not, if_true, if_false, not_true_eq_false, not_false_eq_true, true_and, false_and, and_true, and_false, Nat.reduceAdd, Nat.reduceMul, e1, e2]
        rw [e]
        rcases ih (k + 1) _ _ (by omega) with q | ⟨q1, q2⟩
        · exact Or.inl q
        · refine Or.inr ⟨fun i a' n' h1 h2 hc' => ?_, q2⟩
          by_cases hi : i = k
          · subst hi
            obtain ⟨r1, r2⟩ := un a' n' hc'
            rw [r1, r2]; exact hh
          · exact q1 i a' n' (by omega) h2 hc'
end
