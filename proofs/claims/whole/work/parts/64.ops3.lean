/-! undo, save, restore -/
section
variable (d L : Nat) (mu : RV) (p : Nat → Nat)
theorem many_eq (h : Rel mu p) : cntP (fun j => ¬mu 106 (20 * j) = nI 0) 12 = cntP (fun j => ¬mu 2 j = nI 0) 12 := cnt_cong _ _ 12 (fun j hj => by rw [h.kind hj])
theorem op_undo (h : Rel mu p) : Pair (d + 2) L 92 [] 174 [] mu p := by
  obtain ⟨hp, ⟨c, hc, hc1, hc2, hcr⟩, hO0, hB0, hS, ht⟩ := h
  by_cases h0 : c = 0
  · subst h0
    have e := z_take0 d L mu p hc1
    refine ⟨-5, mu, p, mu, ?_, ?_, hp, ⟨0, hc, hc1, hc2, hcr⟩, hO0, hB0, hS, ht⟩
    · simp (disch := first | omega | assumption) only [h92_0, h92_1, h92_4, h92_5, h92_8, h92_11, Option.bind_some, Option.toList_some, Option.toList_none, List.cons_append, List.nil_append, nI_ltc, nI_lec, nI_eqc, nI_ne5, n5_ne, n5_lt, bI_0, bI_1, nI_add, pk_mul, if_pos, if_neg, ite_not, if_true, if_false, not_true_eq_false, not_false_eq_true, true_and, false_and, and_true, and_false, Nat.reduceAdd, Nat.reduceMul, e]
    · simp (disch := first | omega | assumption) only [h174_0, h174_1, h174_4, h174_7, h174_9, h174_10, h174_11, h174_12, h174_15, h174_16, h174_19, h174_20, h174_21, h174_24, h174_25, h174_26, h174_29, h174_30, h174_33, Option.bind_some, Option.toList_some, Option.toList_none, List.cons_append, List.nil_append, nI_ltc, nI_lec, nI_eqc, nI_ne5, n5_ne, n5_lt, bI_0, bI_1, nI_add, pk_mul, if_pos, if_neg, ite_not, if_true, if_false, not_true_eq_false, not_false_eq_true, true_and, false_and, and_true, and_false, Nat.reduceAdd, Nat.reduceMul, hc2]
  · obtain ⟨k, rfl⟩ : ∃ k, c = k + 1 := ⟨c - 1, by omega⟩
    obtain ⟨mu1, e, e1, e2, e3⟩ := z_take d L mu p hp k (by omega) hc1
    have g1 : mu1 105 1 = nI (k + 1) := by rw [e3 105 (by omega) (by omega)]; exact hc2
    have g2 : cpB mu1 (k + 1) 0 241 105 1 = nI (k + 1) := by rw [cpB_o (by omega)]; exact g1
    have g3 : u2 (cpB mu1 (k + 1) 0 241) 105 1 (nI k) 105 1 = nI k := u2_s _ _ _ _
    have g4 : nI (k + 1) - nI 1 = nI k := by rw [nI_sub (by omega)]; rfl
    have hm := m_copies (d + 1) L mu1 p (k + 1) 0 (by omega) (by omega) (by omega)
    refine ⟨nI k, mu1, p, u2 (cpB mu1 (k + 1) 0 241) 105 1 (nI k), ?_, ?_, ?_⟩
    · simp (disch := first | omega | assumption) only [h92_0, h92_1, h92_4, h92_5, h92_8, h92_11, Option.bind_some, Option.toList_some, Option.toList_none, List.cons_append, List.nil_append, nI_ltc, nI_lec, nI_eqc, nI_ne5, n5_ne, n5_lt, bI_0, bI_1, nI_add, pk_mul, if_pos, if_neg, ite_not, if_true, if_false, not_true_eq_false, not_false_eq_true, true_and, false_and, and_true, and_false, Nat.reduceAdd, Nat.reduceMul, e]
    · simp (disch := first | omega | assumption) only [h174_0, h174_1, h174_4, h174_7, h174_9, h174_10, h174_11, h174_12, h174_15, h174_16, h174_19, h174_20, h174_21, h174_24, h174_25, h174_26, h174_29, h174_30, h174_33, Option.bind_some, Option.toList_some, Option.toList_none, List.cons_append, List.nil_append, nI_ltc, nI_lec, nI_eqc, nI_ne5, n5_ne, n5_lt, bI_0, bI_1, nI_add, pk_mul, if_pos, if_neg, ite_not, if_true, if_false, not_true_eq_false, not_false_eq_true, true_and, false_and, and_true, and_false, Nat.reduceAdd, Nat.reduceMul, g1, hm, g2, g3, g4]
    · have f : ∀ a, ¬a = 27 → (a < 1 ∨ 13 < a) → ¬a = 105 → ¬a = 106 → u2 (cpB mu1 (k + 1) 0 241) 105 1 (nI k) a = mu a := fun a h1 h2 h3 h4 => by
        rw [u2_row h3, ← e3 a h1 h2]
        funext i
        exact cpB_o (Or.inl h4)
      have f1 : ∀ a, a ≤ 80 → u2 (cpB mu1 (k + 1) 0 241) 105 1 (nI k) a = mu1 a := fun a h1 => by
        rw [u2_row (by omega)]
        funext i
        exact cpB_o (by omega)
      have f2 : ∀ t, 241 ≤ t → u2 (cpB mu1 (k + 1) 0 241) 105 1 (nI k) 106 t = mu 106 t := fun t h1 => by
        rw [u2_o _ _ (by omega), cpB_o (by omega), e3 106 (by omega) (by omega)]
      have f3 : ∀ t, t < 241 → u2 (cpB mu1 (k + 1) 0 241) 105 1 (nI k) 106 t = mu 106 (241 * (k + 1) + t) := fun t h1 => by
        have := cpB_i (mu := mu1) (f := k + 1) (t := 0) h1
        rw [Nat.mul_zero, Nat.zero_add] at this
        rw [u2_o _ _ (by omega), this, e3 106 (by omega) (by omega)]
      have r1 : rk (u2 (cpB mu1 (k + 1) 0 241) 105 1 (nI k)) 1 = rk mu (p k) := by
        rw [← e2]
        exact rk_cong (fun a h1 h2 => f1 a (by omega))
      obtain ⟨t, t0, t1, t2, t3⟩ := ht
      refine ⟨hp, ⟨k, by omega, ?_, g3, fun i hi => ?_⟩, ?_, ?_, ?_, t, t0, ?_, ?_, ?_⟩
      · rw [f1 27 (by omega)]; exact e1
      · have : rk (u2 (cpB mu1 (k + 1) 0 241) 105 1 (nI k)) (p i) = rk mu (p i) := rk_cong (fun a h1 h2 => by
          have hi4 : i < 4 := by omega
          exact f a (by rcases hp.1 i hi4 with q | q | q | q <;> omega) (by rcases hp.1 i hi4 with q | q | q | q <;> omega) (by rcases hp.1 i hi4 with q | q | q | q <;> omega) (by rcases hp.1 i hi4 with q | q | q | q <;> omega))
        rw [this]
        exact ⟨(hcr i (by omega)).1, RelB_cong (hcr i (by omega)).2 (fun t ht => f2 _ (by omega))⟩
      · rw [r1]; exact (hcr k (by omega)).1
      · rw [r1]; exact RelB_cong (hcr k (by omega)).2 (fun t ht => f3 t ht)
      · have : rk (u2 (cpB mu1 (k + 1) 0 241) 105 1 (nI k)) 14 = rk mu 14 := rk_cong (fun a h1 h2 => f a (by omega) (by omega) (by omega) (by omega))
        rw [f 0 (by omega) (by omega) (by omega) (by omega), this, u2_o _ _ (by omega), cpB_o (by omega), e3 105 (by omega) (by omega)]
        rcases hS with q | ⟨q1, q2, q3, q4⟩
        · exact Or.inl q
        · exact Or.inr ⟨q1, q2, q3, RelB_cong q4 (fun t ht => f2 _ (by omega))⟩
      · rw [f 0 (by omega) (by omega) (by omega) (by omega)]; exact t1
      · rw [u2_o _ _ (by omega), cpB_o (by omega), e3 105 (by omega) (by omega)]; exact t2
      · rw [f 104 (by omega) (by omega) (by omega) (by omega), f 107 (by omega) (by omega) (by omega) (by omega)]; exact t3
theorem op_save (h : Rel mu p) : Pair (d + 3) L 94 [] 175 [] mu p := by
  have hme := many_eq mu p h
  have hh := h
  obtain ⟨hp, ⟨c, hc, hc1, hc2, hcr⟩, hO0, hB0, hS, t, t0, t1, t2, t3⟩ := h
  obtain ⟨mu1, e, e1, e2⟩ := z_copyFrom (d + 2) L mu p 14 1 (Or.inr (Or.inl rfl)) (Or.inl rfl) (by omega)
  have f1 : ∀ a, (a < 14 ∨ 26 < a) → ¬a = 0 → u2 mu1 0 2 (nI 1) a = mu a := fun a h1 h2 => by rw [u2_row h2, e2 a (by omega)]
  have g1 : cntP (fun j => ¬u2 mu1 0 2 (nI 1) 2 j = nI 0) 12 = cntP (fun j => ¬mu 2 j = nI 0) 12 := by rw [f1 2 (by omega) (by omega)]
  have hcp := m_copies (d + 2) L (u2 mu1 0 2 (nI 1)) p 0 5 (by omega) (by omega) (by omega)
  have g2 : cntP (fun j => ¬u2 (cpB (u2 mu1 0 2 (nI 1)) 0 5 241) 105 2 (nI 1) 106 (20 * j) = nI 0) 12 = cntP (fun j => ¬mu 2 j = nI 0) 12 := by
    rw [← hme]
    exact cnt_cong _ _ 12 (fun j hj => by rw [u2_o _ _ (by omega), cpB_o (by omega), f1 106 (by omega) (by omega)])
  refine ⟨nI (cntP (fun j => ¬mu 2 j = nI 0) 12), u2 mu1 0 2 (nI 1), p, u2 (cpB (u2 mu1 0 2 (nI 1)) 0 5 241) 105 2 (nI 1), ?_, ?_, ?_⟩
  · simp (disch := first | omega | assumption) only [h94_0, h94_1, h94_4, h94_5, h94_8, h94_11, h94_12, h94_13_0, h94_13_1, h94_16, h94_17, h94_20, h94_23, Option.bind_some, Option.toList_some, Option.toList_none, List.cons_append, List.nil_append, nI_ltc, nI_lec, nI_eqc, nI_ne5, n5_ne, n5_lt, bI_0, bI_1, nI_add, pk_mul, if_pos, if_neg, ite_not, if_true, if_false, not_true_eq_false, not_false_eq_true, true_and, false_and, and_true, and_false, Nat.reduceAdd, Nat.reduceMul, e, z_countDevices, g1]
  · simp (disch := first | omega | assumption) only [h175_0, h175_1, h175_2, h175_3, h175_6, h175_7, h175_8_0, h175_8_1, h175_11, h175_12, h175_15, Option.bind_some, Option.toList_some, Option.toList_none, List.cons_append, List.nil_append, nI_ltc, nI_lec, nI_eqc, nI_ne5, n5_ne, n5_lt, bI_0, bI_1, nI_add, pk_mul, if_pos, if_neg, ite_not, if_true, if_false, not_true_eq_false, not_false_eq_true, true_and, false_and, and_true, and_false, Nat.reduceAdd, Nat.reduceMul, hcp, m_many, g2]
  · have f : ∀ a, ¬a = 105 → ¬a = 106 → u2 (cpB (u2 mu1 0 2 (nI 1)) 0 5 241) 105 2 (nI 1) a = u2 mu1 0 2 (nI 1) a := fun a h1 h2 => by
      rw [u2_row h1]
      funext i
      exact cpB_o (Or.inl h2)
    have f2 : ∀ t, t < 1205 → u2 (cpB (u2 mu1 0 2 (nI 1)) 0 5 241) 105 2 (nI 1) 106 t = mu 106 t := fun t ht => by
      rw [u2_o _ _ (by omega), cpB_o (by omega), f1 106 (by omega) (by omega)]
    have rks : ∀ r, r = 1 ∨ 29 ≤ r → r + 12 ≤ 80 → rk (u2 (cpB (u2 mu1 0 2 (nI 1)) 0 5 241) 105 2 (nI 1)) r = rk mu r := fun r hr hr2 => rk_cong (fun a h1 h2 => by rw [f a (by omega) (by omega), f1 a (by omega) (by omega)])
    refine ⟨hp, ⟨c, hc, ?_, ?_, fun i hi => ?_⟩, ?_, ?_, Or.inr ⟨?_, u2_s _ _ _ _, ?_, ?_⟩, t, t0, ?_, ?_, ?_⟩
    · rw [f 27 (by omega) (by omega), f1 27 (by omega) (by omega)]; exact hc1
    · rw [u2_o _ _ (by omega), cpB_o (by omega), f1 105 (by omega) (by omega)]; exact hc2
    · rw [rks (p i) (by rcases hp.1 i (by omega) with q | q | q | q <;> omega) (by rcases hp.1 i (by omega) with q | q | q | q <;> omega)]
      exact ⟨(hcr i hi).1, RelB_cong (hcr i hi).2 (fun t ht => f2 _ (by omega))⟩
    · rw [rks 1 (by omega) (by omega)]; exact hO0
    · rw [rks 1 (by omega) (by omega)]; exact RelB_cong hB0 (fun t ht => f2 _ (by omega))
    · rw [f 0 (by omega) (by omega)]; exact u2_s _ _ _ _
    · have : rk (u2 (cpB (u2 mu1 0 2 (nI 1)) 0 5 241) 105 2 (nI 1)) 14 = rk mu 1 := by
        rw [← e1]
        exact rk_cong (fun a h1 h2 => by rw [f a (by omega) (by omega), u2_row (by omega)])
      rw [this]; exact hO0
    · have : rk (u2 (cpB (u2 mu1 0 2 (nI 1)) 0 5 241) 105 2 (nI 1)) 14 = rk mu 1 := by
        rw [← e1]
        exact rk_cong (fun a h1 h2 => by rw [f a (by omega) (by omega), u2_row (by omega)])
      rw [this]
      refine RelB_cong hB0 (fun t ht => ?_)
      show u2 (cpB (u2 mu1 0 2 (nI 1)) 0 5 241) 105 2 (nI 1) 106 (241 * 5 + t) = mu 106 t
      rw [u2_o _ _ (by omega), cpB_i ht, f1 106 (by omega) (by omega), Nat.mul_zero, Nat.zero_add]
    · rw [f 0 (by omega) (by omega), u2_o _ _ (by omega), e2 0 (by omega)]; exact t1
    · rw [u2_o _ _ (by omega), cpB_o (by omega), f1 105 (by omega) (by omega)]; exact t2
    · rw [f 104 (by omega) (by omega), f1 104 (by omega) (by omega), f 107 (by omega) (by omega), f1 107 (by omega) (by omega)]; exact t3
theorem op_restore (h : Rel mu p) : Pair (d + 3) L 95 [] 176 [] mu p := by
  rcases h.2.2.2.2.1 with ⟨s1, s2⟩ | ⟨s1, s2, s3, s4⟩
  · refine ⟨-4, mu, p, mu, ?_, ?_, h⟩
    · simp (disch := first | omega | assumption) only [h95_0, h95_1, h95_4, h95_7, h95_9, h95_10, h95_11, h95_14, h95_15, h95_18, h95_21, h95_22, h95_25, h95_26, h95_29, h95_32, h95_33, h95_36, h95_39, Option.bind_some, Option.toList_some, Option.toList_none, List.cons_append, List.nil_append, nI_ltc, nI_lec, nI_eqc, nI_ne5, n5_ne, n5_lt, bI_0, bI_1, nI_add, pk_mul, if_pos, if_neg, ite_not, if_true, if_false, not_true_eq_false, not_false_eq_true, true_and, false_and, and_true, and_false, Nat.reduceAdd, Nat.reduceMul, s1]
    · simp (disch := first | omega | assumption) only [h176_0, h176_1, h176_4, h176_7, h176_9, h176_10, h176_11, h176_14, h176_15, h176_16, h176_17, h176_20, h176_21, h176_24, Option.bind_some, Option.toList_some, Option.toList_none, List.cons_append, List.nil_append, nI_ltc, nI_lec, nI_eqc, nI_ne5, n5_ne, n5_lt, bI_0, bI_1, nI_add, pk_mul, if_pos, if_neg, ite_not, if_true, if_false, not_true_eq_false, not_false_eq_true, true_and, false_and, and_true, and_false, Nat.reduceAdd, Nat.reduceMul, s2]
  · obtain ⟨mu1, p1, e1, hr⟩ := z_rec (d + 1) L mu p h
    obtain ⟨mu2, e, r1, r2⟩ := z_copyFrom (d + 2) L mu1 p1 1 14 (Or.inl rfl) (Or.inr (Or.inl rfl)) (by omega)
    obtain ⟨mu3, e2, hm⟩ := rec_m (d + 1) L h hr (mu2 := mu2) (fun a ha => r2 a (by omega))
    have eR : rk mu2 1 = rk mu 14 := by
      rw [r1]
      exact rk_cong (fun a h1 h2 => hr.2.1 a (by omega))
    have hcp := m_copies (d + 2) L mu3 p1 5 0 (by omega) (by omega) (by omega)
    have g1 : mu2 105 2 = nI 1 := by rw [r2 105 (by omega), hr.2.1 105 (by omega)]; exact s2
    have b0 : ∀ t, t < 241 → cpB mu3 5 0 241 106 t = mu 106 (1205 + t) := fun t ht => by
      have := cpB_i (mu := mu3) (f := 5) (t := 0) ht
      rw [Nat.mul_zero, Nat.zero_add] at this
      rw [this]
      obtain ⟨-, -, -, m, m', hm, hm1, hm2, hm3, hm4, hm5, hm6, hm7⟩ := hm
      show mu3 106 (1205 + t) = _
      rw [hm6 _ (by omega), r2 106 (by omega), hr.2.1 106 (by omega)]
    have g2 : cntP (fun j => ¬cpB mu3 5 0 241 106 (20 * j) = nI 0) 12 = cntP (fun j => ¬mu2 2 j = nI 0) 12 := cnt_cong _ _ 12 (fun j hj => by
      have q : mu 106 (1205 + 20 * j) = rk mu 14 2 j := (s4.dv hj).1
      rw [b0 _ (by omega), q, ← eR, rk_2 hj])
    refine ⟨nI (cntP (fun j => ¬mu2 2 j = nI 0) 12), mu2, p1, cpB mu3 5 0 241, ?_, ?_, ?_⟩
    · simp (disch := first | omega | assumption) only [h95_0, h95_1, h95_4, h95_7, h95_9, h95_10, h95_11, h95_14, h95_15, h95_18, h95_21, h95_22, h95_25, h95_26, h95_29, h95_32, h95_33, h95_36, h95_39, Option.bind_some, Option.toList_some, Option.toList_none, List.cons_append, List.nil_append, nI_ltc, nI_lec, nI_eqc, nI_ne5, n5_ne, n5_lt, bI_0, bI_1, nI_add, pk_mul, if_pos, if_neg, ite_not, if_true, if_false, not_true_eq_false, not_false_eq_true, true_and, false_and, and_true, and_false, Nat.reduceAdd, Nat.reduceMul, s1, e1, e, z_countDevices]
    · simp (disch := first | omega | assumption) only [h176_0, h176_1, h176_4, h176_7, h176_9, h176_10, h176_11, h176_14, h176_15, h176_16, h176_17, h176_20, h176_21, h176_24, Option.bind_some, Option.toList_some, Option.toList_none, List.cons_append, List.nil_append, nI_ltc, nI_lec, nI_eqc, nI_ne5, n5_ne, n5_lt, bI_0, bI_1, nI_add, pk_mul, if_pos, if_neg, ite_not, if_true, if_false, not_true_eq_false, not_false_eq_true, true_and, false_and, and_true, and_false, Nat.reduceAdd, Nat.reduceMul, g1, e2, hcp, m_many, g2]
    · refine hm.fin (fun a ha => ?_) (fun i hi => cpB_o (by omega)) (fun t h1 h2 => cpB_o (by omega)) ?_ ?_
      · funext i
        exact cpB_o (by omega)
      · rw [eR]; exact s3
      · rw [eR]; exact RelB_cong s4 (fun t ht => b0 t ht)
end
