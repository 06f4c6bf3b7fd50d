/-! unplaced, text, gap -/
section
variable (d L : Nat) (mu : RV) (p : Nat → Nat)
theorem Rel.A : Rel mu p → InvA (rk mu 1) := fun h => h.2.2.1.2.1
theorem op_unplaced (h : Rel mu p) : Pair (d + 3) L 107 [] 154 [.inr none, .inr none, .inr none] mu p := by
  have e : cntP (fun i => nI 0 < mu 7 i ∧ mu 8 i = -5) 36 = cntP (fun i => upB mu i = true) 36 := cnt_cong _ _ 36 (fun i hi => by
    have hi3 : i = 3 * (i / 3) + i % 3 := by omega
    have hu := up_iff mu (i / 3) (i % 3) (by omega)
    rw [← hi3] at hu
    rw [hu]
    have hj : i / 3 < 12 := by omega
    have e3 : i / 3 * 3 + i % 3 = i := by omega
    rw [h.kind hj]
    by_cases hk : mu 2 (i / 3) = nI 1
    · obtain ⟨a1, a2, -⟩ := h.reg hj (k1_ne0 hk) (q := i % 3) (by omega)
      rw [e3] at a1 a2
      rw [a1, a2]
      exact ⟨fun q => ⟨hk, q⟩, fun q => q.2⟩
    · have a := (h.A.1 (i / 3) hj (by rw [rk_2 hj]; exact hk) (i % 3) (by omega)).1
      rw [e3, rk_7 hi] at a
      rw [a]
      exact ⟨fun q => absurd q.1 (by decide), fun q => absurd q.1 hk⟩)
  refine ⟨nI (cntP (fun i => upB mu i = true) 36), mu, p, mu, ?_, ?_, h⟩
  · simp (disch := first | omega | assumption) only [h107_0, h107_1, h107_4, h107_7, Option.bind_some, Option.toList_some, Option.toList_none, List.cons_append, List.nil_append, nI_ltc, nI_lec, nI_eqc, nI_ne5, n5_ne, n5_lt, bI_0, bI_1, nI_add, pk_mul, if_pos, if_neg, ite_not, if_true, if_false, not_true_eq_false, not_false_eq_true, true_and, false_and, and_true, and_false, Nat.reduceAdd, Nat.reduceMul, z_countUnplaced, e]
  · exact m_unplaced d L mu p
theorem chr_ok (x : Nat) (hx : x < 128) : vp_nar .char ((nI x).toUInt32 % 65536).toInt32 = nI x :=
  eq_of_beq (bal_ok (fun x => vp_nar .char ((nI x).toUInt32 % 65536).toInt32 == nI x) 7 0 (by decide +kernel) x (by omega) (by omega))
/-- changes outside of the racks and counts -/
theorem Rel_out {mu mu' : RV} {p : Nat → Nat} (h : Rel mu p) (h1 : ∀ a, 1 ≤ a → a ≤ 80 → mu' a = mu a) (h0 : mu' 0 2 = mu 0 2) (h2 : ∀ i, i = 1 ∨ i = 2 → mu' 105 i = mu 105 i) (h3 : ∀ t, t < 1446 → mu' 106 t = mu 106 t)
    (ht : ∃ t, t ≤ 80 ∧ mu' 0 7 = nI t ∧ mu' 105 4 = nI t ∧ ∀ i, i < t → ∃ x, 32 ≤ x ∧ x < 127 ∧ mu' 104 i = nI x ∧ mu' 107 i = nI x) : Rel mu' p := by
  obtain ⟨hp, ⟨c, hc, hc1, hc2, hcr⟩, hO0, hB0, hS, -⟩ := h
  have rks : ∀ r, 1 ≤ r → r + 12 ≤ 80 → rk mu' r = rk mu r := fun r hr1 hr => rk_cong (fun a ha hb => h1 a (by omega) (by omega))
  refine ⟨hp, ⟨c, hc, ?_, ?_, fun i hi => ?_⟩, ?_, ?_, ?_, ht⟩
  · rw [h1 27 (by omega) (by omega)]; exact hc1
  · rw [h2 1 (by omega)]; exact hc2
  · rw [rks (p i) (by rcases hp.1 i (by omega) with q | q | q | q <;> omega) (by rcases hp.1 i (by omega) with q | q | q | q <;> omega)]
    exact ⟨(hcr i hi).1, RelB_cong (hcr i hi).2 (fun t ht => h3 _ (by omega))⟩
  · rw [rks 1 (by omega) (by omega)]; exact hO0
  · rw [rks 1 (by omega) (by omega)]; exact RelB_cong hB0 (fun t ht => h3 _ (by omega))
  · rw [h0, h2 2 (by omega), rks 14 (by omega) (by omega)]
    rcases hS with q | ⟨q1, q2, q3, q4⟩
    · exact Or.inl q
    · exact Or.inr ⟨q1, q2, q3, RelB_cong q4 (fun t ht => h3 _ (by omega))⟩
theorem Rel.text : Rel mu p → ∃ t, t ≤ 80 ∧ mu 0 7 = nI t ∧ mu 105 4 = nI t ∧ ∀ i, i < t → ∃ x, 32 ≤ x ∧ x < 127 ∧ mu 104 i = nI x ∧ mu 107 i = nI x := fun h => h.2.2.2.2.2
theorem op_append (h : Rel mu p) (x : Int32) : Pair (d + 2) L 74 [.inl x] 165 [.inl x] mu p := by
  have small : x < nI 32 ∨ nI 126 < x → Pair (d + 2) L 74 [.inl x] 165 [.inl x] mu p := by
    intro hx
    have e : ∀ A : AH, zsem (d + 1) 121 0 [.inl x, .inl (nI 32), .inl (nI 126)] [] (HH L mu p) = some (some (.inl (nI 0)), HH L mu p) := fun _ => by
      rw [m_in, bI_f (fun q => hx.elim q.1 q.2)]
    refine ⟨-2, mu, p, mu, ?_, ?_, h⟩
    · by_cases h1 : x < nI 32
      · simp (disch := first | omega | assumption) only [h74_0, h74_1, h74_3, h74_6, h74_7, h74_9, h74_12, h74_14, h74_15, h74_16, h74_19, h74_21, h74_24, h74_26, h74_27, h74_28, h74_31, h74_32, h74_35, h74_36, h74_37, h74_38, h74_39, h74_40, h74_43, h74_44, h74_45, h74_48, h74_49, h74_52, Option.bind_some, Option.toList_some, Option.toList_none, List.cons_append, List.nil_append, nI_ltc, nI_lec, nI_eqc, nI_ne5, n5_ne, n5_lt, bI_0, bI_1, nI_add, pk_mul, if_pos, if_neg, ite_not, if_true, if_false, not_true_eq_false, not_false_eq_true, true_and, false_and, and_true, and_false, Nat.reduceAdd, Nat.reduceMul, h1]
      · have h2 : ¬x ≤ nI 126 := by rw [Int32.not_le]; exact hx.resolve_left h1
        simp (disch := first | omega | assumption) only [h74_0, h74_1, h74_3, h74_6, h74_7, h74_9, h74_12, h74_14, h74_15, h74_16, h74_19, h74_21, h74_24, h74_26, h74_27, h74_28, h74_31, h74_32, h74_35, h74_36, h74_37, h74_38, h74_39, h74_40, h74_43, h74_44, h74_45, h74_48, h74_49, h74_52, Option.bind_some, Option.toList_some, Option.toList_none, List.cons_append, List.nil_append, nI_ltc, nI_lec, nI_eqc, nI_ne5, n5_ne, n5_lt, bI_0, bI_1, nI_add, pk_mul, if_pos, if_neg, ite_not, if_true, if_false, not_true_eq_false, not_false_eq_true, true_and, false_and, and_true, and_false, Nat.reduceAdd, Nat.reduceMul, h1, h2]
    · have e := e (HH L mu p)
      simp (disch := first | omega | assumption) only [h165_0, h165_1, h165_3, h165_5, h165_8, h165_11, h165_13, h165_14, h165_15, h165_18, h165_20, h165_23, h165_25, h165_26, h165_27, h165_30, h165_31, h165_34, h165_35, h165_36, h165_37, h165_38, h165_41, h165_42, h165_43, h165_46, h165_47, h165_50, Option.bind_some, Option.toList_some, Option.toList_none, List.cons_append, List.nil_append, nI_ltc, nI_lec, nI_eqc, nI_ne5, n5_ne, n5_lt, bI_0, bI_1, nI_add, pk_mul, if_pos, if_neg, ite_not, if_true, if_false, not_true_eq_false, not_false_eq_true, true_and, false_and, and_true, and_false, Nat.reduceAdd, Nat.reduceMul, e]
  rcases ixo x 127 (by omega) with ⟨c, hc, rfl⟩ | hx
  · by_cases h32 : c < 32
    · exact small (Or.inl (by rw [nI_ltc (by omega) (by omega)]; exact h32))
    · obtain ⟨t, ht, t1, t2, t3⟩ := h.text
      have e : ∀ mu, zsem (d + 1) 121 0 [.inl (nI c), .inl (nI 32), .inl (nI 126)] [] (HH L mu p) = some (some (.inl (nI 1)), HH L mu p) := fun mu => by
        rw [m_in, bI_t]
        rw [nI_ltc (by omega) (by omega), nI_ltc (by omega) (by omega)]
        omega
      by_cases h80 : t = 80
      · subst h80
        refine ⟨-3, mu, p, mu, ?_, ?_, h⟩
        · simp (disch := first | omega | assumption) only [h74_0, h74_1, h74_3, h74_6, h74_7, h74_9, h74_12, h74_14, h74_15, h74_16, h74_19, h74_21, h74_24, h74_26, h74_27, h74_28, h74_31, h74_32, h74_35, h74_36, h74_37, h74_38, h74_39, h74_40, h74_43, h74_44, h74_45, h74_48, h74_49, h74_52, Option.bind_some, Option.toList_some, Option.toList_none, List.cons_append, List.nil_append, nI_ltc, nI_lec, nI_eqc, nI_ne5, n5_ne, n5_lt, bI_0, bI_1, nI_add, pk_mul, if_pos, if_neg, ite_not, if_true, if_false, not_true_eq_false, not_false_eq_true, true_and, false_and, and_true, and_false, Nat.reduceAdd, Nat.reduceMul, t1]
        · simp (disch := first | omega | assumption) only [h165_0, h165_1, h165_3, h165_5, h165_8, h165_11, h165_13, h165_14, h165_15, h165_18, h165_20, h165_23, h165_25, h165_26, h165_27, h165_30, h165_31, h165_34, h165_35, h165_36, h165_37, h165_38, h165_41, h165_42, h165_43, h165_46, h165_47, h165_50, Option.bind_some, Option.toList_some, Option.toList_none, List.cons_append, List.nil_append, nI_ltc, nI_lec, nI_eqc, nI_ne5, n5_ne, n5_lt, bI_0, bI_1, nI_add, pk_mul, if_pos, if_neg, ite_not, if_true, if_false, not_true_eq_false, not_false_eq_true, true_and, false_and, and_true, and_false, Nat.reduceAdd, Nat.reduceMul, e, t2]
      · have g1 : u2 (u2 mu 104 t (nI c)) 0 7 (nI (t + 1)) 105 4 = nI t := by
          rw [u2_o _ _ (by omega), u2_o _ _ (by omega)]; exact t2
        have g2 : u2 mu 104 t (nI c) 0 7 = nI t := by rw [u2_o _ _ (by omega)]; exact t1
        have g3 : u2 (u2 mu 104 t (nI c)) 0 7 (nI (t + 1)) 0 7 = nI (t + 1) := u2_s _ _ _ _
        have g4 : u2 (u2 (u2 mu 104 t (nI c)) 0 7 (nI (t + 1))) 107 t (nI c) 105 4 = nI t := by rw [u2_o _ _ (by omega)]; exact g1
        have g5 : u2 (u2 (u2 (u2 mu 104 t (nI c)) 0 7 (nI (t + 1))) 107 t (nI c)) 105 4 (nI (t + 1)) 105 4 = nI (t + 1) := u2_s _ _ _ _
        have hch := chr_ok c (by omega)
        refine ⟨nI (t + 1), u2 (u2 mu 104 t (nI c)) 0 7 (nI (t + 1)), p, u2 (u2 (u2 (u2 mu 104 t (nI c)) 0 7 (nI (t + 1))) 107 t (nI c)) 105 4 (nI (t + 1)), ?_, ?_, ?_⟩
        · simp (disch := first | omega | assumption) only [h74_0, h74_1, h74_3, h74_6, h74_7, h74_9, h74_12, h74_14, h74_15, h74_16, h74_19, h74_21, h74_24, h74_26, h74_27, h74_28, h74_31, h74_32, h74_35, h74_36, h74_37, h74_38, h74_39, h74_40, h74_43, h74_44, h74_45, h74_48, h74_49, h74_52, Option.bind_some, Option.toList_some, Option.toList_none, List.cons_append, List.nil_append, nI_ltc, nI_lec, nI_eqc, nI_ne5, n5_ne, n5_lt, bI_0, bI_1, nI_add, pk_mul, if_pos, if_neg, ite_not, if_true, if_false, not_true_eq_false, not_false_eq_true, true_and, false_and, and_true, and_false, Nat.reduceAdd, Nat.reduceMul, t1, hch, g2, g3]
        · simp (disch := first | omega | assumption) only [h165_0, h165_1, h165_3, h165_5, h165_8, h165_11, h165_13, h165_14, h165_15, h165_18, h165_20, h165_23, h165_25, h165_26, h165_27, h165_30, h165_31, h165_34, h165_35, h165_36, h165_37, h165_38, h165_41, h165_42, h165_43, h165_46, h165_47, h165_50, Option.bind_some, Option.toList_some, Option.toList_none, List.cons_append, List.nil_append, nI_ltc, nI_lec, nI_eqc, nI_ne5, n5_ne, n5_lt, bI_0, bI_1, nI_add, pk_mul, if_pos, if_neg, ite_not, if_true, if_false, not_true_eq_false, not_false_eq_true, true_and, false_and, and_true, and_false, Nat.reduceAdd, Nat.reduceMul, e, g1, g4, g5]
        · refine Rel_out h (fun a h1 h2 => ?_) ?_ (fun i hi => ?_) (fun s hs => ?_) ⟨t + 1, by omega, ?_, ?_, fun i hi => ?_⟩
          · funext i
            simp (disch := omega) only [u2_o]
          · simp (disch := omega) only [u2_o]
          · simp (disch := omega) only [u2_o]
          · simp (disch := omega) only [u2_o]
          · simp (disch := omega) only [u2_o, u2_e]
          · simp (disch := omega) only [u2_o, u2_e]
          · by_cases hit : i = t
            · subst hit
              exact ⟨c, by omega, by omega, by simp (disch := omega) only [u2_o, u2_e], by simp (disch := omega) only [u2_o, u2_e]⟩
            · obtain ⟨y, y1, y2, y3, y4⟩ := t3 i (by omega)
              exact ⟨y, y1, y2, by simp (disch := omega) only [u2_o]; exact y3, by simp (disch := omega) only [u2_o]; exact y4⟩
  · refine small ?_
    rcases hx with q | q
    · refine Or.inl ?_
      rw [Int32.lt_iff_toInt_lt] at q ⊢
      rw [nI_toInt (by omega)] at q ⊢
      omega
    · refine Or.inr ?_
      rw [Int32.lt_iff_toInt_lt]
      rw [Int32.le_iff_toInt_le] at q
      rw [nI_toInt (by omega)] at q ⊢
      omega
theorem op_clearText (h : Rel mu p) : Pair d L 75 [.inr none] 166 [.inr none] mu p := by
  obtain ⟨t, ht, t1, t2, t3⟩ := h.text
  have g1 : u2 mu 0 7 (nI 0) 105 4 = nI t := by rw [u2_o _ _ (by omega)]; exact t2
  refine ⟨nI t, u2 mu 0 7 (nI 0), p, u2 (u2 mu 0 7 (nI 0)) 105 4 (nI 0), ?_, ?_, ?_⟩
  · simp (disch := first | omega | assumption) only [h75_0, h75_1, h75_4, h75_5, h75_6, h75_7, h75_10, h75_11, Option.bind_some, Option.toList_some, Option.toList_none, List.cons_append, List.nil_append, nI_ltc, nI_lec, nI_eqc, nI_ne5, n5_ne, n5_lt, bI_0, bI_1, nI_add, pk_mul, if_pos, if_neg, ite_not, if_true, if_false, not_true_eq_false, not_false_eq_true, true_and, false_and, and_true, and_false, Nat.reduceAdd, Nat.reduceMul, t1]
  · simp (disch := first | omega | assumption) only [h166_0, h166_1, h166_4, h166_5, h166_6, h166_7, h166_10, h166_11, Option.bind_some, Option.toList_some, Option.toList_none, List.cons_append, List.nil_append, nI_ltc, nI_lec, nI_eqc, nI_ne5, n5_ne, n5_lt, bI_0, bI_1, nI_add, pk_mul, if_pos, if_neg, ite_not, if_true, if_false, not_true_eq_false, not_false_eq_true, true_and, false_and, and_true, and_false, Nat.reduceAdd, Nat.reduceMul, g1]
  · refine Rel_out h (fun a h1 h2 => ?_) ?_ (fun i hi => ?_) (fun s hs => ?_) ⟨0, by omega, ?_, ?_, fun i hi => by omega⟩
    · funext i
      simp (disch := omega) only [u2_o]
    · simp (disch := omega) only [u2_o]
    · simp (disch := omega) only [u2_o]
    · simp (disch := omega) only [u2_o]
    · simp (disch := omega) only [u2_o, u2_e]
    · simp (disch := omega) only [u2_o, u2_e]
end
