/-! fault -/
def zk (mu : RV) (k : Nat) : RV := fun a i => if a = 106 ∧ 1446 ≤ i ∧ (i - 1446) % 20 = 0 ∧ (i - 1446) / 20 < k then nI 0 else mu a i
theorem zk_0 (mu : RV) : zk mu 0 = mu := by
  funext a i
  exact if_neg (by omega)
theorem zk_s (mu : RV) (k : Nat) : u2 (zk mu k) 106 (1446 + 20 * k) (nI 0) = zk mu (k + 1) := by
  funext a i
  by_cases h : a = 106 ∧ i = 1446 + 20 * k
  · obtain ⟨rfl, rfl⟩ := h
    rw [u2_s]
    unfold zk
    rw [if_pos (by omega)]
  · rw [u2_o _ _ h]
    unfold zk
    by_cases h2 : a = 106 ∧ 1446 ≤ i ∧ (i - 1446) % 20 = 0 ∧ (i - 1446) / 20 < k
    · rw [if_pos h2, if_pos (by omega)]
    · rw [if_neg h2, if_neg (by omega)]
section
variable (d L : Nat) (mu : RV) (p : Nat → Nat)
theorem m_zkL (a2 a3 a4 a5 : AV) : ∀ n k, k + n = 12 → zsem (d + 1) 168 2 [.inr (some 105), .inl (nI k), a2, a3, a4, a5] [] (HH L (zk mu k) p) = zsem (d + 1) 168 2 [.inr (some 105), .inl (nI 12), a2, a3, a4, a5] [] (HH L (zk mu 12) p) := by
  intro n
  induction n with
  | zero =>
    intro k hk
    have : k = 12 := by omega
    subst this
    rfl
  | succ n ih =>
    intro k hk
    have q : ¬12 ≤ k := by omega
    rw [← ih (k + 1) (by omega), h168_2, ← zk_s mu k]
    simp (disch := first | omega | assumption) only [h168_3, h168_5, h168_8, h168_9, h168_12, h168_15, h168_16, h168_19, h168_20, h168_21, h168_22, h168_25, Option.bind_some, Option.toList_some, Option.toList_none, List.cons_append, List.nil_append, nI_ltc, nI_lec, nI_eqc, nI_ne5, n5_ne, n5_lt, bI_0, bI_1, nI_add, pk_mul, if_pos, if_neg, ite_not, if_true, if_false, not_true_eq_false, not_false_eq_true, true_and, false_and, and_true, and_false, Nat.reduceAdd, Nat.reduceMul, q, m_at]
theorem m_reads (tx : Nat → Nat) (n : Nat) (ht : TX mu n tx) : ∃ mu', FM mu mu' ∧ zsem (d + 4) 168 0 [.inr (some 105), .inr none, .inr none, .inr none, .inr none, .inr none] [] (HH L mu p) = some (some (.inl (flt (rdr tx n 0 s0).1)), HH L mu' p) ∧ ((rdr tx n 0 s0).1 = none → mu' 105 15 = nI (rdr tx n 0 s0).2.1.2.2.2.2 ∧ BD mu' (rdr tx n 0 s0).2.2.2.2) := by
  have e1 := m_zkL (d + 3) L mu p (.inr none) (.inr none) (.inr none) (.inr none) 12 0 (by omega)
  rw [zk_0, h168_2 (d + 3 + 1) L (zk mu 12)] at e1
  have fz : FM mu (zk mu 12) := fun a i h => if_neg (fun q => h (by omega))
  have fm : FM mu (u2 (u2 (u2 (u2 (zk mu 12) 105 15 (nI 0)) 105 16 (nI 0)) 116 0 (nI 12)) 117 0 (-1)) := FM_u (FM_u (FM_u (FM_u fz (by omega)) (by omega)) (by omega)) (by omega)
  have hI : RdI n tx n 0 (u2 (u2 (u2 (u2 (zk mu 12) 105 15 (nI 0)) 105 16 (nI 0)) 116 0 (nI 12)) 117 0 (-1)) s0 0 0 := by
    refine ⟨by omega, WF_0, ⟨?_, ?_, fun l hl => ?_, ?_, Or.inl ⟨rfl, rfl, rfl⟩⟩, Nat.le_refl _, fun _ => Or.inr rfl, fun q => absurd q (by unfold s0; dsimp only; omega), by omega, TX_f ht fm⟩
    · exact (u2_oa (by omega)).trans ((u2_oa (by omega)).trans ((u2_o _ _ (by omega)).trans (u2_s _ _ _ _)))
    · exact (u2_oa (by omega)).trans ((u2_oa (by omega)).trans (u2_s _ _ _ _))
    · have hl : l = 0 := Nat.le_zero.mp hl
      subst hl
      rw [u2_oa (by omega), u2_s, u2_s]
      exact ⟨rfl, by decide⟩
    · refine ⟨fun j hj => ⟨?_, fun h => absurd (R0_2 hj) h⟩, fun j hj => R0_8 hj⟩
      show u2 (u2 (u2 (u2 (zk mu 12) 105 15 (nI 0)) 105 16 (nI 0)) 116 0 (nI 12)) 117 0 (-1) 106 (1446 + 20 * j) = R0 2 j
      rw [u2_oa (by omega), u2_oa (by omega), u2_oa (by omega), u2_oa (by omega), R0_2 hj]
      exact if_pos (by omega)
  obtain ⟨mu', f1, z1, c1⟩ := m_rdL d L n tx p n n 0 _ s0 0 0 (.inr none) (.inr none) (Nat.le_refl _) hI
  refine ⟨mu', FM_t fm f1, ?_, c1⟩
  rw [← z1, h168_0, h168_1]
  refine Eq.trans e1 ?_
  simp (disch := first | omega | assumption) only [h168_3, h168_5, h168_8, h168_9, h168_12, h168_15, h168_16, h168_19, h168_20, h168_21, h168_22, h168_25, h168_28, h168_29, h168_30, h168_33, h168_34, h168_35, h168_38, h168_39, h168_42, h168_43, h168_45, h168_46, h168_47, h168_50, h168_51, h168_52, h168_53, h168_54, h168_55, h168_56, h168_57, h168_58, Option.bind_some, Option.toList_some, Option.toList_none, List.cons_append, List.nil_append, nI_ltc, nI_lec, nI_eqc, nI_ne5, n5_ne, n5_lt, bI_0, bI_1, nI_add, pk_mul, if_pos, if_neg, ite_not, if_true, if_false, not_true_eq_false, not_false_eq_true, true_and, false_and, and_true, and_false, Nat.reduceAdd, Nat.reduceMul]
theorem Rel.tx {mu : RV} {p : Nat → Nat} (h : Rel mu p) : ∃ n tx, n ≤ 80 ∧ mu 0 7 = nI n ∧ TX mu n tx ∧ ∀ j, j < n → mu 104 j = nI (tx j) ∧ tx j < 128 := by
  obtain ⟨t, t0, t1, t2, t3⟩ := h.text
  have ht : ∀ j, j < t → mu 104 j = nI (mu 104 j).toNatClampNeg ∧ mu 107 j = nI (mu 104 j).toNatClampNeg ∧ (mu 104 j).toNatClampNeg < 128 := fun j hj => by
    obtain ⟨x, x1, x2, x3, x4⟩ := t3 j hj
    rw [x3, x4, nI_clamp (by omega)]
    exact ⟨rfl, rfl, by omega⟩
  exact ⟨t, fun j => (mu 104 j).toNatClampNeg, t0, t1, ⟨t0, t2, fun j hj => ⟨(ht j hj).2.1, (ht j hj).2.2⟩⟩, fun j hj => ⟨(ht j hj).1, (ht j hj).2.2⟩⟩
theorem Rel_Fr {mu mu' : RV} {p : Nat → Nat} (h : Rel mu p) (f : Fr mu mu') : Rel mu' p := Rel_scr h (fun a ha => f a (by omega)) (fun i hi => by rw [f 105 (by omega)]) (fun t ht => by rw [f 106 (by omega)])
theorem Rel_FM {mu mu' : RV} {p : Nat → Nat} (h : Rel mu p) (f : FM mu mu') : Rel mu' p := Rel_scr h (fun a ha => by funext i; exact f a i (by omega)) (fun i hi => f 105 i (by omega)) (fun t ht => f 106 t (by omega))
theorem op_fault (h : Rel mu p) : Pair (d + 5) L 76 [] 167 [] mu p := by
  obtain ⟨n, tx, hn, h7, hT, h104⟩ := h.tx
  obtain ⟨m1, f1, z1, c1⟩ := z_read d L mu p tx n hn h104
  have hT1 : TX m1 n tx := ⟨hT.1, by rw [f1 105 (by omega)]; exact hT.2.1, fun j hj => by rw [f1 107 (by omega)]; exact hT.2.2 j hj⟩
  obtain ⟨m2, f2, z2, c2⟩ := m_reads d L m1 p tx n hT1
  refine ⟨flt (rdr tx n 0 s0).1, m1, p, m2, ?_, ?_, Rel_FM (Rel_Fr h f1) f2⟩
  · simp (disch := first | omega | assumption) only [h76_0, h76_1, h76_4, h76_5, h76_8, h76_9, h76_12, h76_15, Option.bind_some, Option.toList_some, Option.toList_none, List.cons_append, List.nil_append, nI_ltc, nI_lec, nI_eqc, nI_ne5, n5_ne, n5_lt, bI_0, bI_1, nI_add, pk_mul, if_pos, if_neg, ite_not, if_true, if_false, not_true_eq_false, not_false_eq_true, true_and, false_and, and_true, and_false, Nat.reduceAdd, Nat.reduceMul, h7, z1]
  · simp (disch := first | omega | assumption) only [h167_0, h167_1, h167_4, Option.bind_some, Option.toList_some, Option.toList_none, List.cons_append, List.nil_append, nI_ltc, nI_lec, nI_eqc, nI_ne5, n5_ne, n5_lt, bI_0, bI_1, nI_add, pk_mul, if_pos, if_neg, ite_not, if_true, if_false, not_true_eq_false, not_false_eq_true, true_and, false_and, and_true, and_false, Nat.reduceAdd, Nat.reduceMul, z2]
end
