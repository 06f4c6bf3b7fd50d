/-! countFree: class -/
theorem CP_un {R : RV} {s b k a n a' n' : Nat} (hc : CP R s b k a n) (hc' : CP R s b k a' n') : a' = a ∧ n' = n := by
  obtain ⟨j, g1, g2, c1, c2, c3⟩ := hc
  obtain ⟨j', g1', g2', c1', c2', c3'⟩ := hc'
  rw [g2, nI_eqc (by omega) (by omega)] at g2'
  subst g2'
  rcases c3 with ⟨x1, x2, x3, x4⟩ | ⟨x1, x2, x3, x4⟩ <;> rcases c3' with ⟨y1, y2, y3, y4⟩ | ⟨y1, y2, y3, y4⟩
  · rw [x3, nI_eqc (by omega) (by omega)] at y3
    rw [x4, nI_eqc (by omega) (by omega)] at y4
    exact ⟨y3.symm, y4.symm⟩
  · rw [x1] at y2; exact absurd y2 (by decide)
  · rw [x2] at y1; exact absurd y1 (by decide)
  · rw [x3, nI_eqc (by omega) (by omega)] at y3
    rw [x4, nI_eqc (by omega) (by omega)] at y4
    exact ⟨y3.symm, y4.symm⟩
/-- how many addresses the part covers -/
noncomputable def szc (R : RV) (s b k : Nat) : Nat := if tb (∃ n a, CP R s b k a n) = true then Classical.epsilon (fun n => ∃ a, CP R s b k a n) else 0
theorem szc_y {R : RV} {s b k a n : Nat} (h : CP R s b k a n) : szc R s b k = n := by
  unfold szc
  rw [if_pos ((tb_iff _).mpr ⟨n, a, h⟩)]
  obtain ⟨a', h'⟩ := Classical.epsilon_spec (p := fun n => ∃ a, CP R s b k a n) ⟨n, a, h⟩
  exact (CP_un h h').2
theorem szc_n {R : RV} {s b k : Nat} (h : ∀ a n, ¬CP R s b k a n) : szc R s b k = 0 := by
  unfold szc
  rw [if_neg (fun q => by obtain ⟨n, a, g⟩ := (tb_iff _).mp q; exact h a n g)]
noncomputable def sumC (R : RV) (s b : Nat) : Nat → Nat
  | 0 => 0
  | k + 1 => sumC R s b k + szc R s b k
theorem sub_two (x : Int32) (a b : Nat) : x - nI a - nI b = x - nI (a + b) := by
  rw [← nI_add]
  apply Int32.toBitVec_inj.1
  show x.toBitVec - (nI a).toBitVec - (nI b).toBitVec = x.toBitVec - ((nI a).toBitVec + (nI b).toBitVec)
  apply BitVec.eq_of_toNat_eq
  simp only [BitVec.toNat_sub, BitVec.toNat_add]
  omega
section
variable (d L : Nat) (mu : RV) (p : Nat → Nat)
theorem z_countL (h : OK (rk mu 1)) (b s : Nat) (hb : b < 13) (hs : s < 2) (E : Int32) : ∀ m k, k + m = 12 → zsem (d + 2) 55 10 [.inr (.inl (some 1)), .inl (nI b), .inl (nI s), .inl (E - nI (sumC (rk mu 1) s b k)), .inl (nI k)] [] (HH L mu p) = some (some (.inl (E - nI (sumC (rk mu 1) s b 12))), HH L mu p) := by
  intro m
  induction m with
  | zero =>
    intro k hk
    have : k = 12 := by omega
    subst this
    rw [h55_10]
    simp (disch := first | omega | assumption) only [h55_0, h55_1, h55_2, h55_3, h55_6, h55_7, h55_8, h55_12, h55_14, h55_17, h55_18, h55_19, h55_20, h55_22, h55_25, h55_27, h55_30, h55_31, h55_32, h55_33, h55_34, h55_36, h55_39, h55_40, h55_41, h55_44, h55_47, h55_48, Option.bind_some, Option.toList_some, Option.toList_none, List.cons_append, List.nil_append, nI_ltc, nI_lec, nI_eqc, nI_ne5, n5_ne, n5_lt, bI_0, bI_1, nI_add, pk_mul, if_pos, if_neg, ite_not, if_true, if_false, not_true_eq_false, not_false_eq_true, true_and, false_and, and_true, and_false, Nat.reduceAdd, Nat.reduceMul]
  | succ m ih =>
    intro k hk
    rw [← ih (k + 1) (by omega), h55_10]
    rcases z_part d L mu p h b s k hb hs (by omega) with ⟨z, e1, e2, hno⟩ | ⟨a, n, e1, e2, hc⟩
    · have e : sumC (rk mu 1) s b (k + 1) = sumC (rk mu 1) s b k := by
        show _ + _ = _
        rw [szc_n hno, Nat.add_zero]
      rw [e]
      simp (disch := first | omega | assumption) only [h55_0, h55_1, h55_2, h55_3, h55_6, h55_7, h55_8, h55_12, h55_14, h55_17, h55_18, h55_19, h55_20, h55_22, h55_25, h55_27, h55_30, h55_31, h55_32, h55_33, h55_34, h55_36, h55_39, h55_40, h55_41, h55_44, h55_47, h55_48, Option.bind_some, Option.toList_some, Option.toList_none, List.cons_append, List.nil_append, nI_ltc, nI_lec, nI_eqc, nI_ne5, n5_ne, n5_lt, bI_0, bI_1, nI_add, pk_mul, if_pos, if_neg, ite_not, if_true, if_false, not_true_eq_false, not_false_eq_true, true_and, false_and, and_true, and_false, Nat.reduceAdd, Nat.reduceMul, e1]
    · have e : sumC (rk mu 1) s b (k + 1) = sumC (rk mu 1) s b k + n := by
        show _ + _ = _
        rw [szc_y hc]
      have ha : a < 4096 := by
        obtain ⟨j, -, -, c1, -⟩ := hc
        exact c1
      rw [e, ← sub_two]
      simp (disch := first | omega | assumption) only [h55_0, h55_1, h55_2, h55_3, h55_6, h55_7, h55_8, h55_12, h55_14, h55_17, h55_18, h55_19, h55_20, h55_22, h55_25, h55_27, h55_30, h55_31, h55_32, h55_33, h55_34, h55_36, h55_39, h55_40, h55_41, h55_44, h55_47, h55_48, Option.bind_some, Option.toList_some, Option.toList_none, List.cons_append, List.nil_append, nI_ltc, nI_lec, nI_eqc, nI_ne5, n5_ne, n5_lt, bI_0, bI_1, nI_add, pk_mul, if_pos, if_neg, ite_not, if_true, if_false, not_true_eq_false, not_false_eq_true, true_and, false_and, and_true, and_false, Nat.reduceAdd, Nat.reduceMul, e1, e2]
end
