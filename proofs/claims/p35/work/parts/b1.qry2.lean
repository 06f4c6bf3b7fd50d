/-! bus numbers, addresses, free room as the law asks them -/
section
variable (d L : Nat) (mu : RV) (p : Nat → Nat)
theorem y_answer (hO : OK (rk mu 1)) (n e s : Nat) (hn : n < 16) (h0 : ¬n = 0) (he : e < 12) (hs : s < 4) (h12 : mu 12 e = nI n) : zsem (d + 2) 35 0 [.inr (.inl (some 0)), .inl (nI n), .inl (nI s)] [] (HH L mu p) = some (some (.inl (mu 5 (e * 4 + s))), HH L mu p) := by
  have hb0 : zsem (d + 1) 36 0 [.inr (.inl (some 1)), .inl (nI n), .inr (.inl none)] [] (HH L mu p) = zsem (d + 1) 36 9 [.inr (.inl (some 1)), .inl (nI n), .inl (nI 0)] [] (HH L mu p) := by
    simp (disch := first | omega | assumption) only [h36_0, h36_1, h36_4, h36_6, h36_7, h36_8, h36_10, h36_12, h36_15, h36_16, h36_19, h36_20, h36_21, h36_22, h36_25, h36_26, h36_27, h36_30, h36_33, h36_35, Option.bind_some, Option.toList_some, Option.toList_none, List.cons_append, List.nil_append, nI_ltc, nI_lec, nI_eqc, nI_ne5, n5_ne, n5_lt, bI_0, bI_1, nI_add, pk_mul, if_pos, if_neg, ite_not, if_true, if_false, not_true_eq_false, not_false_eq_true, true_and, false_and, and_true, and_false, Nat.reduceAdd, Nat.reduceMul]
  rcases z_bwnL (d + 1) L mu p n (by omega) 12 0 rfl with ⟨j, h1, h2, h3, h4⟩ | ⟨h1, h2⟩
  · have : j = e := num_one (n := n) hO h2 he (by omega) (by rw [rk_12 h2]; exact h3) (by rw [rk_12 he]; exact h12)
    subst this
    rw [h4] at hb0
    simp (disch := first | omega | assumption) only [h35_0, h35_1, h35_4, h35_5, h35_7, h35_10, h35_11, h35_14, h35_17, h35_19, h35_20, h35_21, h35_24, h35_25, h35_28, h35_29, h35_32, h35_33, h35_36, Option.bind_some, Option.toList_some, Option.toList_none, List.cons_append, List.nil_append, nI_ltc, nI_lec, nI_eqc, nI_ne5, n5_ne, n5_lt, bI_0, bI_1, nI_add, pk_mul, if_pos, if_neg, ite_not, if_true, if_false, not_true_eq_false, not_false_eq_true, true_and, false_and, and_true, and_false, Nat.reduceAdd, Nat.reduceMul, z_isSlot_n, hb0, z_deviceAt_n]
  · exact absurd h12 (h1 e (by omega) he)
theorem y_find (hR : Rel mu p) (s x : Nat) (hs : s < 2) (hx : x < adr s) : (∃ j, j < 36 ∧ HC mu s x j ∧ zsem (d + 1) 51 0 [.inr (.inl (some 0)), .inl (nI s), .inl (nI x)] [] (HH L mu p) = some (some (.inl (nI j)), HH L mu p)) ∨
    ((∀ j, j < 36 → ¬HC mu s x j) ∧ zsem (d + 1) 51 0 [.inr (.inl (some 0)), .inl (nI s), .inl (nI x)] [] (HH L mu p) = some (some (.inl (-5)), HH L mu p)) := by
  have ha := @adr_le s
  have hb0 : ∀ w, zsem d 53 0 [.inr (.inl (some 1)), .inl (nI s), .inl (nI x), w, .inr (.inl none)] [] (HH L mu p) = zsem d 53 2 [.inr (.inl (some 1)), .inl (nI s), .inl (nI x), .inl (nI 0), .inr (.inl none)] [] (HH L mu p) := fun w => by
    simp (disch := first | omega | assumption) only [h53_0, h53_1, h53_3, h53_5, h53_8, h53_9, h53_12, h53_13, h53_14, h53_16, h53_18, h53_20, h53_23, h53_24, h53_27, h53_28, h53_29, h53_30, h53_33, h53_35, h53_36, h53_39, h53_40, h53_42, h53_43, h53_46, h53_47, h53_48, h53_49, h53_52, h53_53, h53_54, h53_57, h53_60, h53_62, Option.bind_some, Option.toList_some, Option.toList_none, List.cons_append, List.nil_append, nI_ltc, nI_lec, nI_eqc, nI_ne5, n5_ne, n5_lt, bI_0, bI_1, nI_add, pk_mul, if_pos, if_neg, ite_not, if_true, if_false, not_true_eq_false, not_false_eq_true, true_and, false_and, and_true, and_false, Nat.reduceAdd, Nat.reduceMul]
  have hb0 := hb0 (.inr (.inl none))
  rcases z_regL d L mu p hR s x hs (by omega) 36 0 (.inr (.inl none)) rfl with ⟨j, h1, h2, h3, h4⟩ | ⟨h1, h4⟩
  · rw [h4] at hb0
    refine Or.inl ⟨j, h2, h3, ?_⟩
    simp (disch := first | omega | assumption) only [h51_0, h51_1, h51_4, h51_7, h51_8, h51_11, h51_12, h51_13, h51_16, h51_19, h51_21, h51_22, h51_23, h51_26, h51_27, h51_28, h51_31, Option.bind_some, Option.toList_some, Option.toList_none, List.cons_append, List.nil_append, nI_ltc, nI_lec, nI_eqc, nI_ne5, n5_ne, n5_lt, bI_0, bI_1, nI_add, pk_mul, if_pos, if_neg, ite_not, if_true, if_false, not_true_eq_false, not_false_eq_true, true_and, false_and, and_true, and_false, Nat.reduceAdd, Nat.reduceMul, z_isSpace_n, z_addressesOf, hb0]
  · rw [h4] at hb0
    refine Or.inr ⟨fun j hj => h1 j (by omega) hj, ?_⟩
    simp (disch := first | omega | assumption) only [h51_0, h51_1, h51_4, h51_7, h51_8, h51_11, h51_12, h51_13, h51_16, h51_19, h51_21, h51_22, h51_23, h51_26, h51_27, h51_28, h51_31, Option.bind_some, Option.toList_some, Option.toList_none, List.cons_append, List.nil_append, nI_ltc, nI_lec, nI_eqc, nI_ne5, n5_ne, n5_lt, bI_0, bI_1, nI_add, pk_mul, if_pos, if_neg, ite_not, if_true, if_false, not_true_eq_false, not_false_eq_true, true_and, false_and, and_true, and_false, Nat.reduceAdd, Nat.reduceMul, z_isSpace_n, z_addressesOf, hb0]
theorem y_find_o (s x : Nat) (hs : s < 2) (hx : adr s ≤ x) (hx2 : x < 100000) : zsem (d + 1) 51 0 [.inr (.inl (some 0)), .inl (nI s), .inl (nI x)] [] (HH L mu p) = some (some (.inl (-2)), HH L mu p) := by
  have ha := @adr_le s
  simp (disch := first | omega | assumption) only [h51_0, h51_1, h51_4, h51_7, h51_8, h51_11, h51_12, h51_13, h51_16, h51_19, h51_21, h51_22, h51_23, h51_26, h51_27, h51_28, h51_31, Option.bind_some, Option.toList_some, Option.toList_none, List.cons_append, List.nil_append, nI_ltc, nI_lec, nI_eqc, nI_ne5, n5_ne, n5_lt, bI_0, bI_1, nI_add, pk_mul, if_pos, if_neg, ite_not, if_true, if_false, not_true_eq_false, not_false_eq_true, true_and, false_and, and_true, and_false, Nat.reduceAdd, Nat.reduceMul, z_isSpace_n, z_addressesOf]
/-- the region is found at its addresses -/
theorem y_find_c (hR : Rel mu p) (s e q a n x : Nat) (hs : s < 2) (he : e < 12) (hq : q < 3) (h6 : mu 6 (e * 3 + q) = nI s) (h8 : mu 8 (e * 3 + q) = nI a) (h7 : mu 7 (e * 3 + q) = nI n) (ha : a < 4096) (hn : n ≤ 1024) (h1 : a ≤ x) (h2 : x < a + n) (hx : x < adr s) : zsem (d + 1) 51 0 [.inr (.inl (some 0)), .inl (nI s), .inl (nI x)] [] (HH L mu p) = some (some (.inl (nI (3 * e + q))), HH L mu p) := by
  have hc : HC mu s x (e * 3 + q) := ⟨a, n, ha, hn, h6, h8, h7, h1, h2⟩
  rcases y_find d L mu p hR s x hs hx with ⟨j, g1, g2, g3⟩ | ⟨g1, g2⟩
  · have : j = e * 3 + q := HC_one mu p hR hs g1 (by omega) g2 hc
    subst this
    rw [g3, Nat.mul_comm e 3]
  · exact absurd hc (g1 _ (by omega))
/-- a region of the other space isn't found -/
theorem y_find_n (hR : Rel mu p) (s e q x : Nat) (hs : s < 2) (he : e < 12) (hq : q < 3) (h6 : ¬mu 6 (e * 3 + q) = nI s) (hx : x < 4096) : ∃ v : Int32, zsem (d + 1) 51 0 [.inr (.inl (some 0)), .inl (nI s), .inl (nI x)] [] (HH L mu p) = some (some (.inl v), HH L mu p) ∧ ¬v = nI (3 * e + q) := by
  by_cases hx2 : x < adr s
  · rcases y_find d L mu p hR s x hs hx2 with ⟨j, g1, g2, g3⟩ | ⟨g1, g2⟩
    · refine ⟨_, g3, fun h => ?_⟩
      rw [nI_eqc (by omega) (by omega)] at h
      obtain ⟨a, n, c1, c2, c3, -⟩ := g2
      rw [h, Nat.mul_comm 3 e] at c3
      exact h6 c3
    · exact ⟨_, g2, fun h => by rw [n5_ne (by omega)] at h; exact h⟩
  · refine ⟨_, y_find_o d L mu p s x hs (by omega) (by omega), fun h => ?_⟩
    have hk : (-2 : Int32).toInt = ((3 * e + q : Nat) : Int) := by rw [h, nI_toInt (by omega)]
    have : (-2 : Int32).toInt = -2 := by decide
    omega
/-- the extent of a bus, as the class and the law read it -/
def extI (mu : RV) (b s : Nat) : Int32 := if b = 12 then nI (adr s) else mu 11 (b * 2 + s)
theorem y_freeRoom (hO : OK (rk mu 1)) (b s : Nat) (hb : b < 13) (hk : b = 12 ∨ mu 2 b = nI 2) (hs : s < 2) : zsem (d + 4) 54 0 [.inr (.inl (some 0)), .inl (nI b), .inl (nI s)] [] (HH L mu p) = some (some (.inl (extI mu b s - nI (sumC (rk mu 1) s b 12))), HH L mu p) := by
  have c1 := y_isBus (d + 2) L mu p b hb hk
  have e1 : zsem (d + 2) 56 0 [.inr (.inl (some 1)), .inl (nI b), .inl (nI s)] [] (HH L mu p) = some (some (.inl (extI mu b s)), HH L mu p) := by
    unfold extI
    by_cases h : b = 12
    · subst h
      rw [if_pos rfl]
      exact z_extentOf_r (d + 1) L mu p s hs
    · rw [if_neg h]
      exact z_extentOf_b (d + 1) L mu p b s (by omega) hs (hk.resolve_left h)
  have hL := z_countL (d + 1) L mu p hO b s hb hs (extI mu b s) 12 0 rfl
  have s0 : extI mu b s - nI (sumC (rk mu 1) s b 0) = extI mu b s := by
    show extI mu b s - nI 0 = _
    exact Int32.sub_zero _
  rw [s0] at hL
  have hC : zsem (d + 3) 55 0 [.inr (.inl (some 1)), .inl (nI b), .inl (nI s), .inr (.inl none), .inr (.inl none)] [] (HH L mu p) = some (some (.inl (extI mu b s - nI (sumC (rk mu 1) s b 12))), HH L mu p) := by
    rw [← hL]
    simp (disch := first | omega | assumption) only [h55_0, h55_1, h55_2, h55_3, h55_6, h55_7, h55_8, h55_12, h55_14, h55_17, h55_18, h55_19, h55_20, h55_22, h55_25, h55_27, h55_30, h55_31, h55_32, h55_33, h55_34, h55_36, h55_39, h55_40, h55_41, h55_44, h55_47, h55_48, Option.bind_some, Option.toList_some, Option.toList_none, List.cons_append, List.nil_append, nI_ltc, nI_lec, nI_eqc, nI_ne5, n5_ne, n5_lt, bI_0, bI_1, nI_add, pk_mul, if_pos, if_neg, ite_not, if_true, if_false, not_true_eq_false, not_false_eq_true, true_and, false_and, and_true, and_false, Nat.reduceAdd, Nat.reduceMul, e1]
  simp (disch := first | omega | assumption) only [h54_0, h54_1, h54_4, h54_5, h54_8, h54_11, h54_12, h54_13, h54_14, h54_17, h54_20, h54_21, h54_24, h54_25, h54_26, h54_29, h54_32, h54_34, Option.bind_some, Option.toList_some, Option.toList_none, List.cons_append, List.nil_append, nI_ltc, nI_lec, nI_eqc, nI_ne5, n5_ne, n5_lt, bI_0, bI_1, nI_add, pk_mul, if_pos, if_neg, ite_not, if_true, if_false, not_true_eq_false, not_false_eq_true, true_and, false_and, and_true, and_false, Nat.reduceAdd, Nat.reduceMul, c1, z_isSpace_n, hC]
theorem y_freeRoom_n (b : Nat) (y : Int32) (hb : b < 12) (hk : ¬mu 2 b = nI 2) : zsem (d + 4) 54 0 [.inr (.inl (some 0)), .inl (nI b), .inl y] [] (HH L mu p) = some (some (.inl (-1)), HH L mu p) := by
  simp (disch := first | omega | assumption) only [h54_0, h54_1, h54_4, h54_5, h54_8, h54_11, h54_12, h54_13, h54_14, h54_17, h54_20, h54_21, h54_24, h54_25, h54_26, h54_29, h54_32, h54_34, Option.bind_some, Option.toList_some, Option.toList_none, List.cons_append, List.nil_append, nI_ltc, nI_lec, nI_eqc, nI_ne5, n5_ne, n5_lt, bI_0, bI_1, nI_add, pk_mul, if_pos, if_neg, ite_not, if_true, if_false, not_true_eq_false, not_false_eq_true, true_and, false_and, and_true, and_false, Nat.reduceAdd, Nat.reduceMul, z_isBus_n, hk]
theorem y_firstFit (hO : OK (rk mu 1)) (b s e : Nat) (hb : b < 13) (hk : b = 12 ∨ mu 2 b = nI 2) (hs : s < 2) (he : e ≤ lex s) : ∃ v : Int32, zsem (d + 4) 60 0 [.inr (.inl (some 0)), .inl (nI b), .inl (nI s), .inl (nI (grn s * 2 ^ e))] [] (HH L mu p) = some (some (.inl v), HH L mu p) ∧ FSp (rk mu 1) s b (grn s * 2 ^ e) (grn s * 2 ^ e) v := by
  have c1 := y_isBus (d + 2) L mu p b hb hk
  obtain ⟨v1, e1, e2, e3⟩ := z_isSizeOf (d + 1) L mu p s hs (nI (grn s * 2 ^ e))
  rw [e2 ⟨e, he, rfl⟩] at e1
  have hsz := @sz_lt s e he
  have hpos : 0 < 2 ^ e := Nat.pow_pos (by omega)
  have hb2 : b = 12 ∨ (b < 12 ∧ mu 2 b = nI 2) := by
    rcases hk with q | q
    · exact Or.inl q
    · by_cases hb2 : b < 12
      · exact Or.inr ⟨hb2, q⟩
      · exact Or.inl (by omega)
  obtain ⟨kk, k1, k2⟩ : ∃ kk, grn s * 2 ^ e = 2 ^ kk ∧ (kk = 2 ∨ kk = 3 ∨ kk = 4 ∨ kk = 5 ∨ kk = 6 ∨ kk = 7 ∨ kk = 8 ∨ kk = 9 ∨ kk = 10) := by
    rcases (show s = 0 ∨ s = 1 by omega) with rfl | rfl
    · refine ⟨4 + e, by rw [Nat.pow_add]; rfl, ?_⟩
      have : e ≤ 6 := he
      omega
    · refine ⟨2 + e, by rw [Nat.pow_add]; rfl, ?_⟩
      have : e ≤ 4 := he
      omega
  obtain ⟨v, g1, g2⟩ := z_fit d L mu p hO b s (2 ^ e) (2 ^ e) kk hs hb2 k1 k2 hpos (by omega)
  refine ⟨v, ?_, g2⟩
  simp (disch := first | omega | assumption) only [h60_0, h60_1, h60_4, h60_5, h60_8, h60_11, h60_12, h60_13, h60_14, h60_17, h60_20, h60_21, h60_22, h60_25, h60_28, h60_30, h60_31, h60_32, h60_35, h60_36, h60_37, h60_38, h60_39, h60_42, Option.bind_some, Option.toList_some, Option.toList_none, List.cons_append, List.nil_append, nI_ltc, nI_lec, nI_eqc, nI_ne5, n5_ne, n5_lt, bI_0, bI_1, nI_add, pk_mul, if_pos, if_neg, ite_not, if_true, if_false, not_true_eq_false, not_false_eq_true, true_and, false_and, and_true, and_false, Nat.reduceAdd, Nat.reduceMul, c1, z_isSpace_n, e1, g1]
end
/-! the law's small methods -/
def lowM (v : Int32) : Nat := (v.toBitVec &&& 2147483647#32).toNat
def lowN (v : Int32) (n : Nat) : Nat := lowM v % n
theorem lowM_lt (v : Int32) : lowM v < 2147483648 := by
  unfold lowM
  rw [BitVec.toNat_and]
  exact Nat.lt_of_le_of_lt Nat.and_le_right (by decide)
theorem lowM_eq (v : Int32) : v &&& nI 2147483647 = nI (lowM v) := by
  apply Int32.toBitVec_inj.1
  rw [Int32.toBitVec_and]
  show v.toBitVec &&& 2147483647#32 = BitVec.ofInt 32 (((v.toBitVec &&& 2147483647#32).toNat : Nat) : Int)
  rw [BitVec.ofInt_natCast, BitVec.ofNat_toNat]
  simp
theorem lowN_lt (v : Int32) {n : Nat} (h : 0 < n) : lowN v n < n := Nat.mod_lt _ h
theorem nI_and (a b : Nat) (ha : a < 2 ^ 32) (hb : b < 2 ^ 32) : nI a &&& nI b = nI (a &&& b) := by
  apply Int32.toBitVec_inj.1
  apply BitVec.eq_of_toNat_eq
  have e : ∀ n, (nI n).toBitVec.toNat = n % 2 ^ 32 := fun n => rfl
  rw [Int32.toBitVec_and, BitVec.toNat_and, e, e, e, Nat.mod_eq_of_lt ha, Nat.mod_eq_of_lt hb, Nat.mod_eq_of_lt (Nat.and_lt_two_pow _ hb)]
theorem nI_not (b : Nat) (hb : b < 2 ^ 32) : nI b ^^^ (-1) = nI (b ^^^ (2 ^ 32 - 1)) := by
  apply Int32.toBitVec_inj.1
  apply BitVec.eq_of_toNat_eq
  have e : ∀ n, (nI n).toBitVec.toNat = n % 2 ^ 32 := fun n => rfl
  have e1 : (-1 : Int32).toBitVec.toNat = 2 ^ 32 - 1 := by decide
  rw [Int32.toBitVec_xor, BitVec.toNat_xor, e, e, e1, Nat.mod_eq_of_lt hb, Nat.mod_eq_of_lt (Nat.xor_lt_two_pow hb (by decide))]
theorem tbit (m j : Nat) : m / 2 ^ j % 2 = 1 ↔ m.testBit j = true := by
  rw [Nat.testBit_eq_decide_div_mod_eq, decide_eq_true_eq]
section
variable (d L : Nat) (mu : RV) (p : Nat → Nat)
theorem y_all (s : Nat) (hs : s < 2) : zsem d 41 0 [.inl (nI s)] [] (HH L mu p) = some (some (.inl (nI (adr s))), HH L mu p) := by
  simp (disch := first | omega | assumption) only [h41_0, h41_1, h41_4, h41_7, h41_10, h41_13, Option.bind_some, Option.toList_some, Option.toList_none, List.cons_append, List.nil_append, nI_ltc, nI_lec, nI_eqc, nI_ne5, n5_ne, n5_lt, bI_0, bI_1, nI_add, pk_mul, if_pos, if_neg, ite_not, if_true, if_false, not_true_eq_false, not_false_eq_true, true_and, false_and, and_true, and_false, Nat.reduceAdd, Nat.reduceMul]
  by_cases h1 : s = 0 <;> simp [h1, adr]
theorem y_grain (s : Nat) (hs : s < 2) : zsem d 43 0 [.inl (nI s)] [] (HH L mu p) = some (some (.inl (nI (grn s))), HH L mu p) := by
  simp (disch := first | omega | assumption) only [h43_0, h43_1, h43_4, h43_6, h43_9, h43_10, Option.bind_some, Option.toList_some, Option.toList_none, List.cons_append, List.nil_append, nI_ltc, nI_lec, nI_eqc, nI_ne5, n5_ne, n5_lt, bI_0, bI_1, nI_add, pk_mul, if_pos, if_neg, ite_not, if_true, if_false, not_true_eq_false, not_false_eq_true, true_and, false_and, and_true, and_false, Nat.reduceAdd, Nat.reduceMul]
  by_cases h1 : s = 0 <;> simp [h1, grn]
theorem y_low (v : Int32) (n : Nat) (h0 : 0 < n) (hn : n < 2147483648) : zsem d 24 0 [.inl v, .inl (nI n)] [] (HH L mu p) = some (some (.inl (nI (lowN v n))), HH L mu p) := by
  have e := lowM_eq v
  have hl := lowM_lt v
  have hne : ¬nI n = nI 0 := by rw [nI_eqc hn (by omega)]; omega
  have e1 := nI_div hl hn h0
  have hle : lowM v / n * n ≤ lowM v := Nat.div_mul_le_self _ _
  have e2 := nI_sub hle
  have e3 : lowM v - lowM v / n * n = lowN v n := by
    have := Nat.div_add_mod (lowM v) n
    unfold lowN
    rw [Nat.mul_comm] at this
    omega
  simp (disch := first | omega | assumption) only [h24_0, h24_1, h24_3, h24_4, h24_5, h24_6, Option.bind_some, Option.toList_some, Option.toList_none, List.cons_append, List.nil_append, nI_ltc, nI_lec, nI_eqc, nI_ne5, n5_ne, n5_lt, bI_0, bI_1, nI_add, pk_mul, if_pos, if_neg, ite_not, if_true, if_false, not_true_eq_false, not_false_eq_true, true_and, false_and, and_true, and_false, Nat.reduceAdd, Nat.reduceMul, e, e1, e2, e3]
theorem y_isBridge (j : Nat) (hj : j < 12) : zsem (d + 3) 26 0 [.inr (.inl (some 0)), .inl (nI j)] [] (HH L mu p) = some (some (.inl (bI (mu 2 j = nI 2))), HH L mu p) := by
  have e := bit_at j hj (msk (fun j => mu 2 j = nI 2) 12) (Nat.lt_of_lt_of_le (msk_lt _ _) (by omega))
  have e2 := msk_bit (fun j => mu 2 j = nI 2) j 12 hj
  by_cases h : mu 2 j = nI 2
  · rw [e2.mpr h] at e
    rw [bI_t h]
    simp (disch := first | omega | assumption) only [h26_0, h26_1, h26_4, h26_5, h26_6, h26_7, h26_8, h26_9, h26_12, h26_13, h26_16, h26_17_0, h26_17_1, h26_17_b, Option.bind_some, Option.toList_some, Option.toList_none, List.cons_append, List.nil_append, nI_ltc, nI_lec, nI_eqc, nI_ne5, n5_ne, n5_lt, bI_0, bI_1, nI_add, pk_mul, if_pos, if_neg, ite_not, if_true, if_false, not_true_eq_false, not_false_eq_true, true_and, false_and, and_true, and_false, Nat.reduceAdd, Nat.reduceMul, y_bridges, e]
  · have : msk (fun j => mu 2 j = nI 2) 12 / 2 ^ j % 2 = 0 := by
      have : ¬msk (fun j => mu 2 j = nI 2) 12 / 2 ^ j % 2 = 1 := fun q => h (e2.mp q)
      omega
    rw [this] at e
    rw [bI_f h]
    simp (disch := first | omega | assumption) only [h26_0, h26_1, h26_4, h26_5, h26_6, h26_7, h26_8, h26_9, h26_12, h26_13, h26_16, h26_17_0, h26_17_1, h26_17_b, Option.bind_some, Option.toList_some, Option.toList_none, List.cons_append, List.nil_append, nI_ltc, nI_lec, nI_eqc, nI_ne5, n5_ne, n5_lt, bI_0, bI_1, nI_add, pk_mul, if_pos, if_neg, ite_not, if_true, if_false, not_true_eq_false, not_false_eq_true, true_and, false_and, and_true, and_false, Nat.reduceAdd, Nat.reduceMul, y_bridges, e]
theorem y_isCard (j : Nat) (hj : j < 12) : zsem (d + 3) 44 0 [.inr (.inl (some 0)), .inl (nI j)] [] (HH L mu p) = some (some (.inl (bI (mu 2 j = nI 1))), HH L mu p) := by
  have hB : msk (fun j => mu 2 j = nI 2) 12 < 4096 := Nat.lt_of_lt_of_le (msk_lt _ _) (by omega)
  have hC : msk (fun j => mu 2 j = nI 1) 12 < 4096 := Nat.lt_of_lt_of_le (msk_lt _ _) (by omega)
  have eB := msk_bit (fun j => mu 2 j = nI 2) j 12 hj
  have eC := msk_bit (fun j => mu 2 j = nI 1) j 12 hj
  rw [tbit] at eB eC
  generalize hb : msk (fun j => mu 2 j = nI 2) 12 = B at *
  generalize hc : msk (fun j => mu 2 j = nI 1) 12 = C at *
  have hO : C ||| B < 2 ^ 12 := Nat.or_lt_two_pow (by omega) (by omega)
  have e0 : (nI C ||| nI B) &&& (nI B ^^^ (-1)) = nI ((C ||| B) &&& (B ^^^ (2 ^ 32 - 1))) := by
    rw [nI_or _ _ (by omega) (by omega), nI_not _ (by omega), nI_and _ _ (by omega) (Nat.xor_lt_two_pow (by omega) (by decide))]
  have hM : (C ||| B) &&& (B ^^^ (2 ^ 32 - 1)) < 4096 := Nat.lt_of_le_of_lt Nat.and_le_left (by omega)
  have e := bit_at j hj _ hM
  have et : ((C ||| B) &&& (B ^^^ (2 ^ 32 - 1))).testBit j = (C.testBit j && !B.testBit j) := by
    rw [Nat.testBit_and, Nat.testBit_or, Nat.testBit_xor, Nat.testBit_two_pow_sub_one, decide_eq_true (show j < 32 by omega)]
    cases C.testBit j <;> cases B.testBit j <;> rfl
  have e1 := tbit ((C ||| B) &&& (B ^^^ (2 ^ 32 - 1))) j
  rw [et] at e1
  by_cases h : mu 2 j = nI 1
  · have hn : ¬mu 2 j = nI 2 := by rw [h]; decide
    have b0 : B.testBit j = false := by
      cases q : B.testBit j
      · rfl
      · exact absurd (eB.mp q) hn
    rw [eC.mpr h, b0] at e1
    rw [e1.mpr rfl] at e
    rw [bI_t h]
    simp (disch := first | omega | assumption) only [h44_0, h44_1, h44_4, h44_5, h44_8, h44_9, h44_10, h44_11, h44_12, h44_13, h44_14, h44_15, h44_16, h44_19, h44_20, h44_23, h44_24_0, h44_24_1, h44_24_b, Option.bind_some, Option.toList_some, Option.toList_none, List.cons_append, List.nil_append, nI_ltc, nI_lec, nI_eqc, nI_ne5, n5_ne, n5_lt, bI_0, bI_1, nI_add, pk_mul, if_pos, if_neg, ite_not, if_true, if_false, not_true_eq_false, not_false_eq_true, true_and, false_and, and_true, and_false, Nat.reduceAdd, Nat.reduceMul, y_devices, y_bridges, hb, hc, e0, e]
  · have c0 : C.testBit j = false := by
      cases q : C.testBit j
      · rfl
      · exact absurd (eC.mp q) h
    rw [c0] at e1
    have : ((C ||| B) &&& (B ^^^ (2 ^ 32 - 1))) / 2 ^ j % 2 = 0 := by
      have : ¬((C ||| B) &&& (B ^^^ (2 ^ 32 - 1))) / 2 ^ j % 2 = 1 := fun q => by
        have := e1.mp q
        cases this
      omega
    rw [this] at e
    rw [bI_f h]
    simp (disch := first | omega | assumption) only [h44_0, h44_1, h44_4, h44_5, h44_8, h44_9, h44_10, h44_11, h44_12, h44_13, h44_14, h44_15, h44_16, h44_19, h44_20, h44_23, h44_24_0, h44_24_1, h44_24_b, Option.bind_some, Option.toList_some, Option.toList_none, List.cons_append, List.nil_append, nI_ltc, nI_lec, nI_eqc, nI_ne5, n5_ne, n5_lt, bI_0, bI_1, nI_add, pk_mul, if_pos, if_neg, ite_not, if_true, if_false, not_true_eq_false, not_false_eq_true, true_and, false_and, and_true, and_false, Nat.reduceAdd, Nat.reduceMul, y_devices, y_bridges, hb, hc, e0, e]
end
