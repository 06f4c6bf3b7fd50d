/-! changes of a rack: class -/
section
variable (d L : Nat) (mu : RV) (p : Nat → Nat)
theorem z_take0 (h : mu 27 1 = nI 0) : zsem (d + 1) 93 0 [.inr (some 27), .inr (some 1), .inr none] [] (HH L mu p) = some (some (.inl (-5)), HH L mu p) := by
  have h0 : nI 0 ≤ nI 0 := by decide
  simp (disch := first | omega | assumption) only [h93_0, h93_1, h93_4, h93_7, h93_9, h93_10, h93_11, h93_12, h93_15, h93_16, h93_17, h93_20, h93_21, h93_24, h93_25, h93_28, h93_29, h93_30, h93_31, h93_34, h93_35, h93_36, h93_39, h93_40, h93_43, Option.bind_some, Option.toList_some, Option.toList_none, List.cons_append, List.nil_append, nI_ltc, nI_lec, nI_eqc, nI_ne5, n5_ne, n5_lt, bI_0, bI_1, nI_add, pk_mul, if_pos, if_neg, ite_not, if_true, if_false, not_true_eq_false, not_false_eq_true, true_and, false_and, and_true, and_false, Nat.reduceAdd, Nat.reduceMul, h, h0]
theorem z_take (hp : PI p) (c : Nat) (hc : c < 4) (h : mu 27 1 = nI (c + 1)) : ∃ mu' : RV, zsem (d + 1) 93 0 [.inr (some 27), .inr (some 1), .inr none] [] (HH L mu p) = some (some (.inl (nI c)), HH L mu' p) ∧ mu' 27 1 = nI c ∧ rk mu' 1 = rk mu (p c) ∧ ∀ a, ¬a = 27 → (a < 1 ∨ 13 < a) → mu' a = mu a := by
  have gr := hp.rk hc
  obtain ⟨mu1, e, hrk, hout⟩ := z_copyFrom d L (u2 mu 27 1 (nI c)) p 1 (p c) (Or.inl rfl) gr (fun q => hp.ne1 hc q.symm)
  have h27 : mu1 27 1 = nI c := by rw [hout 27 (by omega)]; exact u2_s _ _ _ _
  have hs : u2 mu 27 1 (nI c) 27 1 = nI c := u2_s _ _ _ _
  have hsub : nI (c + 1) - nI 1 = nI c := by rw [nI_sub (by omega)]; rfl
  refine ⟨mu1, ?_, h27, ?_, fun a ha hb => ?_⟩
  · simp (disch := first | omega | assumption) only [h93_0, h93_1, h93_4, h93_7, h93_9, h93_10, h93_11, h93_12, h93_15, h93_16, h93_17, h93_20, h93_21, h93_24, h93_25, h93_28, h93_29, h93_30, h93_31, h93_34, h93_35, h93_36, h93_39, h93_40, h93_43, Option.bind_some, Option.toList_some, Option.toList_none, List.cons_append, List.nil_append, nI_ltc, nI_lec, nI_eqc, nI_ne5, n5_ne, n5_lt, bI_0, bI_1, nI_add, pk_mul, if_pos, if_neg, ite_not, if_true, if_false, not_true_eq_false, not_false_eq_true, true_and, false_and, and_true, and_false, Nat.reduceAdd, Nat.reduceMul, h, hsub, hs, e, h27]
  · rw [hrk]
    exact rk_cong (fun a h1 h2 => by funext j; exact u2_oa (by rcases hp.1 c hc with q | q | q | q <;> omega))
  · rw [hout a (by omega)]
    funext j
    exact u2_oa ha
theorem z_put (r j b s : Nat) (k : Int32) (hr : isRk r) (hj : j < 12) (hb : b < 13) (hs : s < 4) : zsem d 19 0 [.inr (some r), .inl (nI j), .inl k, .inl (nI b), .inl (nI s)] [] (HH L mu p) = some (none, HH L (u2 (u2 (u2 (u2 mu (r + 1) j k) (r + 2) j (nI b)) (r + 3) j (nI s)) (r + 4) (b * 4 + s) (nI j)) p) := by
  simp (disch := first | omega | assumption) only [h19_0, h19_1, h19_4, h19_5, h19_6, h19_7, h19_8, h19_11, h19_12, h19_13, h19_14, h19_15, h19_18, h19_19, h19_21, h19_22, h19_23, h19_26, h19_27, h19_28, h19_29, h19_31, h19_32, h19_33, h19_34, Option.bind_some, Option.toList_some, Option.toList_none, List.cons_append, List.nil_append, nI_ltc, nI_lec, nI_eqc, nI_ne5, n5_ne, n5_lt, bI_0, bI_1, nI_add, pk_mul, if_pos, if_neg, ite_not, if_true, if_false, not_true_eq_false, not_false_eq_true, true_and, false_and, and_true, and_false, Nat.reduceAdd, Nat.reduceMul]
theorem z_changeRegion (r j q : Nat) (x y : Int32) (hr : isRk r) (hj : j < 12) (hq : q < 3) : zsem (d + 1) 31 0 [.inr (some r), .inl (nI j), .inl (nI q), .inl x, .inl y, .inr none] [] (HH L mu p) = some (none, HH L (u2 (u2 (u2 mu (r + 5) (j * 3 + q) x) (r + 6) (j * 3 + q) y) (r + 7) (j * 3 + q) (-5)) p) := by
  simp (disch := first | omega | assumption) only [h31_0, h31_1, h31_2, h31_5, h31_7, h31_8, h31_11, h31_13, h31_14, h31_15, h31_16, h31_19, h31_21, h31_23, h31_24, h31_25, h31_28, h31_30, h31_32, h31_33, Option.bind_some, Option.toList_some, Option.toList_none, List.cons_append, List.nil_append, nI_ltc, nI_lec, nI_eqc, nI_ne5, n5_ne, n5_lt, bI_0, bI_1, nI_add, pk_mul, if_pos, if_neg, ite_not, if_true, if_false, not_true_eq_false, not_false_eq_true, true_and, false_and, and_true, and_false, Nat.reduceAdd, Nat.reduceMul, z_regionIndex]
theorem z_openWindow (j s : Nat) (x y : Int32) (hj : j < 12) (hs : s < 2) : zsem (d + 1) 59 0 [.inr (some 1), .inl (nI j), .inl (nI s), .inl x, .inl y] [] (HH L mu p) = some (none, HH L (u2 (u2 mu 10 (j * 2 + s) x) 11 (j * 2 + s) y) p) := by
  simp (disch := first | omega | assumption) only [h59_0, h59_1, h59_4, h59_5, h59_6, h59_9, h59_10, h59_11, h59_12, h59_15, h59_16, h59_17, h59_20, h59_22, h59_23, Option.bind_some, Option.toList_some, Option.toList_none, List.cons_append, List.nil_append, nI_ltc, nI_lec, nI_eqc, nI_ne5, n5_ne, n5_lt, bI_0, bI_1, nI_add, pk_mul, if_pos, if_neg, ite_not, if_true, if_false, not_true_eq_false, not_false_eq_true, true_and, false_and, and_true, and_false, Nat.reduceAdd, Nat.reduceMul, z_windowIndex]
end
/-- a device loses what numbering and placing gave -/
def relR (R : RV) (j : Nat) : RV := fun a i => if (a = 12 ∧ i = j) ∨ (a = 13 ∧ i = j) ∨ (a = 10 ∧ i / 2 = j) ∨ (a = 8 ∧ i / 3 = j) then -5 else if a = 11 ∧ i / 2 = j then nI 0 else R a i
/-- how many regions of the device have a base -/
def lost (R : RV) (j : Nat) : Nat := (if R 8 (j * 3 + 0) = -5 then 0 else 1) + (if R 8 (j * 3 + 1) = -5 then 0 else 1) + (if R 8 (j * 3 + 2) = -5 then 0 else 1)
theorem rel_chain (mu : RV) (j : Nat) : u2 (u2 (u2 (u2 (u2 (u2 (u2 (u2 (u2 mu 12 j (-5)) 13 j (-5)) 10 (j * 2 + 0) (-5)) 11 (j * 2 + 0) (nI 0)) 10 (j * 2 + 1) (-5)) 11 (j * 2 + 1) (nI 0)) 8 (j * 3 + 0) (-5)) 8 (j * 3 + 1) (-5)) 8 (j * 3 + 2) (-5) = relR mu j := by
  funext a i
  unfold relR
  by_cases h8 : a = 8 ∧ i / 3 = j
  · obtain ⟨rfl, h⟩ := h8
    rw [if_pos (by omega)]
    have : i = j * 3 + 0 ∨ i = j * 3 + 1 ∨ i = j * 3 + 2 := by omega
    rcases this with rfl | rfl | rfl <;> simp (disch := omega) only [u2_o, u2_s]
  · by_cases h10 : a = 10 ∧ i / 2 = j
    · obtain ⟨rfl, h⟩ := h10
      rw [if_pos (by omega)]
      have : i = j * 2 + 0 ∨ i = j * 2 + 1 := by omega
      rcases this with rfl | rfl <;> simp (disch := omega) only [u2_o, u2_s]
    · by_cases h11 : a = 11 ∧ i / 2 = j
      · obtain ⟨rfl, h⟩ := h11
        rw [if_neg (by omega), if_pos (by omega)]
        have : i = j * 2 + 0 ∨ i = j * 2 + 1 := by omega
        rcases this with rfl | rfl <;> simp (disch := omega) only [u2_o, u2_s]
      · by_cases h12 : a = 12 ∧ i = j
        · obtain ⟨rfl, rfl⟩ := h12
          rw [if_pos (by omega)]
          simp (disch := omega) only [u2_o, u2_s]
        · by_cases h13 : a = 13 ∧ i = j
          · obtain ⟨rfl, rfl⟩ := h13
            rw [if_pos (by omega)]
            simp (disch := omega) only [u2_o, u2_s]
          · rw [if_neg (by omega), if_neg (by omega)]
            simp (disch := omega) only [u2_o]
section
variable (d L : Nat) (mu : RV) (p : Nat → Nat)
theorem z_release (j : Nat) (hj : j < 12) : zsem (d + 1) 43 0 [.inr (some 1), .inl (nI j), .inr none, .inr none, .inr none] [] (HH L mu p) = some (some (.inl (nI (lost mu j))), HH L (relR mu j) p) := by
  rw [← rel_chain]
  unfold lost
  by_cases h0 : mu 8 (j * 3 + 0) = -5 <;> by_cases h1 : mu 8 (j * 3 + 1) = -5 <;> by_cases h2 : mu 8 (j * 3 + 2) = -5 <;>
    simp (disch := first | omega | assumption) only [h43_0, h43_1, h43_4, h43_5, h43_7, h43_8, h43_9, h43_12, h43_13, h43_15, h43_16, h43_17, h43_18, h43_19, h43_20, h43_23, h43_24, h43_27, h43_28, h43_29, h43_32, h43_34, h43_35, h43_36, h43_39, h43_40, h43_41, h43_44, h43_45, h43_46, h43_49, h43_52, h43_53, h43_54, h43_55, h43_56, h43_57, h43_58, h43_61, h43_62, h43_63, h43_66, h43_68, h43_69, h43_70, h43_73, h43_75, h43_76, h43_78, h43_81, h43_82, h43_85, h43_86, h43_87, h43_88, h43_89, h43_92, h43_94, h43_96, h43_97, h43_100, h43_103, h43_104, Option.bind_some, Option.toList_some, Option.toList_none, List.cons_append, List.nil_append, nI_ltc, nI_lec, nI_eqc, nI_ne5, n5_ne, n5_lt, bI_0, bI_1, nI_add, pk_mul, if_pos, if_neg, ite_not, if_true, if_false, not_true_eq_false, not_false_eq_true, true_and, false_and, and_true, and_false, Nat.reduceAdd, Nat.reduceMul, ↓reduceIte, Nat.reduceLeDiff, Nat.reduceLT, Nat.reduceEqDiff, z_windowIndex, z_regionIndex, u2_o, h0, h1, h2]
end
