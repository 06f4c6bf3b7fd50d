/-! changes of a rack: class -/
section
variable (d L : Nat) (mu : RV) (p : Nat → Nat)
theorem z_take0 (h : mu 27 1 = nI 0) : zsem (d + 1) 22 0 [.inr (.inl (some 27)), .inr (.inl (some 1)), .inr (.inl none)] [] (HH L mu p) = some (some (.inl (-5)), HH L mu p) := by
  have h0 : nI 0 ≤ nI 0 := by decide
  simp (disch := first | omega | assumption) only [h22_0, h22_1, h22_4, h22_7, h22_9, h22_10, h22_11, h22_12, h22_15, h22_16, h22_17, h22_20, h22_21, h22_24, h22_25, h22_28, h22_29, h22_30, h22_31, h22_34, h22_35, h22_36, h22_39, h22_40, h22_43, Option.bind_some, Option.toList_some, Option.toList_none, List.cons_append, List.nil_append, nI_ltc, nI_lec, nI_eqc, nI_ne5, n5_ne, n5_lt, bI_0, bI_1, nI_add, pk_mul, if_pos, if_neg, ite_not, if_true, if_false, not_true_eq_false, not_false_eq_true, true_and, false_and, and_true, and_false, Nat.reduceAdd, Nat.reduceMul, h, h0]
theorem z_take (hp : PI p) (c : Nat) (hc : c < 4) (h : mu 27 1 = nI (c + 1)) : ∃ mu' : RV, zsem (d + 1) 22 0 [.inr (.inl (some 27)), .inr (.inl (some 1)), .inr (.inl none)] [] (HH L mu p) = some (some (.inl (nI c)), HH L mu' p) ∧ mu' 27 1 = nI c ∧ rk mu' 1 = rk mu (p c) ∧ ∀ a, ¬a = 27 → (a < 1 ∨ 13 < a) → mu' a = mu a := by
  have gr := hp.rk hc
  obtain ⟨mu1, e, hrk, hout⟩ := z_copyFrom d L (u2 mu 27 1 (nI c)) p 1 (p c) (Or.inl rfl) gr (fun q => hp.ne1 hc q.symm)
  have h27 : mu1 27 1 = nI c := by rw [hout 27 (by omega)]; exact u2_s _ _ _ _
  have hs : u2 mu 27 1 (nI c) 27 1 = nI c := u2_s _ _ _ _
  have hsub : nI (c + 1) - nI 1 = nI c := by rw [nI_sub (by omega)]; rfl
  refine ⟨mu1, ?_, h27, ?_, fun a ha hb => ?_⟩
  · simp (disch := first | omega | assumption) only [h22_0, h22_1, h22_4, h22_7, h22_9, h22_10, h22_11, h22_12, h22_15, h22_16, h22_17, h22_20, h22_21, h22_24, h22_25, h22_28, h22_29, h22_30, h22_31, h22_34, h22_35, h22_36, h22_39, h22_40, h22_43, Option.bind_some, Option.toList_some, Option.toList_none, List.cons_append, List.nil_append, nI_ltc, nI_lec, nI_eqc, nI_ne5, n5_ne, n5_lt, bI_0, bI_1, nI_add, pk_mul, if_pos, if_neg, ite_not, if_true, if_false, not_true_eq_false, not_false_eq_true, true_and, false_and, and_true, and_false, Nat.reduceAdd, Nat.reduceMul, h, hsub, hs, e, h27]
  · rw [hrk]
    exact rk_cong (fun a h1 h2 => by funext j; exact u2_oa (by rcases hp.1 c hc with q | q | q | q <;> omega))
  · rw [hout a (by omega)]
    funext j
    exact u2_oa ha
theorem z_put (r j b s : Nat) (k : Int32) (hr : isRk r) (hj : j < 12) (hb : b < 13) (hs : s < 4) : zsem d 19 0 [.inr (.inl (some r)), .inl (nI j), .inl k, .inl (nI b), .inl (nI s)] [] (HH L mu p) = some (none, HH L (u2 (u2 (u2 (u2 mu (r + 1) j k) (r + 2) j (nI b)) (r + 3) j (nI s)) (r + 4) (b * 4 + s) (nI j)) p) := by
  simp (disch := first | omega | assumption) only [h19_0, h19_1, h19_4, h19_5, h19_6, h19_7, h19_8, h19_11, h19_12, h19_13, h19_14, h19_15, h19_18, h19_19, h19_21, h19_22, h19_23, h19_26, h19_27, h19_28, h19_29, h19_31, h19_32, h19_33, h19_34, Option.bind_some, Option.toList_some, Option.toList_none, List.cons_append, List.nil_append, nI_ltc, nI_lec, nI_eqc, nI_ne5, n5_ne, n5_lt, bI_0, bI_1, nI_add, pk_mul, if_pos, if_neg, ite_not, if_true, if_false, not_true_eq_false, not_false_eq_true, true_and, false_and, and_true, and_false, Nat.reduceAdd, Nat.reduceMul]
theorem z_changeRegion (r j q : Nat) (x y : Int32) (hr : isRk r) (hj : j < 12) (hq : q < 3) : zsem (d + 1) 83 0 [.inr (.inl (some r)), .inl (nI j), .inl (nI q), .inl x, .inl y, .inr (.inl none)] [] (HH L mu p) = some (none, HH L (u2 (u2 (u2 mu (r + 5) (j * 3 + q) x) (r + 6) (j * 3 + q) y) (r + 7) (j * 3 + q) (-5)) p) := by
  simp (disch := first | omega | assumption) only [h83_0, h83_1, h83_2, h83_5, h83_7, h83_8, h83_11, h83_13, h83_14, h83_15, h83_16, h83_19, h83_21, h83_23, h83_24, h83_25, h83_28, h83_30, h83_32, h83_33, Option.bind_some, Option.toList_some, Option.toList_none, List.cons_append, List.nil_append, nI_ltc, nI_lec, nI_eqc, nI_ne5, n5_ne, n5_lt, bI_0, bI_1, nI_add, pk_mul, if_pos, if_neg, ite_not, if_true, if_false, not_true_eq_false, not_false_eq_true, true_and, false_and, and_true, and_false, Nat.reduceAdd, Nat.reduceMul, z_regionIndex]
theorem z_openWindow (j s : Nat) (x y : Int32) (hj : j < 12) (hs : s < 2) : zsem (d + 1) 101 0 [.inr (.inl (some 1)), .inl (nI j), .inl (nI s), .inl x, .inl y] [] (HH L mu p) = some (none, HH L (u2 (u2 mu 10 (j * 2 + s) x) 11 (j * 2 + s) y) p) := by
  simp (disch := first | omega | assumption) only [h101_0, h101_1, h101_4, h101_5, h101_6, h101_9, h101_10, h101_11, h101_12, h101_15, h101_16, h101_17, h101_20, h101_22, h101_23, Option.bind_some, Option.toList_some, Option.toList_none, List.cons_append, List.nil_append, nI_ltc, nI_lec, nI_eqc, nI_ne5, n5_ne, n5_lt, bI_0, bI_1, nI_add, pk_mul, if_pos, if_neg, ite_not, if_true, if_false, not_true_eq_false, not_false_eq_true, true_and, false_and, and_true, and_false, Nat.reduceAdd, Nat.reduceMul, z_windowIndex]
end
/-- a device loses what numbering and placing gave -/
def relR (R : RV) (j : Nat) : RV := fun a i => if (a = 12 ∧ i = j) ∨ (a = 13 ∧ i = j) ∨ (a = 10 ∧ i / 2 = j) ∨ (a = 8 ∧ i / 3 = j) then -5 else if a = 11 ∧ i / 2 = j then nI 0 else R a i
/-- how many regions of the device have a base -/
def lost (R : RV) (j : Nat) : Nat := (if R 8 (j * 3 + 0) = -5 then 0 else 1) + (if R 8 (j * 3 + 1) = -5 then 0 else 1) + (if R 8 (j * 3 + 2) = -5 then 0 else 1)
theorem rel_chain (mu : RV) (j : Nat) : u2 (u2 (u2 (u2 (u2 (u2 (u2 (u2 (u2 mu 12 j (-5)) 13 j (-5)) 10 (j * 2 + 0) (-5)) 11 (j * 2 + 0) (nI 0)) 10 (j * 2 + 1) (-5)) 11 (j * 2 + 1) (nI 0)) 8 (j * 3 + 0) (-5)) 8 (j * 3 + 1) (-5)) 8 (j * 3 + 2) (-5) = relR mu j := by
  funext a i
  unfold relR
  by_cases h8 : a = 8 ∧ i / 3 = j
  · obtain ⟨rfl, h⟩ := h8
    rw [if_pos (by omega)]
    have : i = j * 3 + 0 ∨ i = j * 3 + 1 ∨ i = j * 3 + 2 := by omega
    rcases this with rfl | rfl | rfl <;> simp (disch := omega) only [u2_o, u2_s]
  · by_cases h10 : a = 10 ∧ i / 2 = j
    · obtain ⟨rfl, h⟩ := h10
      rw [if_pos (by omega)]
      have : i = j * 2 + 0 ∨ i = j * 2 + 1 := by omega
      rcases this with rfl | rfl <;> simp (disch := omega) only [u2_o, u2_s]
    · by_cases h11 : a = 11 ∧ i / 2 = j
      · obtain ⟨rfl, h⟩ := h11
        rw [if_neg (by omega), if_pos (by omega)]
        have : i = j * 2 + 0 ∨ i = j * 2 + 1 := by omega
        rcases this with rfl | rfl <;> simp (disch := omega) only [u2_o, u2_s]
      · by_cases h12 : a = 12 ∧ i = j
        · obtain ⟨rfl, rfl⟩ := h12
          rw [if_pos (by omega)]
          simp (disch := omega) only [u2_o, u2_s]
        · by_cases h13 : a = 13 ∧ i = j
          · obtain ⟨rfl, rfl⟩ := h13
            rw [if_pos (by omega)]
            simp (disch := omega) only [u2_o, u2_s]
          · rw [if_neg (by omega), if_neg (by omega)]
            simp (disch := omega) only [u2_o]
section
variable (d L : Nat) (mu : RV) (p : Nat → Nat)
theorem z_release (j : Nat) (hj : j < 12) : zsem (d + 1) 91 0 [.inr (.inl (some 1)), .inl (nI j), .inr (.inl none), .inr (.inl none), .inr (.inl none)] [] (HH L mu p) = some (some (.inl (nI (lost mu j))), HH L (relR mu j) p) := by
  rw [← rel_chain]
  unfold lost
  by_cases h0 : mu 8 (j * 3 + 0) = -5 <;> by_cases h1 : mu 8 (j * 3 + 1) = -5 <;> by_cases h2 : mu 8 (j * 3 + 2) = -5 <;>
    simp (disch := first | omega | assumption) only [h91_0, h91_1, h91_4, h91_5, h91_7, h91_8, h91_9, h91_12, h91_13, h91_15, h91_16, h91_17, h91_18, h91_19, h91_20, h91_23, h91_24, h91_27, h91_28, h91_29, h91_32, h91_34, h91_35, h91_36, h91_39, h91_40, h91_41, h91_44, h91_45, h91_46, h91_49, h91_52, h91_53, h91_54, h91_55, h91_56, h91_57, h91_58, h91_61, h91_62, h91_63, h91_66, h91_68, h91_69, h91_70, h91_73, h91_75, h91_76, h91_78, h91_81, h91_82, h91_85, h91_86, h91_87, h91_88, h91_89, h91_92, h91_94, h91_96, h91_97, h91_100, h91_103, h91_104, Option.bind_some, Option.toList_some, Option.toList_none, List.cons_append, List.nil_append, nI_ltc, nI_lec, nI_eqc, nI_ne5, n5_ne, n5_lt, bI_0, bI_1, nI_add, pk_mul, if_pos, if_neg, ite_not, if_true, if_false, not_true_eq_false, not_false_eq_true, true_and, false_and, and_true, and_false, Nat.reduceAdd, Nat.reduceMul, ↓reduceIte, Nat.reduceLeDiff, Nat.reduceLT, Nat.reduceEqDiff, z_windowIndex, z_regionIndex, u2_o, h0, h1, h2]
end
