/-! many devices lose what they have: class -/
def relS (R : RV) (f : Nat → Bool) (n : Nat) : RV := fun a i =>
  if (a = 12 ∧ i < n ∧ f i = true) ∨ (a = 13 ∧ i < n ∧ f i = true) ∨ (a = 10 ∧ i / 2 < n ∧ f (i / 2) = true) ∨ (a = 8 ∧ i / 3 < n ∧ f (i / 3) = true) then -5
  else if a = 11 ∧ i / 2 < n ∧ f (i / 2) = true then nI 0 else R a i
theorem ltn_s {i n : Nat} (h : ¬i = n) : (i < n + 1) = (i < n) := propext (by omega)
theorem relS_0 (R : RV) (f : Nat → Bool) : relS R f 0 = R := by
  funext a i
  unfold relS
  rw [if_neg (by omega), if_neg (by omega)]
theorem relS_n (R : RV) (f : Nat → Bool) (n : Nat) (h : ¬f n = true) : relS R f (n + 1) = relS R f n := by
  funext a i
  have e : ∀ k, (k < n + 1 ∧ f k = true) = (k < n ∧ f k = true) := by
    intro k
    by_cases hk : k = n
    · subst hk; simp [h]
    · rw [ltn_s hk]
  unfold relS
  simp only [e]
theorem relS_s (R : RV) (f : Nat → Bool) (n : Nat) (h : f n = true) : relS R f (n + 1) = relR (relS R f n) n := by
  funext a i
  have e : ∀ k, (k < n + 1 ∧ f k = true) = (k = n ∨ (k < n ∧ f k = true)) := by
    intro k
    by_cases hk : k = n
    · subst hk; simp [h]
    · rw [ltn_s hk]; simp [hk]
  unfold relS relR
  simp only [e]
  by_cases h12 : a = 12
  · subst h12; by_cases hi : i = n <;> simp [hi]
  · by_cases h13 : a = 13
    · subst h13; by_cases hi : i = n <;> simp [hi]
    · by_cases h10 : a = 10
      · subst h10; by_cases hi : i / 2 = n <;> simp [hi]
      · by_cases h8 : a = 8
        · subst h8; by_cases hi : i / 3 = n <;> simp [hi]
        · by_cases h11 : a = 11
          · subst h11; by_cases hi : i / 2 = n <;> simp [hi]
          · simp [h12, h13, h10, h8, h11]
theorem relR_3 (R : RV) (j : Nat) : relR R j 3 = R 3 := by funext i; unfold relR; rw [if_neg (by omega), if_neg (by omega)]
theorem relR_4 (R : RV) (j : Nat) : relR R j 4 = R 4 := by funext i; unfold relR; rw [if_neg (by omega), if_neg (by omega)]
theorem relR_8 (R : RV) (n j q : Nat) (h : ¬j = n) (hq : q < 3) : relR R n 8 (j * 3 + q) = R 8 (j * 3 + q) := by
  unfold relR; rw [if_neg (by omega), if_neg (by omega)]
theorem relS_8 (R : RV) (f : Nat → Bool) (n j q : Nat) (h : n ≤ j) (hq : q < 3) : relS R f n 8 (j * 3 + q) = R 8 (j * 3 + q) := by
  unfold relS; rw [if_neg (by omega), if_neg (by omega)]
/-- how many regions of these devices have a base -/
def lostS (R : RV) (f : Nat → Bool) : Nat → Nat
  | 0 => 0
  | n + 1 => lostS R f n + if f n = true then lost R n else 0
theorem lost_rel (R : RV) (f : Nat → Bool) (n : Nat) : lost (relS R f n) n = lost R n := by
  unfold lost
  rw [relS_8 _ _ _ _ _ (Nat.le_refl _) (by omega), relS_8 _ _ _ _ _ (Nat.le_refl _) (by omega), relS_8 _ _ _ _ _ (Nat.le_refl _) (by omega)]
def remR (R : RV) (j b s : Nat) : RV := fun a i => if (a = 7 ∧ i / 3 = j) ∨ (a = 9 ∧ i / 2 = j) ∨ (a = 2 ∧ i = j) then nI 0 else if a = 5 ∧ i = b * 4 + s then -5 else relR R j a i
theorem rem_chain (mu : RV) (j b s : Nat) : u2 (u2 (u2 (u2 (u2 (u2 (u2 (relR mu j) 7 (j * 3 + 0) (nI 0)) 7 (j * 3 + 1) (nI 0)) 7 (j * 3 + 2) (nI 0)) 9 (j * 2 + 0) (nI 0)) 9 (j * 2 + 1) (nI 0)) 2 j (nI 0)) 5 (b * 4 + s) (-5) = remR mu j b s := by
  funext a i
  unfold remR
  by_cases h7 : a = 7 ∧ i / 3 = j
  · obtain ⟨rfl, h⟩ := h7
    rw [if_pos (by omega)]
    have : i = j * 3 + 0 ∨ i = j * 3 + 1 ∨ i = j * 3 + 2 := by omega
    rcases this with rfl | rfl | rfl <;> simp (disch := omega) only [u2_o, u2_s]
  · by_cases h9 : a = 9 ∧ i / 2 = j
    · obtain ⟨rfl, h⟩ := h9
      rw [if_pos (by omega)]
      have : i = j * 2 + 0 ∨ i = j * 2 + 1 := by omega
      rcases this with rfl | rfl <;> simp (disch := omega) only [u2_o, u2_s]
    · by_cases h2 : a = 2 ∧ i = j
      · obtain ⟨rfl, rfl⟩ := h2
        rw [if_pos (by omega)]
        simp (disch := omega) only [u2_o, u2_s]
      · by_cases h5 : a = 5 ∧ i = b * 4 + s
        · obtain ⟨rfl, rfl⟩ := h5
          rw [if_neg (by omega), if_pos (by omega), u2_s]
        · rw [if_neg (by omega), if_neg (by omega)]
          simp (disch := omega) only [u2_o]
section
variable (d L : Nat) (mu : RV) (p : Nat → Nat)
theorem z_remove (j b s : Nat) (hj : j < 12) (hb : b < 13) (hs : s < 4) (h3 : mu 3 j = nI b) (h4 : mu 4 j = nI s) : zsem (d + 2) 90 0 [.inr (.inl (some 1)), .inl (nI j), .inr (.inl none)] [] (HH L mu p) = some (none, HH L (remR mu j b s) p) := by
  rw [← rem_chain]
  simp (disch := first | omega | assumption) only [h90_0, h90_1, h90_2, h90_5, h90_6, h90_7, h90_8, h90_9, h90_10, h90_13, h90_14, h90_17, h90_18, h90_19, h90_22, h90_23, h90_24, h90_27, h90_30, h90_31, h90_32, h90_33, h90_34, h90_37, h90_38, h90_41, h90_42, h90_43, h90_46, h90_47, h90_48, h90_51, h90_54, h90_55, h90_58, h90_59, h90_60, h90_61, h90_62, h90_65, h90_66, h90_69, h90_70, h90_71, h90_72, h90_73, h90_74, h90_77, h90_78, h90_79, h90_80, h90_82, h90_83, Option.bind_some, Option.toList_some, Option.toList_none, List.cons_append, List.nil_append, nI_ltc, nI_lec, nI_eqc, nI_ne5, n5_ne, n5_lt, bI_0, bI_1, nI_add, pk_mul, if_pos, if_neg, ite_not, if_true, if_false, not_true_eq_false, not_false_eq_true, true_and, false_and, and_true, and_false, Nat.reduceAdd, Nat.reduceMul, ↓reduceIte, Nat.reduceLeDiff, Nat.reduceLT, Nat.reduceEqDiff, z_release, z_windowIndex, z_regionIndex, u2_o, relR_3, relR_4, h3, h4]
/-- after releasing some devices -/
theorem z_detachL (f : Nat → Bool) (M : Nat) (hM : M < 4096) (hf : ∀ j, j < 12 → (M / 2 ^ j % 2 = 1 ↔ f j = true)) (a0 : Int32) : ∀ n i, i + n = 12 → zsem (d + 2) 93 38 [.inr (.inl (some 0)), .inl a0, .inl (nI M), .inl (nI (lostS mu f i)), .inl (nI i)] [] (HH L (relS mu f i) p) = some (some (.inl (nI (lostS mu f 12))), HH L (relS mu f 12) p) := by
  intro n
  induction n with
  | zero =>
    intro i hi
    have : i = 12 := by omega
    subst this
    rw [h93_38]
    simp (disch := first | omega | assumption) only [h93_0, h93_1, h93_4, h93_5, h93_8, h93_11, h93_12, h93_13, h93_14, h93_17, h93_18, h93_21, h93_24, h93_25, h93_28, h93_29, h93_32, h93_33, h93_34, h93_35, h93_36, h93_40, h93_42, h93_45, h93_46, h93_48, h93_51, h93_54, h93_55, h93_56, h93_59, h93_61, h93_64, h93_65, h93_66, h93_69, h93_72, h93_73, Option.bind_some, Option.toList_some, Option.toList_none, List.cons_append, List.nil_append, nI_ltc, nI_lec, nI_eqc, nI_ne5, n5_ne, n5_lt, bI_0, bI_1, nI_add, pk_mul, if_pos, if_neg, ite_not, if_true, if_false, not_true_eq_false, not_false_eq_true, true_and, false_and, and_true, and_false, Nat.reduceAdd, Nat.reduceMul]
  | succ n ih =>
    intro i hi
    rw [← ih (i + 1) (by omega), h93_38]
    have hi12 : i < 12 := by omega
    have hbit := bit_at i hi12 M hM
    by_cases hk : f i = true
    · have h1 := (hf i hi12).mpr hk
      rw [h1] at hbit
      have e : lostS mu f (i + 1) = lostS mu f i + lost mu i := by show _ + _ = _; rw [if_pos hk]
      rw [relS_s _ _ _ hk, e]
      have hl := lost_rel mu f i
      simp (disch := first | omega | assumption) only [h93_0, h93_1, h93_4, h93_5, h93_8, h93_11, h93_12, h93_13, h93_14, h93_17, h93_18, h93_21, h93_24, h93_25, h93_28, h93_29, h93_32, h93_33, h93_34, h93_35, h93_36, h93_40, h93_42, h93_45, h93_46, h93_48, h93_51, h93_54, h93_55, h93_56, h93_59, h93_61, h93_64, h93_65, h93_66, h93_69, h93_72, h93_73, Option.bind_some, Option.toList_some, Option.toList_none, List.cons_append, List.nil_append, nI_ltc, nI_lec, nI_eqc, nI_ne5, n5_ne, n5_lt, bI_0, bI_1, nI_add, pk_mul, if_pos, if_neg, ite_not, if_true, if_false, not_true_eq_false, not_false_eq_true, true_and, false_and, and_true, and_false, Nat.reduceAdd, Nat.reduceMul, z_isIn, z_release, hbit, hl]
    · have h1 : M / 2 ^ i % 2 = 0 := by
        have := mt (hf i hi12).mp hk
        omega
      rw [h1] at hbit
      have e : lostS mu f (i + 1) = lostS mu f i := by show _ + _ = _; rw [if_neg hk, Nat.add_zero]
      rw [relS_n _ _ _ hk, e]
      simp (disch := first | omega | assumption) only [h93_0, h93_1, h93_4, h93_5, h93_8, h93_11, h93_12, h93_13, h93_14, h93_17, h93_18, h93_21, h93_24, h93_25, h93_28, h93_29, h93_32, h93_33, h93_34, h93_35, h93_36, h93_40, h93_42, h93_45, h93_46, h93_48, h93_51, h93_54, h93_55, h93_56, h93_59, h93_61, h93_64, h93_65, h93_66, h93_69, h93_72, h93_73, Option.bind_some, Option.toList_some, Option.toList_none, List.cons_append, List.nil_append, nI_ltc, nI_lec, nI_eqc, nI_ne5, n5_ne, n5_lt, bI_0, bI_1, nI_add, pk_mul, if_pos, if_neg, ite_not, if_true, if_false, not_true_eq_false, not_false_eq_true, true_and, false_and, and_true, and_false, Nat.reduceAdd, Nat.reduceMul, z_isIn, hbit]
theorem z_unplL : ∀ n i, i + n = 36 → zsem d 79 4 [.inr (.inl (some 1)), .inl (nI (cntP (fun i => nI 0 < mu 7 i ∧ mu 8 i = -5) i)), .inl (nI i)] [] (HH L mu p) = some (some (.inl (nI (cntP (fun i => nI 0 < mu 7 i ∧ mu 8 i = -5) 36))), HH L mu p) := by
  intro n
  induction n with
  | zero =>
    intro i hi
    have : i = 36 := by omega
    subst this
    rw [h79_4]
    simp (disch := first | omega | assumption) only [h79_0, h79_1, h79_2, h79_3, h79_5, h79_7, h79_10, h79_11, h79_14, h79_15, h79_16, h79_19, h79_20, h79_23, h79_24, h79_25, h79_27, h79_30, h79_33, h79_36, h79_39, h79_40, Option.bind_some, Option.toList_some, Option.toList_none, List.cons_append, List.nil_append, nI_ltc, nI_lec, nI_eqc, nI_ne5, n5_ne, n5_lt, bI_0, bI_1, nI_add, pk_mul, if_pos, if_neg, ite_not, if_true, if_false, not_true_eq_false, not_false_eq_true, true_and, false_and, and_true, and_false, Nat.reduceAdd, Nat.reduceMul]
  | succ n ih =>
    intro i hi
    rw [← ih (i + 1) (by omega), h79_4]
    by_cases h1 : nI 0 < mu 7 i
    · have h1' : ¬mu 7 i ≤ nI 0 := by rw [Int32.not_le]; exact h1
      by_cases h2 : mu 8 i = -5
      · rw [cnt_s (fun i => nI 0 < mu 7 i ∧ mu 8 i = -5) ⟨h1, h2⟩]
        simp (disch := first | omega | assumption) only [h79_0, h79_1, h79_2, h79_3, h79_5, h79_7, h79_10, h79_11, h79_14, h79_15, h79_16, h79_19, h79_20, h79_23, h79_24, h79_25, h79_27, h79_30, h79_33, h79_36, h79_39, h79_40, Option.bind_some, Option.toList_some, Option.toList_none, List.cons_append, List.nil_append, nI_ltc, nI_lec, nI_eqc, nI_ne5, n5_ne, n5_lt, bI_0, bI_1, nI_add, pk_mul, if_pos, if_neg, ite_not, if_true, if_false, not_true_eq_false, not_false_eq_true, true_and, false_and, and_true, and_false, Nat.reduceAdd, Nat.reduceMul, h1', h2]
      · rw [cnt_n (fun i => nI 0 < mu 7 i ∧ mu 8 i = -5) (fun q => h2 q.2)]
        simp (disch := first | omega | assumption) only [h79_0, h79_1, h79_2, h79_3, h79_5, h79_7, h79_10, h79_11, h79_14, h79_15, h79_16, h79_19, h79_20, h79_23, h79_24, h79_25, h79_27, h79_30, h79_33, h79_36, h79_39, h79_40, Option.bind_some, Option.toList_some, Option.toList_none, List.cons_append, List.nil_append, nI_ltc, nI_lec, nI_eqc, nI_ne5, n5_ne, n5_lt, bI_0, bI_1, nI_add, pk_mul, if_pos, if_neg, ite_not, if_true, if_false, not_true_eq_false, not_false_eq_true, true_and, false_and, and_true, and_false, Nat.reduceAdd, Nat.reduceMul, h1', h2]
    · have h1' : mu 7 i ≤ nI 0 := by rw [← Int32.not_lt]; exact h1
      rw [cnt_n (fun i => nI 0 < mu 7 i ∧ mu 8 i = -5) (fun q => h1 q.1)]
      simp (disch := first | omega | assumption) only [h79_0, h79_1, h79_2, h79_3, h79_5, h79_7, h79_10, h79_11, h79_14, h79_15, h79_16, h79_19, h79_20, h79_23, h79_24, h79_25, h79_27, h79_30, h79_33, h79_36, h79_39, h79_40, Option.bind_some, Option.toList_some, Option.toList_none, List.cons_append, List.nil_append, nI_ltc, nI_lec, nI_eqc, nI_ne5, n5_ne, n5_lt, bI_0, bI_1, nI_add, pk_mul, if_pos, if_neg, ite_not, if_true, if_false, not_true_eq_false, not_false_eq_true, true_and, false_and, and_true, and_false, Nat.reduceAdd, Nat.reduceMul, h1']
theorem z_countUnplaced : zsem d 79 0 [.inr (.inl (some 1)), .inr (.inl none), .inr (.inl none)] [] (HH L mu p) = some (some (.inl (nI (cntP (fun i => nI 0 < mu 7 i ∧ mu 8 i = -5) 36))), HH L mu p) := by
  rw [← z_unplL d L mu p 36 0 rfl]
  simp (disch := first | omega | assumption) only [h79_0, h79_1, h79_2, h79_3, h79_5, h79_7, h79_10, h79_11, h79_14, h79_15, h79_16, h79_19, h79_20, h79_23, h79_24, h79_25, h79_27, h79_30, h79_33, h79_36, h79_39, h79_40, Option.bind_some, Option.toList_some, Option.toList_none, List.cons_append, List.nil_append, nI_ltc, nI_lec, nI_eqc, nI_ne5, n5_ne, n5_lt, bI_0, bI_1, nI_add, pk_mul, if_pos, if_neg, ite_not, if_true, if_false, not_true_eq_false, not_false_eq_true, true_and, false_and, and_true, and_false, Nat.reduceAdd, Nat.reduceMul]
  rfl
end
