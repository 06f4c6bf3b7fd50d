/-! pulling many devices: class -/
def sn (R : RV) (d : Nat) : Nat := (R 4 d).toNatClampNeg
def remA (R : RV) (f : Nat → Bool) : Nat → RV
  | 0 => R
  | n + 1 => if f n = true then remR (remA R f n) n (bn R n) (sn R n) else remA R f n
theorem remR_3 (R : RV) (j b s : Nat) : remR R j b s 3 = R 3 := by funext i; unfold remR; rw [if_neg (by omega), if_neg (by omega), relR_3]
theorem remR_4 (R : RV) (j b s : Nat) : remR R j b s 4 = R 4 := by funext i; unfold remR; rw [if_neg (by omega), if_neg (by omega), relR_4]
theorem remA_34 (R : RV) (f : Nat → Bool) : ∀ n, remA R f n 3 = R 3 ∧ remA R f n 4 = R 4 := by
  intro n
  induction n with
  | zero => exact ⟨rfl, rfl⟩
  | succ n ih =>
    unfold remA
    split
    · rw [remR_3, remR_4]; exact ih
    · exact ih
def hit (R : RV) (f : Nat → Bool) (n i : Nat) : Prop := ∃ j, j < n ∧ f j = true ∧ i = bn R j * 4 + sn R j
/-- the rack without these devices -/
theorem remA_at (R : RV) (f : Nat → Bool) : ∀ n a i, ((a = 7 ∧ i / 3 < n ∧ f (i / 3) = true) ∨ (a = 9 ∧ i / 2 < n ∧ f (i / 2) = true) ∨ (a = 2 ∧ i < n ∧ f i = true) → remA R f n a i = nI 0) ∧
    (¬((a = 7 ∧ i / 3 < n ∧ f (i / 3) = true) ∨ (a = 9 ∧ i / 2 < n ∧ f (i / 2) = true) ∨ (a = 2 ∧ i < n ∧ f i = true)) → (a = 5 ∧ hit R f n i → remA R f n a i = -5) ∧ (¬(a = 5 ∧ hit R f n i) → remA R f n a i = relS R f n a i)) := by
  intro n
  induction n with
  | zero =>
    intro a i
    refine ⟨fun h => by omega, fun _ => ⟨fun h => ?_, fun _ => by rw [relS_0]; rfl⟩⟩
    obtain ⟨-, j, h, -⟩ := h
    omega
  | succ n ih =>
    intro a i
    obtain ⟨h1, h2⟩ := ih a i
    by_cases hf : f n = true
    · have e : remA R f (n + 1) = remR (remA R f n) n (bn R n) (sn R n) := by
        show (if _ then _ else _) = _
        rw [if_pos hf]
      have ek : ∀ k, (k < n + 1 ∧ f k = true) = (k = n ∨ (k < n ∧ f k = true)) := by
        intro k
        by_cases hk : k = n
        · subst hk; simp [hf]
        · rw [ltn_s hk]; simp [hk]
      have eh : hit R f (n + 1) i ↔ (i = bn R n * 4 + sn R n ∨ hit R f n i) := by
        constructor
        · rintro ⟨j, g1, g2, g3⟩
          by_cases hj : j = n
          · subst hj; exact Or.inl g3
          · exact Or.inr ⟨j, by omega, g2, g3⟩
        · rintro (g | ⟨j, g1, g2, g3⟩)
          · exact ⟨n, by omega, hf, g⟩
          · exact ⟨j, by omega, g2, g3⟩
      rw [e, relS_s _ _ _ hf]
      simp only [ek, eh]
      unfold remR
      constructor
      · intro q
        by_cases hq : (a = 7 ∧ i / 3 = n) ∨ (a = 9 ∧ i / 2 = n) ∨ (a = 2 ∧ i = n)
        · rw [if_pos hq]
        · have hq2 : (a = 7 ∧ i / 3 < n ∧ f (i / 3) = true) ∨ (a = 9 ∧ i / 2 < n ∧ f (i / 2) = true) ∨ (a = 2 ∧ i < n ∧ f i = true) := by
            rcases q with ⟨r, s | s⟩ | ⟨r, s | s⟩ | ⟨r, s | s⟩
            · exact absurd (Or.inl ⟨r, s⟩) hq
            · exact Or.inl ⟨r, s⟩
            · exact absurd (Or.inr (Or.inl ⟨r, s⟩)) hq
            · exact Or.inr (Or.inl ⟨r, s⟩)
            · exact absurd (Or.inr (Or.inr ⟨r, s⟩)) hq
            · exact Or.inr (Or.inr ⟨r, s⟩)
          rw [if_neg hq, if_neg (by rcases hq2 with r | r | r <;> omega)]
          unfold relR
          rw [if_neg (by rcases hq2 with r | r | r <;> omega), if_neg (by rcases hq2 with r | r | r <;> omega)]
          exact h1 hq2
      · intro q
        have hq : ¬((a = 7 ∧ i / 3 = n) ∨ (a = 9 ∧ i / 2 = n) ∨ (a = 2 ∧ i = n)) := by
          rintro (⟨r, s⟩ | ⟨r, s⟩ | ⟨r, s⟩)
          · exact q (Or.inl ⟨r, Or.inl s⟩)
          · exact q (Or.inr (Or.inl ⟨r, Or.inl s⟩))
          · exact q (Or.inr (Or.inr ⟨r, Or.inl s⟩))
        have hq2 : ¬((a = 7 ∧ i / 3 < n ∧ f (i / 3) = true) ∨ (a = 9 ∧ i / 2 < n ∧ f (i / 2) = true) ∨ (a = 2 ∧ i < n ∧ f i = true)) := by
          rintro (⟨r, s⟩ | ⟨r, s⟩ | ⟨r, s⟩)
          · exact q (Or.inl ⟨r, Or.inr s⟩)
          · exact q (Or.inr (Or.inl ⟨r, Or.inr s⟩))
          · exact q (Or.inr (Or.inr ⟨r, Or.inr s⟩))
        obtain ⟨h3, h4⟩ := h2 hq2
        rw [if_neg hq]
        constructor
        · rintro ⟨r, s | s⟩
          · rw [if_pos ⟨r, s⟩]
          · by_cases g : a = 5 ∧ i = bn R n * 4 + sn R n
            · rw [if_pos g]
            · rw [if_neg g]
              unfold relR
              rw [if_neg (by omega), if_neg (by omega)]
              exact h3 ⟨r, s⟩
        · intro r
          rw [if_neg (fun s => r ⟨s.1, Or.inl s.2⟩)]
          unfold relR
          rw [h4 (fun s => r ⟨s.1, Or.inr s.2⟩)]
    · have e : remA R f (n + 1) = remA R f n := by
        show (if _ then _ else _) = _
        rw [if_neg hf]
      have ek : ∀ k, (k < n + 1 ∧ f k = true) = (k < n ∧ f k = true) := by
        intro k
        by_cases hk : k = n
        · subst hk; simp [hf]
        · rw [ltn_s hk]
      have eh : hit R f (n + 1) i ↔ hit R f n i := by
        constructor
        · rintro ⟨j, g1, g2, g3⟩
          refine ⟨j, ?_, g2, g3⟩
          by_cases hj : j = n
          · subst hj; exact absurd g2 hf
          · omega
        · rintro ⟨j, g1, g2, g3⟩
          exact ⟨j, by omega, g2, g3⟩
      rw [e, relS_n _ _ _ hf]
      simp only [ek, eh]
      exact ⟨h1, h2⟩
section
variable (d L : Nat) (mu : RV) (p : Nat → Nat)
theorem z_pullL (f : Nat → Bool) (M : Nat) (hM : M < 4096) (hf : ∀ j, j < 12 → (M / 2 ^ j % 2 = 1 ↔ f j = true)) (hb : ∀ j, j < 12 → f j = true → ∃ b s, b < 13 ∧ s < 4 ∧ mu 3 j = nI b ∧ mu 4 j = nI s) (a0 : Int32) : ∀ n i, i + n = 12 → zsem (d + 3) 86 35 [.inr (.inl (some 0)), .inl a0, .inl (nI M), .inl (nI i)] [] (HH L (remA mu f i) p) = some (some (.inl (bcF (nI M))), HH L (remA mu f 12) p) := by
  intro n
  induction n with
  | zero =>
    intro i hi
    have : i = 12 := by omega
    subst this
    rw [h86_35]
    simp (disch := first | omega | assumption) only [h86_0, h86_1, h86_4, h86_5, h86_8, h86_11, h86_12, h86_13, h86_14, h86_17, h86_18, h86_21, h86_24, h86_25, h86_28, h86_29, h86_32, h86_33, h86_34, h86_36, h86_38, h86_41, h86_42, h86_43, h86_46, h86_49, h86_50, h86_53, h86_54, h86_57, h86_60, h86_63, h86_64, h86_67, Option.bind_some, Option.toList_some, Option.toList_none, List.cons_append, List.nil_append, nI_ltc, nI_lec, nI_eqc, nI_ne5, n5_ne, n5_lt, bI_0, bI_1, nI_add, pk_mul, if_pos, if_neg, ite_not, if_true, if_false, not_true_eq_false, not_false_eq_true, true_and, false_and, and_true, and_false, Nat.reduceAdd, Nat.reduceMul, z_bitCount]
  | succ n ih =>
    intro i hi
    rw [← ih (i + 1) (by omega), h86_35]
    have hi12 : i < 12 := by omega
    have hbit := bit_at i hi12 M hM
    by_cases hk : f i = true
    · have h1 := (hf i hi12).mpr hk
      rw [h1] at hbit
      obtain ⟨b, s, hb1, hs1, e3, e4⟩ := hb i hi12 hk
      obtain ⟨g3, g4⟩ := remA_34 mu f i
      have eb : bn mu i = b := bn_of e3 hb1
      have es : sn mu i = s := by unfold sn; rw [e4]; exact nI_clamp (by omega)
      have e : remA mu f (i + 1) = remR (remA mu f i) i b s := by
        show (if _ then _ else _) = _
        rw [if_pos hk, eb, es]
      have hr := z_remove d L (remA mu f i) p i b s hi12 hb1 hs1 (by rw [g3]; exact e3) (by rw [g4]; exact e4)
      rw [e]
      simp (disch := first | omega | assumption) only [h86_0, h86_1, h86_4, h86_5, h86_8, h86_11, h86_12, h86_13, h86_14, h86_17, h86_18, h86_21, h86_24, h86_25, h86_28, h86_29, h86_32, h86_33, h86_34, h86_36, h86_38, h86_41, h86_42, h86_43, h86_46, h86_49, h86_50, h86_53, h86_54, h86_57, h86_60, h86_63, h86_64, h86_67, Option.bind_some, Option.toList_some, Option.toList_none, List.cons_append, List.nil_append, nI_ltc, nI_lec, nI_eqc, nI_ne5, n5_ne, n5_lt, bI_0, bI_1, nI_add, pk_mul, if_pos, if_neg, ite_not, if_true, if_false, not_true_eq_false, not_false_eq_true, true_and, false_and, and_true, and_false, Nat.reduceAdd, Nat.reduceMul, z_isIn, hr, hbit]
    · have h1 : M / 2 ^ i % 2 = 0 := by
        have := mt (hf i hi12).mp hk
        omega
      rw [h1] at hbit
      have e : remA mu f (i + 1) = remA mu f i := by
        show (if _ then _ else _) = _
        rw [if_neg hk]
      rw [e]
      simp (disch := first | omega | assumption) only [h86_0, h86_1, h86_4, h86_5, h86_8, h86_11, h86_12, h86_13, h86_14, h86_17, h86_18, h86_21, h86_24, h86_25, h86_28, h86_29, h86_32, h86_33, h86_34, h86_36, h86_38, h86_41, h86_42, h86_43, h86_46, h86_49, h86_50, h86_53, h86_54, h86_57, h86_60, h86_63, h86_64, h86_67, Option.bind_some, Option.toList_some, Option.toList_none, List.cons_append, List.nil_append, nI_ltc, nI_lec, nI_eqc, nI_ne5, n5_ne, n5_lt, bI_0, bI_1, nI_add, pk_mul, if_pos, if_neg, ite_not, if_true, if_false, not_true_eq_false, not_false_eq_true, true_and, false_and, and_true, and_false, Nat.reduceAdd, Nat.reduceMul, z_isIn, hbit]
end
