/-! sizes and reserves -/
theorem nI_div {a b : Nat} (ha : a < 2147483648) (hb : b < 2147483648) (h0 : 0 < b) : nI a / nI b = nI (a / b) := by
  have hle : a / b ≤ a := Nat.div_le_self _ _
  have hne : nI b ≠ -1 := by
    intro q
    have := congrArg Int32.toInt q
    rw [nI_toInt (by omega)] at this
    have h1 : (-1 : Int32).toInt = -1 := by decide
    omega
  apply Int32.toInt_inj.1
  rw [Int32.toInt_div_of_ne_right _ _ hne, nI_toInt (by omega), nI_toInt (by omega), nI_toInt (by omega), Int.tdiv_eq_ediv_of_nonneg (by omega)]
  rfl
theorem shl_ok (s e : Nat) (hs : s < 2) (he : e ≤ 6) : nI (grn s) <<< (nI e &&& 31) = nI (grn s * 2 ^ e) := by
  have hs : s = 0 ∨ s = 1 := by omega
  have he : e = 0 ∨ e = 1 ∨ e = 2 ∨ e = 3 ∨ e = 4 ∨ e = 5 ∨ e = 6 := by omega
  rcases hs with rfl | rfl <;> rcases he with rfl | rfl | rfl | rfl | rfl | rfl | rfl <;> decide
theorem grn_le {s : Nat} : 4 ≤ grn s ∧ grn s ≤ 16 := by unfold grn; split <;> omega
theorem grn_pow (s : Nat) : ∃ k, k ≤ 4 ∧ grn s = 2 ^ k := by
  unfold grn
  split
  · exact ⟨4, by omega, rfl⟩
  · exact ⟨2, by omega, rfl⟩
theorem grn_ne0 (s : Nat) : ¬nI (grn s) = nI 0 := by
  have := @grn_le s
  rw [nI_eqc (by omega) (by omega)]
  omega
theorem up_ok {x a : Nat} (k : Nat) (ha : a = 2 ^ k) (hk : k ≤ 30) (hx : x + a < 2147483648) : (nI (x + a) - nI 1) &&& -nI a = nI ((x + a - 1) / a * a) := by
  have h0 : 0 < 2 ^ k := Nat.pow_pos (by omega)
  rw [nI_sub (by omega), ha]
  rw [ha] at hx
  exact nI_mask _ k (by omega) hk
def lrg (s : Nat) : Nat := if s = 0 then 1024 else 64
section
variable (d L : Nat) (mu : RV) (p : Nat → Nat)
theorem z_largestSizeOf (s : Nat) (hs : s < 2) : zsem (d + 1) 63 0 [.inl (nI s)] [] (HH L mu p) = some (some (.inl (nI (lrg s))), HH L mu p) := by
  have e := shl_ok s (lex s) hs (by unfold lex; split <;> omega)
  have e2 : grn s * 2 ^ lex s = lrg s := by
    unfold grn lex lrg
    split <;> rfl
  rw [e2] at e
  simp (disch := first | omega | assumption) only [h63_0, h63_1, h63_4, h63_5, h63_8, h63_9, Option.bind_some, Option.toList_some, Option.toList_none, List.cons_append, List.nil_append, nI_ltc, nI_lec, nI_eqc, nI_ne5, n5_ne, n5_lt, bI_0, bI_1, nI_add, pk_mul, if_pos, if_neg, ite_not, if_true, if_false, not_true_eq_false, not_false_eq_true, true_and, false_and, and_true, and_false, Nat.reduceAdd, Nat.reduceMul, z_grainOf, z_largestExponentOf, e]
/-- the sizes of a space -/
def szP (s : Nat) (y : Int32) : Prop := ∃ e, e ≤ lex s ∧ y = nI (grn s * 2 ^ e)
theorem sz_chk (s : Nat) (hs : s < 2) (n : Nat) (hn : n < 4096) : (grn s ≤ n ∧ n ≤ lrg s ∧ pop 12 n = 1) ↔ ∃ e, e ≤ lex s ∧ n = grn s * 2 ^ e := by
  constructor
  · rintro ⟨h1, h2, h3⟩
    have hs : s = 0 ∨ s = 1 := by omega
    rcases hs with rfl | rfl
    · have := bal12 (fun n => !(decide (16 ≤ n ∧ n ≤ 1024 ∧ pop 12 n = 1)) || (decide (n = 16) || decide (n = 32) || decide (n = 64) || decide (n = 128) || decide (n = 256) || decide (n = 512) || decide (n = 1024))) (by decide +kernel) n hn
      have hd : decide (16 ≤ n ∧ n ≤ 1024 ∧ pop 12 n = 1) = true := decide_eq_true ⟨h1, h2, h3⟩
      simp only [hd, Bool.not_true, Bool.false_or, Bool.or_eq_true, decide_eq_true_eq] at this
      rcases this with (((((h | h) | h) | h) | h) | h) | h
      · exact ⟨0, by decide, h⟩
      · exact ⟨1, by decide, h⟩
      · exact ⟨2, by decide, h⟩
      · exact ⟨3, by decide, h⟩
      · exact ⟨4, by decide, h⟩
      · exact ⟨5, by decide, h⟩
      · exact ⟨6, by decide, h⟩
    · have := bal12 (fun n => !(decide (4 ≤ n ∧ n ≤ 64 ∧ pop 12 n = 1)) || (decide (n = 4) || decide (n = 8) || decide (n = 16) || decide (n = 32) || decide (n = 64))) (by decide +kernel) n hn
      have hd : decide (4 ≤ n ∧ n ≤ 64 ∧ pop 12 n = 1) = true := decide_eq_true ⟨h1, h2, h3⟩
      simp only [hd, Bool.not_true, Bool.false_or, Bool.or_eq_true, decide_eq_true_eq] at this
      rcases this with (((h | h) | h) | h) | h
      · exact ⟨0, by decide, h⟩
      · exact ⟨1, by decide, h⟩
      · exact ⟨2, by decide, h⟩
      · exact ⟨3, by decide, h⟩
      · exact ⟨4, by decide, h⟩
  · rintro ⟨e, he, rfl⟩
    have hs : s = 0 ∨ s = 1 := by omega
    rcases hs with rfl | rfl
    · have he : e ≤ 6 := he
      have he : e = 0 ∨ e = 1 ∨ e = 2 ∨ e = 3 ∨ e = 4 ∨ e = 5 ∨ e = 6 := by omega
      rcases he with rfl | rfl | rfl | rfl | rfl | rfl | rfl <;> decide
    · have he : e ≤ 4 := he
      have he : e = 0 ∨ e = 1 ∨ e = 2 ∨ e = 3 ∨ e = 4 := by omega
      rcases he with rfl | rfl | rfl | rfl | rfl <;> decide
theorem lrg_le {s : Nat} : lrg s ≤ 1024 := by unfold lrg; split <;> omega
theorem sz_lt {s e : Nat} (h : e ≤ lex s) : grn s * 2 ^ e ≤ 1024 ∧ 0 < grn s * 2 ^ e := by
  have h2 : 2 ^ e ≤ 2 ^ lex s := Nat.pow_le_pow_right (by omega) h
  have h0 : 0 < 2 ^ e := Nat.pow_pos (by omega)
  have h3 : grn s * 2 ^ e ≤ grn s * 2 ^ lex s := Nat.mul_le_mul_left _ h2
  have h4 : grn s * 2 ^ lex s ≤ 1024 := by unfold grn lex; split <;> decide
  exact ⟨by omega, Nat.mul_pos (by have := @grn_le s; omega) h0⟩
theorem z_isSizeOf (s : Nat) (hs : s < 2) (y : Int32) : ∃ v, zsem (d + 2) 61 0 [.inl (nI s), .inl y] [] (HH L mu p) = some (some (.inl v), HH L mu p) ∧ (szP s y → v = nI 1) ∧ (¬szP s y → v = nI 0) := by
  have hg := @grn_le s
  have hl := @lrg_le s
  rcases ixo y 4096 (by omega) with ⟨n, hn, rfl⟩ | hy
  · have hc := sz_chk s hs n hn
    have hP : szP s (nI n) ↔ ∃ e, e ≤ lex s ∧ n = grn s * 2 ^ e := by
      constructor
      · rintro ⟨e, he, q⟩
        rw [nI_eqc (by omega) (by have := sz_lt he; omega)] at q
        exact ⟨e, he, q⟩
      · rintro ⟨e, he, q⟩
        exact ⟨e, he, by rw [q]⟩
    rw [hP, ← hc]
    have hb := bc_ok n hn
    have hpop : pop 12 n < 2147483648 := by
      have : ∀ k m, pop k m ≤ k := by
        intro k
        induction k with
        | zero => intro m; exact Nat.le_refl _
        | succ k ih => intro m; have := ih (m / 2); unfold pop; omega
      have := this 12 n
      omega
    by_cases h1 : n < grn s
    · refine ⟨nI 0, ?_, fun q => by omega, fun _ => rfl⟩
      simp (disch := first | omega | assumption) only [h61_0, h61_1, h61_2, h61_5, h61_8, h61_9, h61_10, h61_13, h61_16, h61_17, h61_20, h61_21, h61_24, h61_25, h61_28, h61_29_0, h61_29_1, h61_29_b, Option.bind_some, Option.toList_some, Option.toList_none, List.cons_append, List.nil_append, nI_ltc, nI_lec, nI_eqc, nI_ne5, n5_ne, n5_lt, bI_0, bI_1, nI_add, pk_mul, if_pos, if_neg, ite_not, if_true, if_false, not_true_eq_false, not_false_eq_true, true_and, false_and, and_true, and_false, Nat.reduceAdd, Nat.reduceMul, z_grainOf]
    · by_cases h2 : n ≤ lrg s
      · by_cases h3 : pop 12 n = 1
        · refine ⟨nI 1, ?_, fun _ => rfl, fun q => absurd ⟨by omega, h2, h3⟩ q⟩
          simp (disch := first | omega | assumption) only [h61_0, h61_1, h61_2, h61_5, h61_8, h61_9, h61_10, h61_13, h61_16, h61_17, h61_20, h61_21, h61_24, h61_25, h61_28, h61_29_0, h61_29_1, h61_29_b, Option.bind_some, Option.toList_some, Option.toList_none, List.cons_append, List.nil_append, nI_ltc, nI_lec, nI_eqc, nI_ne5, n5_ne, n5_lt, bI_0, bI_1, nI_add, pk_mul, if_pos, if_neg, ite_not, if_true, if_false, not_true_eq_false, not_false_eq_true, true_and, false_and, and_true, and_false, Nat.reduceAdd, Nat.reduceMul, z_grainOf, z_largestSizeOf, z_bitCount, hb, h3]
        · refine ⟨nI 0, ?_, fun q => absurd q.2.2 h3, fun _ => rfl⟩
          simp (disch := first | omega | assumption) only [h61_0, h61_1, h61_2, h61_5, h61_8, h61_9, h61_10, h61_13, h61_16, h61_17, h61_20, h61_21, h61_24, h61_25, h61_28, h61_29_0, h61_29_1, h61_29_b, Option.bind_some, Option.toList_some, Option.toList_none, List.cons_append, List.nil_append, nI_ltc, nI_lec, nI_eqc, nI_ne5, n5_ne, n5_lt, bI_0, bI_1, nI_add, pk_mul, if_pos, if_neg, ite_not, if_true, if_false, not_true_eq_false, not_false_eq_true, true_and, false_and, and_true, and_false, Nat.reduceAdd, Nat.reduceMul, z_grainOf, z_largestSizeOf, z_bitCount, hb]
      · refine ⟨nI 0, ?_, fun q => absurd q.2.1 h2, fun _ => rfl⟩
        simp (disch := first | omega | assumption) only [h61_0, h61_1, h61_2, h61_5, h61_8, h61_9, h61_10, h61_13, h61_16, h61_17, h61_20, h61_21, h61_24, h61_25, h61_28, h61_29_0, h61_29_1, h61_29_b, Option.bind_some, Option.toList_some, Option.toList_none, List.cons_append, List.nil_append, nI_ltc, nI_lec, nI_eqc, nI_ne5, n5_ne, n5_lt, bI_0, bI_1, nI_add, pk_mul, if_pos, if_neg, ite_not, if_true, if_false, not_true_eq_false, not_false_eq_true, true_and, false_and, and_true, and_false, Nat.reduceAdd, Nat.reduceMul, z_grainOf, z_largestSizeOf]
  · refine ⟨nI 0, ?_, fun ⟨e, he, q⟩ => ?_, fun _ => rfl⟩
    · by_cases h1 : y < nI (grn s)
      · simp (disch := first | omega | assumption) only [h61_0, h61_1, h61_2, h61_5, h61_8, h61_9, h61_10, h61_13, h61_16, h61_17, h61_20, h61_21, h61_24, h61_25, h61_28, h61_29_0, h61_29_1, h61_29_b, Option.bind_some, Option.toList_some, Option.toList_none, List.cons_append, List.nil_append, nI_ltc, nI_lec, nI_eqc, nI_ne5, n5_ne, n5_lt, bI_0, bI_1, nI_add, pk_mul, if_pos, if_neg, ite_not, if_true, if_false, not_true_eq_false, not_false_eq_true, true_and, false_and, and_true, and_false, Nat.reduceAdd, Nat.reduceMul, z_grainOf, h1]
      · have h2 : nI (lrg s) < y := by
          rw [← Int32.not_le]
          intro q
          rcases hy with h | h
          · apply h1
            rw [Int32.lt_iff_toInt_lt] at h ⊢
            rw [nI_toInt (by omega)] at h ⊢
            omega
          · rw [Int32.le_iff_toInt_le] at q h
            rw [nI_toInt (by omega)] at q h
            omega
        simp (disch := first | omega | assumption) only [h61_0, h61_1, h61_2, h61_5, h61_8, h61_9, h61_10, h61_13, h61_16, h61_17, h61_20, h61_21, h61_24, h61_25, h61_28, h61_29_0, h61_29_1, h61_29_b, Option.bind_some, Option.toList_some, Option.toList_none, List.cons_append, List.nil_append, nI_ltc, nI_lec, nI_eqc, nI_ne5, n5_ne, n5_lt, bI_0, bI_1, nI_add, pk_mul, if_pos, if_neg, ite_not, if_true, if_false, not_true_eq_false, not_false_eq_true, true_and, false_and, and_true, and_false, Nat.reduceAdd, Nat.reduceMul, z_grainOf, z_largestSizeOf, h1, h2]
    · exfalso
      have := sz_lt he
      rw [q] at hy
      rw [nI_ltc (by omega) (by omega), nI_lec (by omega) (by omega)] at hy
      omega
end
