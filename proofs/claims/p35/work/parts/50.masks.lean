/-! masks -/
def msk (P : Nat → Prop) [DecidablePred P] : Nat → Nat
  | 0 => 0
  | n + 1 => msk P n + if P n then 2 ^ n else 0
def cntP (P : Nat → Prop) [DecidablePred P] : Nat → Nat
  | 0 => 0
  | n + 1 => cntP P n + if P n then 1 else 0
theorem msk_s (P : Nat → Prop) [DecidablePred P] {n : Nat} (h : P n) : msk P (n + 1) = msk P n + 2 ^ n := by
  show _ + _ = _
  rw [if_pos h]
theorem msk_n (P : Nat → Prop) [DecidablePred P] {n : Nat} (h : ¬P n) : msk P (n + 1) = msk P n := by
  show _ + _ = _
  rw [if_neg h, Nat.add_zero]
theorem cnt_s (P : Nat → Prop) [DecidablePred P] {n : Nat} (h : P n) : cntP P (n + 1) = cntP P n + 1 := by
  show _ + _ = _
  rw [if_pos h]
theorem cnt_n (P : Nat → Prop) [DecidablePred P] {n : Nat} (h : ¬P n) : cntP P (n + 1) = cntP P n := by
  show _ + _ = _
  rw [if_neg h, Nat.add_zero]
theorem msk_lt (P : Nat → Prop) [DecidablePred P] (n : Nat) : msk P n < 2 ^ n := by
  induction n with
  | zero => exact Nat.one_pos
  | succ n ih =>
    rw [Nat.pow_succ]
    unfold msk
    split <;> omega
theorem msk_bit (P : Nat → Prop) [DecidablePred P] (j : Nat) : ∀ n, j < n → (msk P n / 2 ^ j % 2 = 1 ↔ P j) := by
  intro n
  induction n with
  | zero => intro h; omega
  | succ n ih =>
    intro h
    have hl := msk_lt P n
    unfold msk
    by_cases hj : j = n
    · subst hj
      by_cases hp : P j
      · rw [if_pos hp, Nat.add_div_right _ (Nat.pow_pos (by omega)), Nat.div_eq_of_lt hl]
        exact ⟨fun _ => hp, fun _ => rfl⟩
      · rw [if_neg hp, Nat.add_zero, Nat.div_eq_of_lt hl]
        exact ⟨fun q => by omega, fun q => absurd q hp⟩
    · rw [← ih (by omega)]
      obtain ⟨e, he⟩ : ∃ e, n = j + 1 + e := ⟨n - (j + 1), by omega⟩
      have e1 : 2 ^ n = 2 ^ j * (2 * 2 ^ e) := by rw [he, Nat.pow_add, Nat.pow_succ, Nat.mul_assoc]
      have h0 : 0 < 2 ^ j := Nat.pow_pos (by omega)
      split
      · rw [e1, Nat.add_mul_div_left _ _ h0]
        omega
      · rw [Nat.add_zero]
theorem pop_add (b : Nat) : ∀ n m, m < 2 ^ n → pop (n + 1) (m + if b = 1 then 2 ^ n else 0) = pop n m + if b = 1 then 1 else 0 := by
  intro n
  induction n with
  | zero => intro m hm; have : m = 0 := by omega
            subst this; by_cases hb : b = 1 <;> simp [hb, pop]
  | succ n ih =>
    intro m hm
    have hp : 2 ^ (n + 1) = 2 * 2 ^ n := by rw [Nat.pow_succ]; omega
    have h1 := ih (m / 2) (by omega)
    unfold pop
    by_cases hb : b = 1
    · rw [if_pos hb] at h1 ⊢
      rw [if_pos hb] at h1 ⊢
      rw [hp, show (m + 2 * 2 ^ n) % 2 = m % 2 by omega, show (m + 2 * 2 ^ n) / 2 = m / 2 + 2 ^ n by omega, h1]
      omega
    · rw [if_neg hb] at h1 ⊢
      rw [if_neg hb] at h1 ⊢
      simp only [Nat.add_zero] at h1 ⊢
      rw [h1]
theorem pop_msk (P : Nat → Prop) [DecidablePred P] : ∀ n, pop n (msk P n) = cntP P n := by
  intro n
  induction n with
  | zero => rfl
  | succ n ih =>
    have h := pop_add (if P n then 1 else 0) n (msk P n) (msk_lt P n)
    unfold msk cntP
    by_cases hp : P n
    · simp only [hp, if_true] at h ⊢
      rw [h, ih]
    · have h01 : ¬(0 : Nat) = 1 := by omega
      simp only [hp, if_false, h01, Nat.add_zero] at h ⊢
      rw [h, ih]
theorem msk_cong (P Q : Nat → Prop) [DecidablePred P] [DecidablePred Q] : ∀ n, (∀ i, i < n → (P i ↔ Q i)) → msk P n = msk Q n := by
  intro n
  induction n with
  | zero => intro _; rfl
  | succ n ih =>
    intro h
    unfold msk
    rw [ih (fun i hi => h i (by omega))]
    have := h n (by omega)
    by_cases hp : P n
    · rw [if_pos hp, if_pos (this.mp hp)]
    · rw [if_neg hp, if_neg (fun q => hp (this.mpr q))]
theorem cnt_cong (P Q : Nat → Prop) [DecidablePred P] [DecidablePred Q] : ∀ n, (∀ i, i < n → (P i ↔ Q i)) → cntP P n = cntP Q n := by
  intro n
  induction n with
  | zero => intro _; rfl
  | succ n ih =>
    intro h
    unfold cntP
    rw [ih (fun i hi => h i (by omega))]
    have := h n (by omega)
    by_cases hp : P n
    · rw [if_pos hp, if_pos (this.mp hp)]
    · rw [if_neg hp, if_neg (fun q => hp (this.mpr q))]
theorem cnt_le (P : Nat → Prop) [DecidablePred P] : ∀ n, cntP P n ≤ n := by
  intro n
  induction n with
  | zero => exact Nat.le_refl _
  | succ n ih => unfold cntP; split <;> omega
theorem cnt_not (P : Nat → Prop) [DecidablePred P] : ∀ n, cntP P n + cntP (fun i => ¬P i) n = n := by
  intro n
  induction n with
  | zero => rfl
  | succ n ih => unfold cntP; by_cases hp : P n <;> simp only [hp, if_true, if_false, not_true_eq_false, not_false_eq_true] <;> omega
/-! rounding -/
theorem nat_and_mask (n k : Nat) (hn : n < 2 ^ 32) (hk : k ≤ 32) : n &&& ((2 ^ (32 - k) - 1) <<< k) = n / 2 ^ k * 2 ^ k := by
  rw [← Nat.shiftRight_eq_div_pow, ← Nat.shiftLeft_eq]
  apply Nat.eq_of_testBit_eq
  intro i
  rw [Nat.testBit_and, Nat.testBit_shiftLeft, Nat.testBit_two_pow_sub_one, Nat.testBit_shiftLeft, Nat.testBit_shiftRight]
  by_cases h : i ≥ k
  · rw [show k + (i - k) = i by omega]
    by_cases h2 : i - k < 32 - k
    · simp [h, h2]
    · have : n.testBit i = false := Nat.testBit_lt_two_pow (Nat.lt_of_lt_of_le hn (Nat.pow_le_pow_right (by omega) (by omega)))
      simp [this]
  · simp [h]
theorem nI_mask (m k : Nat) (hm : m < 2147483648) (hk : k ≤ 30) : nI m &&& -nI (2 ^ k) = nI (m / 2 ^ k * 2 ^ k) := by
  have h1 : 2 ^ k ≤ 2 ^ 30 := Nat.pow_le_pow_right (by omega) hk
  have h0 : 0 < 2 ^ k := Nat.pow_pos (by omega)
  have h3 : m / 2 ^ k * 2 ^ k ≤ m := Nat.div_mul_le_self _ _
  have h4 : (2 ^ (32 - k) - 1) <<< k = 2 ^ 32 - 2 ^ k := by
    rw [Nat.shiftLeft_eq, Nat.sub_mul, ← Nat.pow_add, show 32 - k + k = 32 by omega, Nat.one_mul]
  have h5 := nat_and_mask m k (by omega) (by omega)
  rw [h4] at h5
  apply Int32.toBitVec_inj.1
  apply BitVec.eq_of_toNat_eq
  have e : ∀ n, (nI n).toBitVec.toNat = n % 2 ^ 32 := fun n => rfl
  have e2 : (-nI (2 ^ k)).toBitVec.toNat = 2 ^ 32 - 2 ^ k := by
    rw [Int32.toBitVec_neg, BitVec.toNat_neg, e, Nat.mod_eq_of_lt (by omega), Nat.mod_eq_of_lt (by omega)]
  rw [Int32.toBitVec_and, BitVec.toNat_and, e, e2, e, Nat.mod_eq_of_lt (by omega), Nat.mod_eq_of_lt (by omega), h5]
