/-! masks of devices, regions without a base, the text -/
theorem msk_tb (P : Nat → Prop) [DecidablePred P] (n j : Nat) : (msk P n).testBit j = true ↔ (j < n ∧ P j) := by
  rw [Nat.testBit_eq_decide_div_mod_eq, decide_eq_true_iff]
  by_cases h : j < n
  · rw [msk_bit P j n h]
    exact ⟨fun q => ⟨h, q⟩, fun q => q.2⟩
  · have h1 := msk_lt P n
    have h2 : 2 ^ n ≤ 2 ^ j := Nat.pow_le_pow_right (by omega) (by omega)
    rw [Nat.div_eq_of_lt (by omega)]
    exact ⟨fun q => by omega, fun q => absurd q.1 h⟩
theorem msk_or (P Q S : Nat → Prop) [DecidablePred P] [DecidablePred Q] [DecidablePred S] (n : Nat) (h : ∀ j, j < n → (S j ↔ P j ∨ Q j)) : msk P n ||| msk Q n = msk S n := by
  apply Nat.eq_of_testBit_eq
  intro j
  rw [Nat.testBit_or, Bool.eq_iff_iff, Bool.or_eq_true, msk_tb, msk_tb, msk_tb]
  constructor
  · rintro (⟨a, b⟩ | ⟨a, b⟩)
    · exact ⟨a, (h j a).mpr (Or.inl b)⟩
    · exact ⟨a, (h j a).mpr (Or.inr b)⟩
  · rintro ⟨a, b⟩
    rcases (h j a).mp b with q | q
    · exact Or.inl ⟨a, q⟩
    · exact Or.inr ⟨a, q⟩
theorem nI_or (a b : Nat) (ha : a < 2 ^ 32) (hb : b < 2 ^ 32) : nI a ||| nI b = nI (a ||| b) := by
  apply Int32.toBitVec_inj.1
  apply BitVec.eq_of_toNat_eq
  have e : ∀ n, (nI n).toBitVec.toNat = n % 2 ^ 32 := fun n => rfl
  rw [Int32.toBitVec_or, BitVec.toNat_or, e, e, e, Nat.mod_eq_of_lt ha, Nat.mod_eq_of_lt hb, Nat.mod_eq_of_lt (Nat.or_lt_two_pow ha hb)]
section
variable (d L : Nat) (mu : RV) (p : Nat → Nat)
end
