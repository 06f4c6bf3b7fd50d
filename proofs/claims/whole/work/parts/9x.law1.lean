/-! the law's loop -/
theorem and31 (x : Int32) : ∃ j, j < 32 ∧ x &&& nI 31 = nI j := by
  refine ⟨(x.toBitVec &&& 31#32).toNat, ?_, ?_⟩
  · rw [BitVec.toNat_and]
    exact Nat.lt_of_le_of_lt Nat.and_le_right (by decide)
  · apply Int32.toBitVec_inj.1
    rw [Int32.toBitVec_and]
    show x.toBitVec &&& 31#32 = BitVec.ofInt 32 (((x.toBitVec &&& 31#32).toNat : Nat) : Int)
    rw [BitVec.ofInt_natCast, BitVec.ofNat_toNat]
    simp
section
variable (L : Nat) (mu : RV) (p : Nat → Nat)
theorem lw_31 (i : Nat) (h : Rel mu p) : ∃ mu1 p1, Rel mu1 p1 ∧ zsem 20 192 949 [.inr (some SC), .inr (some 0), .inr (some 105), .inl (nI i)] [] (HH L mu p) = zsem 20 192 992 [.inr (some SC), .inr (some 0), .inr (some 105), .inl (nI i)] [] (HH L mu1 p1) := by
  sorry
end
