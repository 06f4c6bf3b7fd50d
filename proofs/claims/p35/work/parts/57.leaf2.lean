/-! arguments in and out of their ranges -/
theorem busx (x : Int32) : (∃ b, b < 12 ∧ x = nI b) ∨ x = nI 12 ∨ (¬x = nI 12 ∧ (x < nI 0 ∨ nI 12 ≤ x)) := by
  by_cases h : x = nI 12
  · exact Or.inr (Or.inl h)
  · rcases ix (x := x) 12 (by omega) with q | q | q
    · exact Or.inr (Or.inr ⟨h, Or.inl q⟩)
    · exact Or.inr (Or.inr ⟨h, Or.inr q⟩)
    · exact Or.inl q
theorem ixo (x : Int32) (n : Nat) (hn : n < 2147483648) : (∃ b, b < n ∧ x = nI b) ∨ x < nI 0 ∨ nI n ≤ x := by
  rcases ix (x := x) n hn with q | q | q
  · exact Or.inr (Or.inl q)
  · exact Or.inr (Or.inr q)
  · exact Or.inl q
theorem spx (x : Int32) : (∃ s, s < 2 ∧ x = nI s) ∨ (¬x = nI 0 ∧ ¬x = nI 1) := by
  by_cases h0 : x = nI 0
  · exact Or.inl ⟨0, by omega, h0⟩
  · by_cases h1 : x = nI 1
    · exact Or.inl ⟨1, by omega, h1⟩
    · exact Or.inr ⟨h0, h1⟩
theorem bI_t {q : Prop} [Decidable q] (h : q) : bI q = nI 1 := if_pos h
theorem bI_f {q : Prop} [Decidable q] (h : ¬q) : bI q = nI 0 := if_neg h
theorem below_n {x : Int32} {k : Nat} (hk : k < 2147483647) (h : x < nI 0 ∨ nI (k + 1) ≤ x) : ¬(¬x < nI 0 ∧ ¬nI k < x) := by
  rintro ⟨h1, h2⟩
  rcases h with h | h
  · exact h1 h
  · apply h2
    rw [Int32.lt_iff_toInt_lt]
    rw [Int32.le_iff_toInt_le] at h
    rw [nI_toInt (by omega)] at h ⊢
    omega
theorem in_n {j k : Nat} (hk : k < 2147483647) (h : j < k + 1) : ¬nI j < nI 0 ∧ ¬nI k < nI j := by
  rw [nI_ltc (by omega) (by omega), nI_ltc (by omega) (by omega)]
  omega
theorem in_c {j k : Nat} (hk : k < 2147483648) (h : j < k) : ¬nI j < nI 0 ∧ ¬nI k ≤ nI j := by
  rw [nI_ltc (by omega) (by omega), nI_lec (by omega) (by omega)]
  omega
theorem out_c {x : Int32} {k : Nat} (h : x < nI 0 ∨ nI k ≤ x) : ¬(¬x < nI 0 ∧ ¬nI k ≤ x) := fun q => h.elim q.1 q.2
section
variable (d L : Nat) (mu : RV) (p : Nat → Nat)
theorem z_isSlot_n (s : Nat) (hs : s < 4) : zsem d 12 0 [.inl (nI s)] [] (HH L mu p) = some (some (.inl (nI 1)), HH L mu p) := by
  rw [z_isSlot, bI_t (in_c (by omega) hs)]
theorem z_isSlot_o (x : Int32) (h : x < nI 0 ∨ nI 4 ≤ x) : zsem d 12 0 [.inl x] [] (HH L mu p) = some (some (.inl (nI 0)), HH L mu p) := by
  rw [z_isSlot, bI_f (out_c h)]
theorem z_isRegion_n (s : Nat) (hs : s < 3) : zsem d 48 0 [.inl (nI s)] [] (HH L mu p) = some (some (.inl (nI 1)), HH L mu p) := by
  rw [z_isRegion, bI_t (in_c (by omega) hs)]
theorem z_isRegion_o (x : Int32) (h : x < nI 0 ∨ nI 3 ≤ x) : zsem d 48 0 [.inl x] [] (HH L mu p) = some (some (.inl (nI 0)), HH L mu p) := by
  rw [z_isRegion, bI_f (out_c h)]
theorem z_isSpace_n (s : Nat) (hs : s < 2) : zsem d 39 0 [.inl (nI s)] [] (HH L mu p) = some (some (.inl (nI 1)), HH L mu p) := by
  rw [z_isSpace, bI_t (by rw [nI_eqc (by omega) (by omega), nI_eqc (by omega) (by omega)]; omega)]
theorem z_isSpace_o (x : Int32) (h0 : ¬x = nI 0) (h1 : ¬x = nI 1) : zsem d 39 0 [.inl x] [] (HH L mu p) = some (some (.inl (nI 0)), HH L mu p) := by
  rw [z_isSpace, bI_f (fun q => q.elim h0 h1)]
end
section
variable {mu : RV} {p : Nat → Nat} (h : Rel mu p)
theorem Rel.T : Rel mu p → InvT (rk mu 1) := fun h => h.2.2.1.1
theorem Rel.kinds (h : Rel mu p) {j : Nat} (hj : j < 12) : mu 2 j = nI 0 ∨ mu 2 j = nI 1 ∨ mu 2 j = nI 2 := by
  rw [← rk_2 (mu := mu) hj]
  exact h.T.1 j hj
/-- the tree, as numbers of the class -/
theorem Rel.up (h : Rel mu p) {x : Nat} (hx : x < 12) (hk : ¬mu 2 x = nI 0) : bn (rk mu 1) x < 13 ∧ mu 3 x = nI (bn (rk mu 1) x) ∧ (bn (rk mu 1) x < 12 → mu 2 (bn (rk mu 1) x) = nI 2) := by
  obtain ⟨a, b, c⟩ := h.T.bus hx (by rw [rk_2 hx]; exact hk)
  rw [rk_3 hx] at b
  exact ⟨a, b, fun q => by rw [← rk_2 (mu := mu) q]; exact c q⟩
theorem Rel.upb (h : Rel mu p) : ∀ x, x < 12 → mu 2 x = nI 2 → ∃ y, y < 13 ∧ mu 3 x = nI y := fun x hx hk =>
  ⟨_, (h.up hx (k2_ne0 hk)).1, (h.up hx (k2_ne0 hk)).2.1⟩
end