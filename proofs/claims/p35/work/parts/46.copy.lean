/-! copying racks: class -/
theorem isRk_le {r : Nat} (h : isRk r) : 1 ≤ r ∧ r + 12 ≤ 101 := by
  rcases h with rfl | rfl | rfl | rfl | rfl | rfl | rfl <;> omega
theorem isRk_ne {r q : Nat} (h : isRk r) (h2 : isRk q) (hn : ¬r = q) : r + 13 ≤ q ∨ q + 13 ≤ r := by
  rcases h with rfl | rfl | rfl | rfl | rfl | rfl | rfl <;> rcases h2 with rfl | rfl | rfl | rfl | rfl | rfl | rfl <;> omega
theorem rlen_13 {a i : Nat} (h : i < rlen a) : a ≤ 13 := by
  unfold rlen at h
  split at h <;> omega
theorem cpm_o {mu : RV} {a0 a n a' i : Nat} (h : ¬a' = a) : cpm mu a0 a n a' i = mu a' i := by
  unfold cpm
  rw [if_neg h]
theorem cpm_i {mu : RV} {a0 a n i : Nat} (h : i < n) : cpm mu a0 a n a i = mu a0 i := by
  unfold cpm
  rw [if_pos rfl, if_pos h]
theorem u2_oa {mu : RV} {a i a' i' : Nat} {x : Int32} (h : ¬a' = a) : u2 mu a i x a' i' = mu a' i' := u2_o _ _ (fun q => h q.1)
section
variable (d L : Nat) (mu : RV) (p : Nat → Nat)
theorem z_copyFrom (r0 r1 : Nat) (h0 : isRk r0) (h1 : isRk r1) (hn : ¬r0 = r1) : ∃ mu' : RV, zsem d 18 0 [.inr (.inl (some r0)), .inr (.inl (some r1))] [] (HH L mu p) = some (none, HH L mu' p) ∧ rk mu' r0 = rk mu r1 ∧ ∀ a, (a < r0 ∨ r0 + 12 < a) → mu' a = mu a := by
  have hne := isRk_ne h0 h1 hn
  refine ⟨_, by
    simp (disch := first | omega | assumption) only [h18_0, h18_1, h18_4, h18_5, h18_6, h18_9, h18_10, h18_12, h18_15, h18_16, h18_19, h18_20, h18_21, h18_24, h18_25, h18_27, h18_30, h18_31, h18_34, h18_35, h18_36, h18_39, h18_40, h18_42, h18_45, h18_46, h18_49, h18_50, h18_51, h18_54, h18_55, h18_57, h18_60, h18_61, h18_64, h18_65, h18_66, h18_69, h18_70, h18_72, h18_75, h18_76, h18_79, h18_80, h18_81, h18_84, h18_85, h18_87, h18_90, h18_91, h18_94, h18_95, h18_96, h18_99, h18_100, h18_102, h18_105, h18_106, h18_109, h18_110, h18_111, h18_114, h18_115, h18_117, h18_120, h18_121, h18_124, h18_125, h18_126, h18_129, h18_130, h18_132, h18_135, h18_136, h18_139, h18_140, h18_141, h18_144, h18_145, h18_147, h18_150, h18_151, h18_154, h18_155, h18_156, h18_159, h18_160, h18_162, h18_165, h18_166, h18_169, h18_170, h18_171, h18_174, h18_175, h18_177, h18_180, h18_181, h18_182, h18_185, h18_188, Option.bind_some, Option.toList_some, Option.toList_none, List.cons_append, List.nil_append, nI_ltc, nI_lec, nI_eqc, nI_ne5, n5_ne, n5_lt, bI_0, bI_1, nI_add, pk_mul, if_pos, if_neg, ite_not, if_true, if_false, not_true_eq_false, not_false_eq_true, true_and, false_and, and_true, and_false, Nat.reduceAdd, Nat.reduceMul]
    rfl, ?_, ?_⟩
  · funext a i
    unfold rk
    by_cases hc : 2 ≤ a ∧ i < rlen a
    · rw [if_pos hc, if_pos hc]
      have h13 := rlen_13 hc.2
      obtain ⟨hc1, hc2⟩ := hc
      have : a = 2 ∨ a = 3 ∨ a = 4 ∨ a = 5 ∨ a = 6 ∨ a = 7 ∨ a = 8 ∨ a = 9 ∨ a = 10 ∨ a = 11 ∨ a = 12 ∨ a = 13 := by omega
      rcases this with rfl | rfl | rfl | rfl | rfl | rfl | rfl | rfl | rfl | rfl | rfl | rfl <;> (simp only [rlen] at hc2; (try simp only [Nat.add_succ_sub_one]); simp (disch := omega) only [cpm_o, cpm_i, u2_oa])
    · rw [if_neg hc, if_neg hc]
      by_cases hg : a = 1 ∧ i = 12
      · rw [if_pos hg, if_pos hg]
        rw [u2_s]
        simp (disch := omega) only [cpm_o]
      · rw [if_neg hg, if_neg hg]
  · intro a ha
    funext i
    simp (disch := omega) only [cpm_o, u2_oa]
end
