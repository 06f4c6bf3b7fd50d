section
variable (d L : Nat) (mu : RV) (p : Nat → Nat)
theorem z_fitIn (h : OK (rk mu 1)) (b s size al kk A0 E : Nat) (hb : b < 13) (hs : s < 2) (hal : al = 2 ^ kk) (hkk : kk ≤ 12) (hsz : size ≤ 1000000) (hsz0 : 0 < size) (hA : A0 < 8192) (hen : A0 + E ≤ 10000)
    (hS : zsem (d + 2) 67 0 [.inr (.inl (some 1)), .inl (nI b), .inl (nI s)] [] (HH L mu p) = some (some (.inl (nI A0)), HH L mu p)) (hE : zsem (d + 2) 56 0 [.inr (.inl (some 1)), .inl (nI b), .inl (nI s)] [] (HH L mu p) = some (some (.inl (nI E)), HH L mu p)) :
    ∃ v, zsem (d + 3) 66 0 [.inr (.inl (some 1)), .inl (nI b), .inl (nI s), .inl (nI size), .inl (nI al), .inr (.inl none), .inr (.inl none), .inr (.inl none), .inr (.inl none)] [] (HH L mu p) = some (some (.inl v), HH L mu p) ∧
      ((∃ y, y % al = 0 ∧ A0 ≤ y ∧ y + size ≤ A0 + E ∧ FR (rk mu 1) s b size y ∧ (∀ y', y' % al = 0 → A0 ≤ y' → y' < y → ¬FR (rk mu 1) s b size y') ∧ v = nI y) ∨
       ((∀ y, y % al = 0 → A0 ≤ y → y + size ≤ A0 + E → ¬FR (rk mu 1) s b size y) ∧ v = -5)) := by
  have h0 : 0 < al := by rw [hal]; exact Nat.pow_pos (by omega)
  have hal2 : al ≤ 4096 := by rw [hal]; exact Nat.pow_le_pow_right (n := 2) (by omega) hkk
  have hup := up_ok (x := A0) (a := al) kk hal (by omega) (by omega)
  obtain ⟨u1, u2, u3⟩ := @ceil_le A0 al h0
  have hm := cnt_le (fun i => tb (∃ a n, CP (rk mu 1) s b i a n ∧ (A0 + al - 1) / al * al < a + n) = true) 12
  obtain ⟨v, e1, e2⟩ := z_fitL d L mu p h b s size al kk (A0 + E) hb hs hal hkk hsz hsz0 hen 12 0 ((A0 + al - 1) / al * al) (.inr (.inl none)) hm (by unfold msr; omega) u3 (by omega)
  refine ⟨v, ?_, ?_⟩
  · rw [← e1]
    simp (disch := first | omega | assumption) only [h66_0, h66_1, h66_2, h66_3, h66_6, h66_7, h66_8, h66_9, h66_12, h66_13, h66_15, h66_16, h66_17, h66_18, h66_21, h66_23, h66_26, h66_28, h66_29, h66_33, h66_35, h66_38, h66_40, h66_41, h66_42, h66_44, h66_47, h66_48, h66_49, h66_50, h66_52, h66_54, h66_55, h66_56, h66_59, h66_61, h66_63, h66_65, h66_68, h66_70, h66_71, h66_73, h66_75, h66_78, h66_80, h66_83, h66_86, h66_88, Option.bind_some, Option.toList_some, Option.toList_none, List.cons_append, List.nil_append, nI_ltc, nI_lec, nI_eqc, nI_ne5, n5_ne, n5_lt, bI_0, bI_1, nI_add, pk_mul, if_pos, if_neg, ite_not, if_true, if_false, not_true_eq_false, not_false_eq_true, true_and, false_and, and_true, and_false, Nat.reduceAdd, Nat.reduceMul, hS, hE, z_roundUp, hup]
  · rcases e2 with ⟨y, y1, y2, y3, y4, y5, y6⟩ | ⟨y1, y2⟩
    · refine Or.inl ⟨y, y1, by omega, y3, y4, fun y' q1 q2 q3 => ?_, y6⟩
      by_cases hy' : y' < (A0 + al - 1) / al * al
      · have := mult_lt h0 q1 hy'; omega
      · exact y5 y' q1 (by omega) q3
    · refine Or.inr ⟨fun y q1 q2 q3 => ?_, y2⟩
      by_cases hy' : y < (A0 + al - 1) / al * al
      · have := mult_lt h0 q1 hy'; omega
      · exact y1 y q1 (by omega) q3
end
