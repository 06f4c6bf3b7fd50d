/-! the law's loop, whole -/
section
variable (L : Nat)
theorem lw_any (mu : RV) (p : Nat → Nat) (j : Nat) (hj : j < 32) (h : Rel mu p) (i : Nat) (hi : i + 5 ≤ L) (hL : L ≤ 2560) : ∃ mu1 p1, Rel mu1 p1 ∧ zsem 20 192 32 [.inr (some SC), .inr (some 0), .inr (some 105), .inl (nI i)] [.inl (nI j)] (HH L mu p) = zsem 20 192 992 [.inr (some SC), .inr (some 0), .inr (some 105), .inl (nI i)] [] (HH L mu1 p1) := by
  have hd : decode (mB 192) 32 = .ok (.tableswitch 960 0 31 #[144, 177, 210, 263, 306, 329, 352, 365, 388, 411, 434, 447, 460, 473, 486, 499, 512, 525, 538, 571, 594, 627, 660, 683, 706, 739, 772, 805, 818, 851, 884, 917], 144) := by decide +kernel
  rcases (show j = 0 ∨ j = 1 ∨ j = 2 ∨ j = 3 ∨ j = 4 ∨ j = 5 ∨ j = 6 ∨ j = 7 ∨ j = 8 ∨ j = 9 ∨ j = 10 ∨ j = 11 ∨ j = 12 ∨ j = 13 ∨ j = 14 ∨ j = 15 ∨ j = 16 ∨ j = 17 ∨ j = 18 ∨ j = 19 ∨ j = 20 ∨ j = 21 ∨ j = 22 ∨ j = 23 ∨ j = 24 ∨ j = 25 ∨ j = 26 ∨ j = 27 ∨ j = 28 ∨ j = 29 ∨ j = 30 ∨ j = 31 by omega) with e | e | e | e | e | e | e | e | e | e | e | e | e | e | e | e | e | e | e | e | e | e | e | e | e | e | e | e | e | e | e | e <;> subst e
  · obtain ⟨mu1, p1, h1, e1⟩ := lw_0 L mu p h i hi hL
    exact ⟨mu1, p1, h1, (q_tsw (o := 144) (t := 176) hd (by decide) (by decide) (by decide) rfl).trans e1⟩
  · obtain ⟨mu1, p1, h1, e1⟩ := lw_1 L mu p h i hi hL
    exact ⟨mu1, p1, h1, (q_tsw (o := 177) (t := 209) hd (by decide) (by decide) (by decide) rfl).trans e1⟩
  · obtain ⟨mu1, p1, h1, e1⟩ := lw_2 L mu p h i hi hL
    exact ⟨mu1, p1, h1, (q_tsw (o := 210) (t := 242) hd (by decide) (by decide) (by decide) rfl).trans e1⟩
  · obtain ⟨mu1, p1, h1, e1⟩ := lw_3 L mu p h i hi hL
    exact ⟨mu1, p1, h1, (q_tsw (o := 263) (t := 295) hd (by decide) (by decide) (by decide) rfl).trans e1⟩
  · obtain ⟨mu1, p1, h1, e1⟩ := lw_4 L mu p h i hi hL
    exact ⟨mu1, p1, h1, (q_tsw (o := 306) (t := 338) hd (by decide) (by decide) (by decide) rfl).trans e1⟩
  · obtain ⟨mu1, p1, h1, e1⟩ := lw_5 L mu p h i hi hL
    exact ⟨mu1, p1, h1, (q_tsw (o := 329) (t := 361) hd (by decide) (by decide) (by decide) rfl).trans e1⟩
  · obtain ⟨mu1, p1, h1, e1⟩ := lw_6 L mu p h i hi hL
    exact ⟨mu1, p1, h1, (q_tsw (o := 352) (t := 384) hd (by decide) (by decide) (by decide) rfl).trans e1⟩
  · obtain ⟨mu1, p1, h1, e1⟩ := lw_7 L mu p h i hi hL
    exact ⟨mu1, p1, h1, (q_tsw (o := 365) (t := 397) hd (by decide) (by decide) (by decide) rfl).trans e1⟩
  · obtain ⟨mu1, p1, h1, e1⟩ := lw_8 L mu p h i hi hL
    exact ⟨mu1, p1, h1, (q_tsw (o := 388) (t := 420) hd (by decide) (by decide) (by decide) rfl).trans e1⟩
  · obtain ⟨mu1, p1, h1, e1⟩ := lw_9 L mu p h i hi hL
    exact ⟨mu1, p1, h1, (q_tsw (o := 411) (t := 443) hd (by decide) (by decide) (by decide) rfl).trans e1⟩
  · obtain ⟨mu1, p1, h1, e1⟩ := lw_10 L mu p h i hi hL
    exact ⟨mu1, p1, h1, (q_tsw (o := 434) (t := 466) hd (by decide) (by decide) (by decide) rfl).trans e1⟩
  · obtain ⟨mu1, p1, h1, e1⟩ := lw_11 L mu p h i hi hL
    exact ⟨mu1, p1, h1, (q_tsw (o := 447) (t := 479) hd (by decide) (by decide) (by decide) rfl).trans e1⟩
  · obtain ⟨mu1, p1, h1, e1⟩ := lw_12 L mu p h i hi hL
    exact ⟨mu1, p1, h1, (q_tsw (o := 460) (t := 492) hd (by decide) (by decide) (by decide) rfl).trans e1⟩
  · obtain ⟨mu1, p1, h1, e1⟩ := lw_13 L mu p h i hi hL
    exact ⟨mu1, p1, h1, (q_tsw (o := 473) (t := 505) hd (by decide) (by decide) (by decide) rfl).trans e1⟩
  · obtain ⟨mu1, p1, h1, e1⟩ := lw_14 L mu p h i hi hL
    exact ⟨mu1, p1, h1, (q_tsw (o := 486) (t := 518) hd (by decide) (by decide) (by decide) rfl).trans e1⟩
  · obtain ⟨mu1, p1, h1, e1⟩ := lw_15 L mu p h i hi hL
    exact ⟨mu1, p1, h1, (q_tsw (o := 499) (t := 531) hd (by decide) (by decide) (by decide) rfl).trans e1⟩
  · obtain ⟨mu1, p1, h1, e1⟩ := lw_16 L mu p h i hi hL
    exact ⟨mu1, p1, h1, (q_tsw (o := 512) (t := 544) hd (by decide) (by decide) (by decide) rfl).trans e1⟩
  · obtain ⟨mu1, p1, h1, e1⟩ := lw_17 L mu p h i hi hL
    exact ⟨mu1, p1, h1, (q_tsw (o := 525) (t := 557) hd (by decide) (by decide) (by decide) rfl).trans e1⟩
  · obtain ⟨mu1, p1, h1, e1⟩ := lw_18 L mu p h i hi hL
    exact ⟨mu1, p1, h1, (q_tsw (o := 538) (t := 570) hd (by decide) (by decide) (by decide) rfl).trans e1⟩
  · obtain ⟨mu1, p1, h1, e1⟩ := lw_19 L mu p h i hi hL
    exact ⟨mu1, p1, h1, (q_tsw (o := 571) (t := 603) hd (by decide) (by decide) (by decide) rfl).trans e1⟩
  · obtain ⟨mu1, p1, h1, e1⟩ := lw_20 L mu p h i hi hL
    exact ⟨mu1, p1, h1, (q_tsw (o := 594) (t := 626) hd (by decide) (by decide) (by decide) rfl).trans e1⟩
  · obtain ⟨mu1, p1, h1, e1⟩ := lw_21 L mu p h i hi hL
    exact ⟨mu1, p1, h1, (q_tsw (o := 627) (t := 659) hd (by decide) (by decide) (by decide) rfl).trans e1⟩
  · obtain ⟨mu1, p1, h1, e1⟩ := lw_22 L mu p h i hi hL
    exact ⟨mu1, p1, h1, (q_tsw (o := 660) (t := 692) hd (by decide) (by decide) (by decide) rfl).trans e1⟩
  · obtain ⟨mu1, p1, h1, e1⟩ := lw_23 L mu p h i hi hL
    exact ⟨mu1, p1, h1, (q_tsw (o := 683) (t := 715) hd (by decide) (by decide) (by decide) rfl).trans e1⟩
  · obtain ⟨mu1, p1, h1, e1⟩ := lw_24 L mu p h i hi hL
    exact ⟨mu1, p1, h1, (q_tsw (o := 706) (t := 738) hd (by decide) (by decide) (by decide) rfl).trans e1⟩
  · obtain ⟨mu1, p1, h1, e1⟩ := lw_25 L mu p h i hi hL
    exact ⟨mu1, p1, h1, (q_tsw (o := 739) (t := 771) hd (by decide) (by decide) (by decide) rfl).trans e1⟩
  · obtain ⟨mu1, p1, h1, e1⟩ := lw_26 L mu p h i hi hL
    exact ⟨mu1, p1, h1, (q_tsw (o := 772) (t := 804) hd (by decide) (by decide) (by decide) rfl).trans e1⟩
  · obtain ⟨mu1, p1, h1, e1⟩ := lw_27 L mu p h i hi hL
    exact ⟨mu1, p1, h1, (q_tsw (o := 805) (t := 837) hd (by decide) (by decide) (by decide) rfl).trans e1⟩
  · obtain ⟨mu1, p1, h1, e1⟩ := lw_28 L mu p h i hi hL
    exact ⟨mu1, p1, h1, (q_tsw (o := 818) (t := 850) hd (by decide) (by decide) (by decide) rfl).trans e1⟩
  · obtain ⟨mu1, p1, h1, e1⟩ := lw_29 L mu p h i hi hL
    exact ⟨mu1, p1, h1, (q_tsw (o := 851) (t := 883) hd (by decide) (by decide) (by decide) rfl).trans e1⟩
  · obtain ⟨mu1, p1, h1, e1⟩ := lw_30 L mu p h i hi hL
    exact ⟨mu1, p1, h1, (q_tsw (o := 884) (t := 916) hd (by decide) (by decide) (by decide) rfl).trans e1⟩
  · obtain ⟨mu1, p1, h1, e1⟩ := lw_31 L mu p h i hi hL
    exact ⟨mu1, p1, h1, (q_tsw (o := 917) (t := 949) hd (by decide) (by decide) (by decide) rfl).trans e1⟩
theorem lw_loop (hL : L ≤ 2560) : ∀ m i mu p, L ≤ i + m → i ≤ 2560 → Rel mu p → ∃ mu' p', zsem 20 192 18 [.inr (some SC), .inr (some 0), .inr (some 105), .inl (nI i)] [] (HH L mu p) = some (some (.inl (nI 1)), HH L mu' p') := by
  intro m
  induction m with
  | zero =>
    intro i mu p hm hi2 h
    refine ⟨mu, p, ?_⟩
    rw [e192_18, e192_19, e192_20 (h := Or.inr (Or.inr rfl)), e192_21, e192_22, e192_23]
    show (if nI L - nI 5 < nI i then _ else _) = _
    rw [if_pos (by rw [lt_ss (by omega) (by omega) (by omega)]; omega), e192_998, e192_999 (h := rfl)]
  | succ m ih =>
    intro i mu p hm hi2 h
    rw [e192_18, e192_19, e192_20 (h := Or.inr (Or.inr rfl)), e192_21, e192_22, e192_23]
    show ∃ mu' p', (if nI L - nI 5 < nI i then _ else _) = _
    by_cases q : i + 5 ≤ L
    · obtain ⟨j, hj, ej⟩ := and31 (mu SC i)
      obtain ⟨mu1, p1, h1, e1⟩ := lw_any L mu p j hj h i q hL
      obtain ⟨mu2, p2, e2⟩ := ih (i + 5) mu1 p1 (by omega) (by omega) h1
      refine ⟨mu2, p2, ?_⟩
      rw [if_neg (by rw [lt_ss (by omega) (by omega) (by omega)]; omega), e192_26, e192_27, h192_28 20 L mu p (nI i) i (by omega) hL, e192_29, e192_31, ej, e1, e192_992, e192_995, nI_add]
      exact e2
    · refine ⟨mu, p, ?_⟩
      rw [if_pos (by rw [lt_ss (by omega) (by omega) (by omega)]; omega), e192_998, e192_999 (h := rfl)]
end
