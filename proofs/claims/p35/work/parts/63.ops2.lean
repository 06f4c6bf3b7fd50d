/-! regions and reserves -/
theorem isRk_1 : isRk 1 := Or.inl rfl
theorem InvW_sub {R R' : RV} {s : Nat} (h2 : R' 2 = R 2) (h3 : R' 3 = R 3) (h10 : R' 10 = R 10) (h11 : R' 11 = R 11)
    (hc : ∀ d q a n, d < 12 → q < 3 → cov R' s d q a n → cov R s d q a n) (h8 : ∀ d q, d < 12 → q < 3 → R' 8 (d * 3 + q) = -5 ∨ R' 8 (d * 3 + q) = R 8 (d * 3 + q)) (h : InvW R s) : InvW R' s := by
  obtain ⟨a, b, c, e⟩ := h
  refine ⟨fun d q hd hq => ?_, fun d hd => by rw [h10, h11]; exact b d hd, fun d q x n hd hq hcv => ?_, fun d q d' q' x n x' n' hd hq hd' hq' hn hb c1 c2 => ?_⟩
  · rcases h8 d q hd hq with g | g
    · exact Or.inl g
    · rw [g]; exact a d q hd hq
  · obtain ⟨g1, g2, g3, a0, n0, g4, g5⟩ := c d q x n hd hq (hc d q x n hd hq hcv)
    refine ⟨g1, g2, g3, a0, n0, ?_, g5⟩
    unfold room at *
    rw [h2, h10, h11, bn_cong h3]
    exact g4
  · rw [bn_cong h3] at hb
    exact e d q d' q' x n x' n' hd hq hd' hq' hn hb (hc d q x n hd hq c1) (hc d' q' x' n' hd' hq' c2)
theorem cov_reg {R : RV} {j q s d q' a n : Nat} {x y : Int32} (hq : q < 3) (hq' : q' < 3) (hk : R 2 j = nI 1) (h : cov (u2 (u2 (u2 R 6 (j * 3 + q) x) 7 (j * 3 + q) y) 8 (j * 3 + q) (-5)) s d q' a n) : cov R s d q' a n := by
  obtain ⟨h1, h2, h3⟩ := h
  refine ⟨h1, h2, ?_⟩
  by_cases hdq : d * 3 + q' = j * 3 + q
  · rcases h3 with ⟨g1, g2, g3, g4⟩ | ⟨g1, g2, g3, g4⟩
    · rw [u2_e _ _ ⟨rfl, hdq⟩, n5_ne (by omega)] at g3
      exact g3.elim
    · have : d = j := by omega
      subst this
      simp (disch := omega) only [u2_o] at g2
      rw [hk] at g2
      exact absurd g2 (by decide)
  · simp (disch := omega) only [u2_o] at h3
    exact h3
theorem OK_region {R : RV} (h : OK R) {j q sp : Nat} {y : Int32} (hj : j < 12) (hq : q < 3) (hsp : sp < 2) (hk : R 2 j = nI 1) (hy : y = nI 0 ∨ szP sp y) : OK (u2 (u2 (u2 R 6 (j * 3 + q) (nI sp)) 7 (j * 3 + q) y) 8 (j * 3 + q) (-5)) := by
  obtain ⟨i1, i2, i3, i4, i5, i6, i7, i8⟩ := h
  have rows : ∀ a, ¬a = 6 → ¬a = 7 → ¬a = 8 → u2 (u2 (u2 R 6 (j * 3 + q) (nI sp)) 7 (j * 3 + q) y) 8 (j * 3 + q) (-5) a = R a := fun a h6 h7 h8 => by
    rw [u2_row h8, u2_row h7, u2_row h6]
  have r8 : ∀ d q', d < 12 → q' < 3 → u2 (u2 (u2 R 6 (j * 3 + q) (nI sp)) 7 (j * 3 + q) y) 8 (j * 3 + q) (-5) 8 (d * 3 + q') = -5 ∨ u2 (u2 (u2 R 6 (j * 3 + q) (nI sp)) 7 (j * 3 + q) y) 8 (j * 3 + q) (-5) 8 (d * 3 + q') = R 8 (d * 3 + q') := fun d q' hd hq' => by
    by_cases hdq : d * 3 + q' = j * 3 + q
    · exact Or.inl (u2_e _ _ ⟨rfl, hdq⟩)
    · exact Or.inr (by simp (disch := omega) only [u2_o])
  refine ⟨InvT_cong (rows 2 (by omega) (by omega) (by omega)) (rows 3 (by omega) (by omega) (by omega)) (rows 4 (by omega) (by omega) (by omega)) (rows 5 (by omega) (by omega) (by omega)) i1, ⟨fun d hd hkd q' hq' => ?_, fun d hd hkd => ?_⟩, InvG_cong (rows 1 (by omega) (by omega) (by omega)) i3, fun d q' hd hq' => ?_, InvR_cong (rows 9 (by omega) (by omega) (by omega)) i5, InvN_cong (rows 3 (by omega) (by omega) (by omega)) (rows 12 (by omega) (by omega) (by omega)) (rows 13 (by omega) (by omega) (by omega)) i6, ?_, ?_⟩
  · rw [rows 2 (by omega) (by omega) (by omega)] at hkd
    have hdj : ¬d = j := fun e => by subst e; exact hkd hk
    simp (disch := omega) only [u2_o]
    exact i2.1 d hd hkd q' hq'
  · rw [rows 2 (by omega) (by omega) (by omega)] at hkd
    rw [rows 12 (by omega) (by omega) (by omega), rows 13 (by omega) (by omega) (by omega), rows 10 (by omega) (by omega) (by omega), rows 11 (by omega) (by omega) (by omega), rows 9 (by omega) (by omega) (by omega)]
    exact i2.2 d hd hkd
  · by_cases hdq : d * 3 + q' = j * 3 + q
    · refine ⟨sp, hsp, ?_, ?_⟩
      · simp (disch := omega) only [u2_o, u2_e]
      · simp (disch := omega) only [u2_o, u2_e]
        rcases hy with q | ⟨e, he, q⟩
        · exact Or.inl ⟨q, trivial⟩
        · exact Or.inr ⟨e, he, q⟩
    · simp (disch := omega) only [u2_o]
      exact i4 d q' hd hq'
  · exact InvW_sub (rows 2 (by omega) (by omega) (by omega)) (rows 3 (by omega) (by omega) (by omega)) (rows 10 (by omega) (by omega) (by omega)) (rows 11 (by omega) (by omega) (by omega)) (fun d q' a n hd hq' => cov_reg hq hq' hk) r8 i7
  · exact InvW_sub (rows 2 (by omega) (by omega) (by omega)) (rows 3 (by omega) (by omega) (by omega)) (rows 10 (by omega) (by omega) (by omega)) (rows 11 (by omega) (by omega) (by omega)) (fun d q' a n hd hq' => cov_reg hq hq' hk) r8 i8
theorem OK_reserve {R : RV} (h : OK R) {j s m : Nat} (hj : j < 12) (hs : s < 2) (hk : R 2 j = nI 2) (hm : m ≤ 16) : OK (u2 R 9 (j * 2 + s) (nI (m * grn s))) := by
  obtain ⟨i1, i2, i3, i4, i5, i6, i7, i8⟩ := h
  have rows : ∀ a, ¬a = 9 → u2 R 9 (j * 2 + s) (nI (m * grn s)) a = R a := fun a h9 => u2_row h9
  refine ⟨InvT_cong ?_ ?_ ?_ ?_ i1, ⟨fun d hd hkd q hq => ?_, fun d hd hkd => ?_⟩, InvG_cong ?_ i3, InvS_cong ?_ ?_ ?_ i4, fun d s' hd hs' => ?_, InvN_cong ?_ ?_ ?_ i6, InvW_cong ?_ ?_ ?_ ?_ ?_ ?_ ?_ i7, InvW_cong ?_ ?_ ?_ ?_ ?_ ?_ ?_ i8⟩
  case refine_5 =>
    rw [rows 2 (by omega)] at hkd
    rw [rows 7 (by omega), rows 8 (by omega)]
    exact i2.1 d hd hkd q hq
  case refine_6 =>
    rw [rows 2 (by omega)] at hkd
    have hdj : ¬d = j := fun e => by subst e; exact hkd hk
    rw [rows 12 (by omega), rows 13 (by omega), rows 10 (by omega), rows 11 (by omega)]
    obtain ⟨a1, a2, a3⟩ := i2.2 d hd hkd
    refine ⟨a1, a2, fun s' hs' => ?_⟩
    rw [u2_o _ _ (by omega)]
    exact a3 s' hs'
  case refine_11 =>
    by_cases e : d * 2 + s' = j * 2 + s
    · have : s' = s := by omega
      subst this
      exact ⟨m, hm, u2_e _ _ ⟨rfl, e⟩⟩
    · rw [u2_o _ _ (by omega)]
      exact i5 d s' hd hs'
  all_goals exact rows _ (by omega)
section
variable (d L : Nat) (mu : RV) (p : Nat → Nat)
theorem rem_0 {r g : Nat} (hr : r < 2147483648) (hg : g < 2147483648) (h0 : 0 < g) : nI r - nI r / nI g * nI g = nI (r % g) := by
  have h1 : r / g * g ≤ r := Nat.div_mul_le_self _ _
  rw [nI_div hr hg h0, pk_mul, nI_sub h1]
  congr 1
  have := Nat.div_add_mod r g
  rw [Nat.mul_comm] at this
  omega
theorem up_eq {r g : Nat} (h0 : 0 < g) : ((r + g - 1) / g * g = r) = (r % g = 0) := by
  have h1 := Nat.div_add_mod (r + g - 1) g
  have h2 := Nat.mod_lt (r + g - 1) h0
  have h3 := Nat.div_add_mod r g
  have h4 := Nat.mod_lt r h0
  rw [Nat.mul_comm]
  apply propext
  constructor
  · intro q
    have : g ∣ r := ⟨_, q.symm⟩
    exact Nat.mod_eq_zero_of_dvd this
  · intro q
    have e : (r + g - 1) / g = r / g := by
      have : r = g * (r / g) := by omega
      rw [show r + g - 1 = (g - 1) + g * (r / g) by omega, Nat.add_mul_div_left _ _ h0, Nat.div_eq_of_lt (by omega), Nat.zero_add]
    rw [e]
    omega
end
