/-! the history: both sides -/
def PI (p : Nat → Nat) : Prop := (∀ i, i < 4 → p i = 29 ∨ p i = 42 ∨ p i = 55 ∨ p i = 68) ∧ ∀ i j, i < 4 → j < 4 → p i = p j → i = j
theorem PI.rk {p : Nat → Nat} (h : PI p) {i : Nat} (hi : i < 4) : isRk (p i) := by
  unfold isRk
  rcases h.1 i hi with q | q | q | q <;> omega
theorem PI.ne1 {p : Nat → Nat} (h : PI p) {i : Nat} (hi : i < 4) : ¬p i = 1 := by
  rcases h.1 i hi with q | q | q | q <;> omega
theorem PI.out {p : Nat → Nat} (h : PI p) {i a : Nat} (hi : i < 4) (ha : a < 29 ∨ 81 ≤ a) : a < p i ∨ p i + 12 < a := by
  rcases h.1 i hi with q | q | q | q <;> omega
theorem rk_apart {mu mu' : RV} {r q : Nat} (hr : isRk r) (hq : isRk q) (hn : ¬r = q) (h : ∀ a, (a < q ∨ q + 12 < a) → mu' a = mu a) : rk mu' r = rk mu r :=
  rk_cong fun a h1 h2 => h a (by have := isRk_ne hr hq hn; omega)
def rot (p : Nat → Nat) : Nat → Nat := va_up (va_up (va_up (va_up p 0 (p 1)) 1 (p 2)) 2 (p 3)) 3 (p 0)
theorem rot_v (p : Nat → Nat) : rot p 0 = p 1 ∧ rot p 1 = p 2 ∧ rot p 2 = p 3 ∧ rot p 3 = p 0 := ⟨rfl, rfl, rfl, rfl⟩
theorem PI.rot {p : Nat → Nat} (h : PI p) : PI (rot p) := by
  obtain ⟨r0, r1, r2, r3⟩ := rot_v p
  constructor
  · intro i hi
    have : i = 0 ∨ i = 1 ∨ i = 2 ∨ i = 3 := by omega
    rcases this with rfl | rfl | rfl | rfl
    · rw [r0]; exact h.1 1 (by omega)
    · rw [r1]; exact h.1 2 (by omega)
    · rw [r2]; exact h.1 3 (by omega)
    · rw [r3]; exact h.1 0 (by omega)
  · intro i j hi hj
    have hi : i = 0 ∨ i = 1 ∨ i = 2 ∨ i = 3 := by omega
    have hj : j = 0 ∨ j = 1 ∨ j = 2 ∨ j = 3 := by omega
    rcases hi with rfl | rfl | rfl | rfl <;> rcases hj with rfl | rfl | rfl | rfl <;> first | (intro _; rfl) | (simp only [r0, r1, r2, r3]; intro q; have := h.2 _ _ (by omega) (by omega) q; omega)
section
variable (d L : Nat) (mu : RV) (p : Nat → Nat)
set_option maxRecDepth 4000 in
theorem z_dropOldest (hp : PI p) : zsem d 17 0 [.inr (.inl (some 27)), .inr (.inl none), .inr (.inl none)] [] (HH L mu p) = some (none, HH L (u2 mu 27 1 (nI 3)) (rot p)) := by
  have g0 := hp.rk (i := 0) (by omega)
  have g1 := hp.rk (i := 1) (by omega)
  have g2 := hp.rk (i := 2) (by omega)
  have g3 := hp.rk (i := 3) (by omega)
  have e1 : va_up p 0 (p 1) 2 = p 2 := rfl
  have e2 : va_up (va_up p 0 (p 1)) 1 (p 2) 3 = p 3 := rfl
  simp (disch := first | omega | assumption) only [h17_0, h17_1, h17_4, h17_5, h17_6, h17_7, h17_8, h17_9, h17_10, h17_11, h17_14, h17_15, h17_18, h17_19, h17_20, h17_21, h17_22, h17_25, h17_26, h17_27, h17_28, h17_31, h17_34, h17_35, h17_38, h17_39, h17_40, h17_41, h17_42, h17_43, h17_46, Option.bind_some, Option.toList_some, Option.toList_none, List.cons_append, List.nil_append, nI_ltc, nI_lec, nI_eqc, nI_ne5, n5_ne, n5_lt, bI_0, bI_1, nI_add, pk_mul, if_pos, if_neg, ite_not, if_true, if_false, not_true_eq_false, not_false_eq_true, true_and, false_and, and_true, and_false, Nat.reduceAdd, Nat.reduceMul, ↓reduceIte, Nat.reduceLeDiff, Nat.reduceLT, Nat.reduceEqDiff, nI_sub, e1, e2, Nat.reduceSub]
  rfl
/-- record: the rack behind the states kept; a fifth state drops the oldest -/
theorem z_record (hp : PI p) (c : Nat) (hc : c ≤ 4) (hcount : mu 27 1 = nI c) : ∃ (mu' : RV) (p' : Nat → Nat) (c' : Nat), zsem (d + 1) 16 0 [.inr (.inl (some 27)), .inr (.inl (some 1)), .inr (.inl none)] [] (HH L mu p) = some (none, HH L mu' p') ∧ PI p' ∧ mu' 27 1 = nI (c' + 1) ∧ c' < 4 ∧ ((c < 4 ∧ c' = c ∧ ∀ i, i < c → rk mu' (p' i) = rk mu (p i)) ∨ (c = 4 ∧ c' = 3 ∧ ∀ i, i < 3 → rk mu' (p' i) = rk mu (p (i + 1)))) ∧ rk mu' (p' c') = rk mu 1 ∧ ∀ a, (a < 27 ∨ 81 ≤ a) → mu' a = mu a := by
  by_cases h4 : c < 4
  · have gr := hp.rk h4
    obtain ⟨mu1, e, hrk, hout⟩ := z_copyFrom d L mu p (p c) 1 gr (Or.inl rfl) (hp.ne1 h4)
    have h27 : mu1 27 = mu 27 := hout 27 (hp.out h4 (by omega))
    have hcount1 : mu1 27 1 = nI c := by rw [h27]; exact hcount
    refine ⟨u2 mu1 27 1 (nI (c + 1)), p, c, ?_, hp, u2_s _ _ _ _, h4, Or.inl ⟨h4, rfl, fun i hi => ?_⟩, ?_, fun a ha => ?_⟩
    · simp (disch := first | omega | assumption) only [h16_0, h16_1, h16_4, h16_5, h16_8, h16_9, h16_12, h16_13, h16_16, h16_17, h16_20, h16_21, h16_22, h16_23, h16_26, h16_27, h16_28, h16_31, h16_32, h16_33, h16_36, h16_37, h16_38, h16_41, Option.bind_some, Option.toList_some, Option.toList_none, List.cons_append, List.nil_append, nI_ltc, nI_lec, nI_eqc, nI_ne5, n5_ne, n5_lt, bI_0, bI_1, nI_add, pk_mul, if_pos, if_neg, ite_not, if_true, if_false, not_true_eq_false, not_false_eq_true, true_and, false_and, and_true, and_false, Nat.reduceAdd, Nat.reduceMul, hcount, e, hcount1]
    · have hi4 : i < 4 := by omega
      rw [rk_cong (mu := mu1) (fun a h1 h2 => by funext j; exact u2_oa (by rcases hp.1 i hi4 with q | q | q | q <;> omega))]
      exact rk_apart (hp.rk hi4) gr (fun q => by have := hp.2 i c hi4 h4 q; omega) hout
    · rw [rk_cong (mu := mu1) (fun a h1 h2 => by funext j; exact u2_oa (by rcases hp.1 c h4 with q | q | q | q <;> omega))]
      exact hrk
    · funext j
      rw [u2_oa (by omega), hout a (hp.out h4 (by omega))]
  · have hc4 : c = 4 := by omega
    subst hc4
    have hpr := hp.rot
    have gr := hpr.rk (i := 3) (by omega)
    obtain ⟨mu1, e, hrk, hout⟩ := z_copyFrom d L (u2 mu 27 1 (nI 3)) (rot p) (rot p 3) 1 gr (Or.inl rfl) (hpr.ne1 (by omega))
    have h27 : mu1 27 = u2 mu 27 1 (nI 3) 27 := hout 27 (hpr.out (by omega) (by omega))
    have hcount1 : mu1 27 1 = nI 3 := by rw [h27]; exact u2_s _ _ _ _
    have hu : u2 mu 27 1 (nI 3) 27 1 = nI 3 := u2_s _ _ _ _
    have hd := z_dropOldest d L mu p hp
    refine ⟨u2 mu1 27 1 (nI 4), rot p, 3, ?_, hpr, u2_s _ _ _ _, by omega, Or.inr ⟨rfl, rfl, fun i hi => ?_⟩, ?_, fun a ha => ?_⟩
    · simp (disch := first | omega | assumption) only [h16_0, h16_1, h16_4, h16_5, h16_8, h16_9, h16_12, h16_13, h16_16, h16_17, h16_20, h16_21, h16_22, h16_23, h16_26, h16_27, h16_28, h16_31, h16_32, h16_33, h16_36, h16_37, h16_38, h16_41, Option.bind_some, Option.toList_some, Option.toList_none, List.cons_append, List.nil_append, nI_ltc, nI_lec, nI_eqc, nI_ne5, n5_ne, n5_lt, bI_0, bI_1, nI_add, pk_mul, if_pos, if_neg, ite_not, if_true, if_false, not_true_eq_false, not_false_eq_true, true_and, false_and, and_true, and_false, Nat.reduceAdd, Nat.reduceMul, hcount, hd, hu, e, hcount1]
    · have hi4 : i < 4 := by omega
      rw [rk_cong (mu := mu1) (fun a h1 h2 => by funext j; exact u2_oa (by rcases hpr.1 i hi4 with q | q | q | q <;> omega))]
      rw [rk_apart (hpr.rk hi4) gr (fun q => by have := hpr.2 i 3 hi4 (by omega) q; omega) hout]
      rw [rk_cong (mu := mu) (fun a h1 h2 => by funext j; exact u2_oa (by rcases hpr.1 i hi4 with q | q | q | q <;> omega))]
      have : i = 0 ∨ i = 1 ∨ i = 2 := by omega
      rcases this with rfl | rfl | rfl <;> rfl
    · rw [rk_cong (mu := mu1) (fun a h1 h2 => by funext j; exact u2_oa (by rcases hpr.1 3 (by omega) with q | q | q | q <;> omega))]
      rw [hrk]
      exact rk_cong (fun a h1 h2 => by funext j; exact u2_oa (by omega))
    · funext j
      rw [u2_oa (by omega), hout a (hpr.out (by omega) (by omega)), u2_oa (by omega)]
end
