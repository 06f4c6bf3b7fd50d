/-! detach -/
theorem anc_cong {R R' : RV} (h3 : R' 3 = R 3) (x : Nat) : ∀ n b, anc R' n b x = anc R n b x := by
  intro n
  induction n with
  | zero => intro b; rfl
  | succ n ih =>
    intro b
    show (b < 12 ∧ (b = x ∨ anc R' n (bn R' b) x)) = (b < 12 ∧ (b = x ∨ anc R n (bn R b) x))
    rw [bn_cong h3, ih]
theorem cnt3 (P : Nat → Prop) [DecidablePred P] (j : Nat) : cntP P (3 * (j + 1)) = cntP P (3 * j) + (if P (3 * j) then 1 else 0) + (if P (3 * j + 1) then 1 else 0) + (if P (3 * j + 2) then 1 else 0) := by
  rw [show 3 * (j + 1) = 3 * j + 1 + 1 + 1 by omega]
  rfl
theorem lost_sum (R : RV) (f : Nat → Bool) : ∀ n, n ≤ 12 → cntP (fun i => ¬R 8 i = -5) (3 * n) = cntP (fun i => ¬relS R f 12 8 i = -5) (3 * n) + lostS R f n := by
  intro n
  induction n with
  | zero => intro _; rfl
  | succ n ih =>
    intro hn
    have e := ih (by omega)
    rw [cnt3, cnt3, e]
    have r0 : 3 * n = n * 3 + 0 := by omega
    have r1 : 3 * n + 1 = n * 3 + 1 := by omega
    have r2 : 3 * n + 2 = n * 3 + 2 := by omega
    show _ = _ + (lostS R f n + if f n = true then lost R n else 0)
    by_cases hf : f n = true
    · obtain ⟨-, -, -, l⟩ := relS_l (R := R) (f := f) (n := 12) (d := n) ⟨by omega, hf⟩
      rw [if_pos hf]
      unfold lost
      rw [r1, r2]
      have r0' : ∀ (g : Nat → Prop), g (3 * n) = g (n * 3 + 0) := fun g => by rw [← r0]
      rw [show R 8 (3 * n) = R 8 (n * 3 + 0) by rw [← r0], show relS R f 12 8 (3 * n) = relS R f 12 8 (n * 3 + 0) by rw [← r0]]
      rw [l 0 (by omega), l 1 (by omega), l 2 (by omega)]
      simp only [ite_not, not_true_eq_false, if_false]
      omega
    · obtain ⟨-, -, -, l⟩ := relS_k (R := R) (f := f) (n := 12) (d := n) (fun q => hf q.2)
      rw [if_neg hf, r1, r2]
      rw [show R 8 (3 * n) = R 8 (n * 3 + 0) by rw [← r0], show relS R f 12 8 (3 * n) = relS R f 12 8 (n * 3 + 0) by rw [← r0]]
      rw [l 0 (by omega), l 1 (by omega), l 2 (by omega)]
      omega
section
variable (d L : Nat) (mu : RV) (p : Nat → Nat)
end
