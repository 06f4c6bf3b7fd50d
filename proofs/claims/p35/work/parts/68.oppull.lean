/-! pull: both sides -/
def gB (mu : RV) (f : Nat → Bool) (n : Nat) : RV := fun a k => if a = 115 ∧ k < n then (if f k = true then nI 1 else nI 0) else mu a k
theorem gB_s (mu : RV) (f : Nat → Bool) (n : Nat) : gB mu f (n + 1) = u2 (gB mu f n) 115 n (if f n = true then nI 1 else nI 0) := by
  funext a k
  by_cases h : a = 115 ∧ k = n
  · obtain ⟨rfl, rfl⟩ := h
    rw [u2_s]
    unfold gB
    rw [if_pos (by omega)]
  · rw [u2_o _ _ h]
    unfold gB
    by_cases h2 : a = 115 ∧ k < n
    · rw [if_pos h2, if_pos (by omega)]
    · rw [if_neg h2, if_neg (by omega)]
theorem gB_o {mu : RV} {f : Nat → Bool} {n a : Nat} (h : ¬a = 115) : gB mu f n a = mu a := by
  funext k
  unfold gB
  rw [if_neg (by omega)]
theorem gB_i {mu : RV} {f : Nat → Bool} {n k : Nat} (h : k < n) : gB mu f n 115 k = if f k = true then nI 1 else nI 0 := by
  unfold gB
  rw [if_pos ⟨rfl, h⟩]
def kB (mu : RV) (f : Nat → Bool) (n : Nat) : RV := fun a t => if a = 106 ∧ t % 20 = 0 ∧ t / 20 < n ∧ f (t / 20) = true then nI 0 else mu a t
theorem kB_0 (mu : RV) (f : Nat → Bool) : kB mu f 0 = mu := by
  funext a t
  unfold kB
  rw [if_neg (by omega)]
theorem kB_s (mu : RV) (f : Nat → Bool) (n : Nat) (h : f n = true) : kB mu f (n + 1) = u2 (kB mu f n) 106 (20 * n) (nI 0) := by
  funext a t
  by_cases h2 : a = 106 ∧ t = 20 * n
  · obtain ⟨rfl, rfl⟩ := h2
    rw [u2_s]
    unfold kB
    have e : 20 * n / 20 = n := by omega
    rw [if_pos ⟨rfl, by omega, by omega, by rw [e]; exact h⟩]
  · rw [u2_o _ _ h2]
    unfold kB
    by_cases h3 : a = 106 ∧ t % 20 = 0 ∧ t / 20 < n ∧ f (t / 20) = true
    · rw [if_pos h3, if_pos ⟨h3.1, h3.2.1, by omega, h3.2.2.2⟩]
    · rw [if_neg h3, if_neg (fun q => h3 ⟨q.1, q.2.1, by omega, q.2.2.2⟩)]
theorem kB_n (mu : RV) (f : Nat → Bool) (n : Nat) (h : ¬f n = true) : kB mu f (n + 1) = u2 (kB mu f n) 106 (20 * n) (kB mu f n 106 (20 * n)) := by
  funext a t
  by_cases h2 : a = 106 ∧ t = 20 * n
  · obtain ⟨rfl, rfl⟩ := h2
    rw [u2_s]
    unfold kB
    have e : 20 * n / 20 = n := by omega
    rw [if_neg (by rw [e]; exact fun q => h q.2.2.2), if_neg (by omega)]
  · rw [u2_o _ _ h2]
    unfold kB
    by_cases h3 : a = 106 ∧ t % 20 = 0 ∧ t / 20 < n ∧ f (t / 20) = true
    · rw [if_pos h3, if_pos ⟨h3.1, h3.2.1, by omega, h3.2.2.2⟩]
    · rw [if_neg h3, if_neg (fun q => h3 ⟨q.1, q.2.1, by omega, q.2.2.2⟩)]
theorem kB_o {mu : RV} {f : Nat → Bool} {n a : Nat} (h : ¬a = 106) : kB mu f n a = mu a := by
  funext k
  unfold kB
  rw [if_neg (by omega)]
theorem nar_0 : vp_nar .boolean (nI 0) = nI 0 := by decide
theorem nar_1 : vp_nar .boolean (nI 1) = nI 1 := by decide
section
variable (d L : Nat) (mu : RV) (p : Nat → Nat)
theorem cnt_split (P Q S : Nat → Prop) [DecidablePred P] [DecidablePred Q] [DecidablePred S] (h : ∀ i, (P i ↔ Q i ∨ S i) ∧ ¬(Q i ∧ S i)) : ∀ n, cntP P n = cntP Q n + cntP S n := by
  intro n
  induction n with
  | zero => rfl
  | succ n ih =>
    unfold cntP
    rw [ih]
    obtain ⟨h1, h2⟩ := h n
    by_cases hq : Q n
    · have hs : ¬S n := fun q => h2 ⟨hq, q⟩
      rw [if_pos hq, if_neg hs, if_pos (h1.mpr (Or.inl hq))]
      omega
    · by_cases hs : S n
      · rw [if_neg hq, if_pos hs, if_pos (h1.mpr (Or.inr hs))]
        omega
      · rw [if_neg hq, if_neg hs, if_neg (fun q => (h1.mp q).elim hq hs)]
        omega
end
