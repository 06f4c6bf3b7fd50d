/-! what changes keep -/
theorem u2_row {R : RV} {a i b : Nat} {x : Int32} (h : ¬b = a) : u2 R a i x b = R b := by funext j; exact u2_oa h
theorem bn_cong {R R' : RV} (h3 : R' 3 = R 3) : bn R' = bn R := by funext d; unfold bn; rw [h3]
theorem rt_cong {R R' : RV} (h2 : R' 2 = R 2) (h3 : R' 3 = R 3) : ∀ n b, rt R' n b = rt R n b := by
  intro n
  induction n with
  | zero => intro b; rfl
  | succ n ih =>
    intro b
    show (b = 12 ∨ (b < 12 ∧ R' 2 b = nI 2 ∧ rt R' n (bn R' b))) = (b = 12 ∨ (b < 12 ∧ R 2 b = nI 2 ∧ rt R n (bn R b)))
    rw [h2, bn_cong h3, ih]
theorem InvT_cong {R R' : RV} (h2 : R' 2 = R 2) (h3 : R' 3 = R 3) (h4 : R' 4 = R 4) (h5 : R' 5 = R 5) (h : InvT R) : InvT R' := by
  obtain ⟨a, b, c, e⟩ := h
  refine ⟨fun d hd => by rw [h2]; exact a d hd, fun d hd hk => ?_, fun x s hb hs => ?_, fun d hd hk => ?_⟩
  · rw [h3, h4, h5, h2]
    rw [h2] at hk
    exact b d hd hk
  · rw [h3, h4, h5, h2]
    exact c x s hb hs
  · rw [rt_cong h2 h3, bn_cong h3]
    rw [h2] at hk
    exact e d hd hk
theorem InvA_cong {R R' : RV} (h2 : R' 2 = R 2) (h7 : R' 7 = R 7) (h8 : R' 8 = R 8) (h9 : R' 9 = R 9) (h10 : R' 10 = R 10) (h11 : R' 11 = R 11) (h12 : R' 12 = R 12) (h13 : R' 13 = R 13) (h : InvA R) : InvA R' := by
  unfold InvA at *
  rw [h2, h7, h8, h9, h10, h11, h12, h13]
  exact h
theorem InvG_cong {R R' : RV} (h1 : R' 1 = R 1) (h : InvG R) : InvG R' := by
  unfold InvG at *
  rw [h1]
  exact h
theorem InvS_cong {R R' : RV} (h6 : R' 6 = R 6) (h7 : R' 7 = R 7) (h8 : R' 8 = R 8) (h : InvS R) : InvS R' := by
  unfold InvS at *
  rw [h6, h7, h8]
  exact h
theorem InvR_cong {R R' : RV} (h9 : R' 9 = R 9) (h : InvR R) : InvR R' := by
  unfold InvR at *
  rw [h9]
  exact h
theorem InvN_cong {R R' : RV} (h3 : R' 3 = R 3) (h12 : R' 12 = R 12) (h13 : R' 13 = R 13) (h : InvN R) : InvN R' := by
  unfold InvN numd at *
  rw [bn_cong h3, h12, h13]
  exact h
theorem InvW_cong {R R' : RV} {s : Nat} (h2 : R' 2 = R 2) (h3 : R' 3 = R 3) (h6 : R' 6 = R 6) (h7 : R' 7 = R 7) (h8 : R' 8 = R 8) (h10 : R' 10 = R 10) (h11 : R' 11 = R 11) (h : InvW R s) : InvW R' s := by
  unfold InvW cov room at *
  rw [bn_cong h3, h2, h6, h7, h8, h10, h11]
  exact h
theorem Rec.rk {mu mu1 : RV} {p p1 : Nat → Nat} (h : Rec mu p mu1 p1) : rk mu1 1 = rk mu 1 := rk_cong (fun a h1 h2 => h.2.1 a (by omega))
section
variable (d L : Nat) (mu : RV) (p : Nat → Nat)
end
