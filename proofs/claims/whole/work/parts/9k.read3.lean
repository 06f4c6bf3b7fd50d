/-! one sign, by the class -/
def zr (M : RV) : RV := fun a i => if a = 1 then nI 0 else M a i
theorem zr_u {M : RV} {a i : Nat} {x : Int32} (h : ¬a = 1) : zr (u2 M a i x) = u2 (zr M) a i x := by
  funext a' i'
  by_cases q : a' = a ∧ i' = i
  · obtain ⟨rfl, rfl⟩ := q
    rw [u2_s]
    unfold zr
    rw [if_neg h, u2_s]
  · rw [u2_o _ _ q]
    unfold zr
    by_cases q2 : a' = 1
    · rw [if_pos q2, if_pos q2]
    · rw [if_neg q2, if_neg q2, u2_o _ _ q]
theorem rk_un {mu : RV} {r a b i : Nat} {x : Int32} (ha : 2 ≤ b) (hi : i < rlen b) (h : a = r + b - 1) : rk (u2 mu a i x) r = u2 (rk mu r) b i x := by
  subst h
  funext a' i'
  by_cases h : a' = b ∧ i' = i
  · obtain ⟨rfl, rfl⟩ := h
    rw [u2_s]
    unfold rk
    rw [if_pos ⟨ha, hi⟩, u2_s]
  · rw [u2_o _ _ h]
    unfold rk
    by_cases hc : 2 ≤ a' ∧ i' < rlen a'
    · rw [if_pos hc, if_pos hc, u2_o _ _ (by omega)]
    · rw [if_neg hc, if_neg hc]
      by_cases h1 : a' = 1 ∧ i' = 12
      · rw [if_pos h1, if_pos h1, u2_o _ _ (by omega)]
      · rw [if_neg h1, if_neg h1]
theorem rk_uo {mu : RV} {r a i : Nat} {x : Int32} (h : a < r ∨ r + 12 < a) : rk (u2 mu a i x) r = rk mu r := rk_cong (fun b h1 h2 => u2_row (by omega))
def Fr (mu mu' : RV) : Prop := ∀ a, (a < 88 ∨ 103 < a) → mu' a = mu a
theorem Fr_u {mu mu' : RV} {a i : Nat} {x : Int32} (h : Fr mu mu') (ha : 88 ≤ a ∧ a ≤ 103) : Fr mu (u2 mu' a i x) := fun b hb => by rw [u2_row (by omega)]; exact h b hb
theorem Fr_r (mu : RV) : Fr mu mu := fun _ _ => rfl
theorem Fr_t {a b c : RV} (h1 : Fr a b) (h2 : Fr b c) : Fr a c := fun x hx => by rw [h2 x hx, h1 x hx]
def CR (mu : RV) (s : RSt) : Prop := mu 88 2 = nI s.1.1 ∧ mu 88 3 = nI s.1.2.1 ∧ (s.1.1 = 4 ∨ s.1.1 = 5 → mu 88 6 = nI s.1.2.2.1) ∧ (s.1.1 = 5 → mu 88 7 = nI s.1.2.2.2.1) ∧ mu 88 1 = nI s.1.2.2.2.2 ∧ (∀ l, l ≤ s.1.2.1 → mu 102 l = nI (s.2.1 l) ∧ mu 103 l = nI (s.2.2.1 l) - nI 1) ∧ zr (rk mu 89) = s.2.2.2
theorem tk_cn {s s' : RSt} {c : Nat} (h : tk s c = some s') : s.1.2.2.2.2 ≤ s'.1.2.2.2.2 ∧ s'.1.2.2.2.2 ≤ s.1.2.2.2.2 + 1 := by
  obtain ⟨⟨du, lv, rg, sp, cn⟩, ob, ls, R⟩ := s
  have hC : ∀ {s'}, tkC ((du, lv, rg, sp, cn), ob, ls, R) c = some s' → cn ≤ s'.1.2.2.2.2 ∧ s'.1.2.2.2.2 ≤ cn + 1 := fun {s'} h => by
    unfold tkC at h
    dsimp only at h
    split at h
    · cases h; exact ⟨Nat.le_refl _, Nat.le_succ _⟩
    · cases h
  have hE : ∀ {s'}, tkE ((du, lv, rg, sp, cn), ob, ls, R) c = some s' → cn ≤ s'.1.2.2.2.2 ∧ s'.1.2.2.2.2 ≤ cn + 1 := fun {s'} h => by
    unfold tkE at h
    dsimp only at h
    split at h
    · cases h; exact ⟨Nat.le_refl _, Nat.le_succ _⟩
    · exact hC h
  have hS : ∀ {s'}, tkS ((du, lv, rg, sp, cn), ob, ls, R) c = some s' → cn ≤ s'.1.2.2.2.2 ∧ s'.1.2.2.2.2 ≤ cn + 1 := fun {s'} h => by
    unfold tkS at h
    dsimp only at h
    split at h
    · cases h; exact ⟨Nat.le_refl _, Nat.le_succ _⟩
    · cases h
  unfold tk at h
  split at h
  · split at h
    · next hq => cases h; exact hC hq
    · exact hS h
  · exact hS h
  · unfold tkK at h
    dsimp only at h
    split at h
    · cases h; exact ⟨Nat.le_succ _, Nat.le_refl _⟩
    · split at h
      · cases h; exact ⟨Nat.le_succ _, Nat.le_refl _⟩
      · cases h
  · unfold tkO at h
    dsimp only at h
    split at h
    · cases h; exact ⟨Nat.le_refl _, Nat.le_succ _⟩
    · cases h
  · split at h
    · next hq =>
      cases h
      unfold tkP at hq
      dsimp only at hq
      split at hq
      · cases hq; exact ⟨Nat.le_refl _, Nat.le_succ _⟩
      · cases hq
    · exact hE h
  · unfold tkX at h
    dsimp only at h
    split at h
    · cases h; exact ⟨Nat.le_refl _, Nat.le_succ _⟩
    · cases h
  · exact hE h
/-- what a taker of signs answers -/
def Tk (d L k : Nat) (lc : List AV) (mu : RV) (p : Nat → Nat) (o : Option RSt) : Prop := ∃ mu', Fr mu mu' ∧ zsem d k 0 lc [] (HH L mu p) = some (some (.inl (nI (match o with
  | some _ => 1
  | none => 0))), HH L mu' p) ∧ (o = none → mu' = mu) ∧ ∀ s', o = some s' → CR mu' s'
section
variable (d L : Nat) (mu : RV) (p : Nat → Nat)
theorem t_C {s : RSt} (hs : WF s) (hr : CR mu s) (c : Nat) (hc : c < 128) : Tk d L 80 [.inr (some 88), .inl (nI c)] mu p (tkC s c) := by
  obtain ⟨⟨du, lv, rg, sp, cn⟩, ob, ls, R⟩ := s
  obtain ⟨r1, r2, r3, r4, r5, r6, r7⟩ := hr
  obtain ⟨w1, w2, w3, w4, w5, w6, w7, w8, w9, w10, w11, w12, w13⟩ := hs
  dsimp only at r1 r2 r3 r4 r5 r6 r7
  have hz := z_tC d L mu p lv c r2 w2 hc
  unfold Tk tkC
  dsimp only
  by_cases q : c = 41 ∧ lv ≠ 0
  · rw [if_pos q] at hz ⊢
    refine ⟨_, Fr_u (Fr_u (Fr_r mu) (by omega)) (by omega), hz, fun h => (by cases h), fun s' h => ?_⟩
    cases h
    refine ⟨u2_s _ _ _ _, by rw [u2_o _ _ (by omega), u2_s], fun h => absurd h (by dsimp only; omega), fun h => absurd h (by dsimp only; omega), ?_, fun l hl => ?_, ?_⟩
    · rw [u2_o _ _ (by omega), u2_o _ _ (by omega)]; exact r5
    · have hl : l ≤ lv - 1 := hl
      rw [u2_oa (by omega), u2_oa (by omega), u2_oa (by omega), u2_oa (by omega)]
      exact r6 l (by omega)
    · rw [rk_uo (by omega), rk_uo (by omega)]; exact r7
  · rw [if_neg q] at hz ⊢
    exact ⟨mu, Fr_r mu, hz, fun _ => rfl, fun s' h => (by cases h)⟩
theorem t_E {s : RSt} (hs : WF s) (hr : CR mu s) (c : Nat) (hc : c < 128) : Tk (d + 1) L 86 [.inr (some 88), .inl (nI c)] mu p (tkE s c) := by
  have hs0 := hs
  have hr0 := hr
  obtain ⟨⟨du, lv, rg, sp, cn⟩, ob, ls, R⟩ := s
  obtain ⟨r1, r2, r3, r4, r5, r6, r7⟩ := hr
  obtain ⟨w1, w2, w3, w4, w5, w6, w7, w8, w9, w10, w11, w12, w13⟩ := hs
  dsimp only at r1 r2 r3 r4 r5 r6 r7
  have hz := z_tE d L mu p lv c (ls lv) r2 w2 hc (r6 lv (Nat.le_refl _)).2 (w5 lv)
  by_cases q : c = 44 ∧ ls lv < 4
  · unfold Tk tkE
    dsimp only
    rw [if_pos q] at hz ⊢
    refine ⟨_, Fr_u (Fr_r mu) (by omega), hz, fun h => (by cases h), fun s' h => ?_⟩
    cases h
    refine ⟨u2_s _ _ _ _, by rw [u2_o _ _ (by omega)]; exact r2, fun h => absurd h (by dsimp only; omega), fun h => absurd h (by dsimp only; omega), by rw [u2_o _ _ (by omega)]; exact r5, fun l hl => ?_, ?_⟩
    · rw [u2_oa (by omega), u2_oa (by omega)]
      exact r6 l hl
    · rw [rk_uo (by omega)]; exact r7
  · rw [if_neg q] at hz
    obtain ⟨mu', f1, f2, f3, f4⟩ := t_C d L mu p hs0 hr0 c hc
    have e : tkE ((du, lv, rg, sp, cn), ob, ls, R) c = tkC ((du, lv, rg, sp, cn), ob, ls, R) c := by
      unfold tkE
      dsimp only
      rw [if_neg q]
    rw [e]
    refine ⟨mu', f1, ?_, f3, f4⟩
    rw [hz, ← z_tC d L mu p lv c r2 w2 hc]
    exact f2
theorem t_S {s : RSt} (hs : WF s) (hr : CR mu s) (c : Nat) (hc : c < 128) : Tk d L 81 [.inr (some 88), .inl (nI c), .inr none] mu p (tkS s c) := by
  obtain ⟨⟨du, lv, rg, sp, cn⟩, ob, ls, R⟩ := s
  obtain ⟨r1, r2, r3, r4, r5, r6, r7⟩ := hr
  obtain ⟨w1, w2, w3, w4, w5, w6, w7, w8, w9, w10, w11, w12, w13⟩ := hs
  dsimp only at r1 r2 r3 r4 r5 r6 r7
  have hz := z_tS d L mu p lv c (ls lv) r2 w2 hc (r6 lv (Nat.le_refl _)).2 (w5 lv)
  unfold Tk tkS
  dsimp only
  by_cases q : lv < 5 ∧ 48 + ls lv ≤ c ∧ c < 52
  · rw [if_pos q] at hz ⊢
    refine ⟨_, Fr_u (Fr_u (Fr_r mu) (by omega)) (by omega), hz, fun h => (by cases h), fun s' h => ?_⟩
    cases h
    refine ⟨u2_s _ _ _ _, by rw [u2_o _ _ (by omega), u2_o _ _ (by omega)]; exact r2, fun h => absurd h (by dsimp only; omega), fun h => absurd h (by dsimp only; omega), by rw [u2_o _ _ (by omega), u2_o _ _ (by omega)]; exact r5, fun l hl => ?_, ?_⟩
    · have hl : l ≤ lv := hl
      dsimp only
      rw [u2_oa (by omega), u2_oa (by omega), u2_oa (by omega)]
      refine ⟨(r6 l hl).1, ?_⟩
      by_cases e : l = lv
      · subst e
        rw [u2_s, fup_s, nI_sub (by omega), nI_sub (by omega)]
        exact congrArg nI (by omega)
      · rw [u2_o _ _ (by omega), fup_o _ _ e]
        exact (r6 l hl).2
    · rw [rk_uo (by omega), rk_uo (by omega)]; exact r7
  · rw [if_neg q] at hz ⊢
    exact ⟨mu, Fr_r mu, hz, fun _ => rfl, fun s' h => (by cases h)⟩
end
