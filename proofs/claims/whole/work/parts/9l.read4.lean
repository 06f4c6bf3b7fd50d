/-! the class's reader: kinds, openings, regions, a sign of any kind -/
section
variable (d L : Nat) (mu : RV) (p : Nat → Nat)
theorem t_O {s : RSt} (hs : WF s) (hd : s.1.1 = 3) (hcl : s.1.2.2.2.2 < 1000) (hr : CR mu s) (c : Nat) (hc : c < 128) : Tk (d + 1) L 84 [.inr (some 88), .inl (nI c)] mu p (tkO s c) := by
  obtain ⟨⟨du, lv, rg, sp, cn⟩, ob, ls, R⟩ := s
  obtain ⟨r1, r2, r3, r4, r5, r6, r7⟩ := hr
  obtain ⟨w1, w2, w3, w4, w5, w6, w7, w8, w9, w10, w11, w12, w13⟩ := hs
  dsimp only at r1 r2 r3 r4 r5 r6 r7 hd hcl
  have hz := z_tO d L mu p lv c cn r2 w2 hc r5 (w9 hd).2
  unfold Tk tkO
  dsimp only
  by_cases q : c = 40 ∧ lv < 5
  · rw [if_pos q] at hz ⊢
    refine ⟨_, Fr_u (Fr_u (Fr_u (Fr_u (Fr_r mu) (by omega)) (by omega)) (by omega)) (by omega), hz, fun h => (by cases h), fun s' h => ?_⟩
    cases h
    refine ⟨u2_s _ _ _ _, by rw [u2_o _ _ (by omega), u2_o _ _ (by omega), u2_o _ _ (by omega), u2_s], fun h => absurd h (by dsimp only; omega), fun h => absurd h (by dsimp only; omega), by rw [u2_o _ _ (by omega), u2_o _ _ (by omega), u2_o _ _ (by omega), u2_o _ _ (by omega)]; exact r5, fun l hl => ?_, ?_⟩
    · have hl : l ≤ lv + 1 := hl
      dsimp only
      by_cases e : l = lv + 1
      · subst e
        rw [u2_oa (by omega), u2_oa (by omega), u2_s, u2_oa (by omega), u2_s, fup_s, fup_s]
        exact ⟨rfl, by decide⟩
      · rw [u2_oa (by omega), u2_oa (by omega), u2_o _ _ (by omega), u2_oa (by omega), u2_oa (by omega), u2_o _ _ (by omega), u2_oa (by omega), u2_oa (by omega), fup_o _ _ e, fup_o _ _ e]
        exact r6 l (by omega)
    · rw [rk_uo (by omega), rk_uo (by omega), rk_uo (by omega), rk_uo (by omega)]; exact r7
  · rw [if_neg q] at hz ⊢
    exact ⟨mu, Fr_r mu, hz, fun _ => rfl, fun s' h => (by cases h)⟩
theorem t_P {s : RSt} (hs : WF s) (hd : s.1.1 = 4) (hr : CR mu s) (c : Nat) (hc : c < 128) : Tk d L 85 [.inr (some 88), .inl (nI c)] mu p (tkP s c) := by
  obtain ⟨⟨du, lv, rg, sp, cn⟩, ob, ls, R⟩ := s
  obtain ⟨r1, r2, r3, r4, r5, r6, r7⟩ := hr
  obtain ⟨w1, w2, w3, w4, w5, w6, w7, w8, w9, w10, w11, w12, w13⟩ := hs
  dsimp only at r1 r2 r3 r4 r5 r6 r7 hd
  have r3 := r3 (Or.inl hd)
  have hz := z_tP d L mu p rg c r3 w3 hc
  unfold Tk tkP
  dsimp only
  by_cases q : rg < 3 ∧ (c = 109 ∨ c = 112)
  · rw [if_pos q] at hz ⊢
    refine ⟨_, Fr_u (Fr_u (Fr_r mu) (by omega)) (by omega), hz, fun h => (by cases h), fun s' h => ?_⟩
    cases h
    refine ⟨u2_s _ _ _ _, by rw [u2_o _ _ (by omega), u2_o _ _ (by omega)]; exact r2, fun _ => by rw [u2_o _ _ (by omega), u2_o _ _ (by omega)]; exact r3, fun _ => by rw [u2_o _ _ (by omega), u2_s], by rw [u2_o _ _ (by omega), u2_o _ _ (by omega)]; exact r5, fun l hl => ?_, ?_⟩
    · rw [u2_oa (by omega), u2_oa (by omega), u2_oa (by omega), u2_oa (by omega)]
      exact r6 l hl
    · rw [rk_uo (by omega), rk_uo (by omega)]; exact r7
  · rw [if_neg q] at hz ⊢
    exact ⟨mu, Fr_r mu, hz, fun _ => rfl, fun s' h => (by cases h)⟩
theorem t_X {s : RSt} (hs : WF s) (hd : s.1.1 = 5) (hcl : s.1.2.2.2.2 < 1000) (hr : CR mu s) (c : Nat) (hc : c < 128) : Tk (d + 2) L 87 [.inr (some 88), .inl (nI c), .inr none] mu p (tkX s c) := by
  obtain ⟨⟨du, lv, rg, sp, cn⟩, ob, ls, R⟩ := s
  obtain ⟨r1, r2, r3, r4, r5, r6, r7⟩ := hr
  obtain ⟨w1, w2, w3, w4, w5, w6, w7, w8, w9, w10, w11, w12, w13⟩ := hs
  dsimp only at r1 r2 r3 r4 r5 r6 r7 hd hcl
  have r3 := r3 (Or.inr hd)
  have hz := z_tX d L mu p c cn rg sp hc r5 ⟨(w11 hd).1, hcl⟩ r3 (w11 hd).2 (r4 hd) w4
  have h11 := w11 hd
  unfold Tk tkX
  dsimp only
  by_cases q : 48 ≤ c ∧ c ≤ 48 + lex sp
  · rw [if_pos q] at hz ⊢
    by_cases q2 : cn ≤ 12
    · rw [if_pos q2] at hz
      refine ⟨_, Fr_u (Fr_u (Fr_u (Fr_u (Fr_u (Fr_r mu) (by omega)) (by omega)) (by omega)) (by omega)) (by omega), hz, fun h => (by cases h), fun s' h => ?_⟩
      cases h
      refine ⟨u2_s _ _ _ _, by rw [u2_o _ _ (by omega), u2_o _ _ (by omega), u2_o _ _ (by omega), u2_o _ _ (by omega), u2_o _ _ (by omega)]; exact r2, fun _ => by rw [u2_o _ _ (by omega), u2_s], fun h => absurd h (by dsimp only; omega), by rw [u2_o _ _ (by omega), u2_o _ _ (by omega), u2_o _ _ (by omega), u2_o _ _ (by omega), u2_o _ _ (by omega)]; exact r5, fun l hl => ?_, ?_⟩
      · rw [u2_oa (by omega), u2_oa (by omega), u2_oa (by omega), u2_oa (by omega), u2_oa (by omega), u2_oa (by omega), u2_oa (by omega), u2_oa (by omega), u2_oa (by omega), u2_oa (by omega)]
        exact r6 l hl
      · have l6 : rlen 6 = 36 := rfl
        have l7 : rlen 7 = 36 := rfl
        have l8 : rlen 8 = 36 := rfl
        rw [rk_uo (by omega), rk_uo (by omega), rk_un (b := 8) (by omega) (by omega) (by omega), rk_un (b := 7) (by omega) (by omega) (by omega), rk_un (b := 6) (by omega) (by omega) (by omega), zr_u (by omega), zr_u (by omega), zr_u (by omega), r7]
        show _ = regS rg sp cn (c - 48) R
        unfold regS
        rw [if_pos q2]
    · rw [if_neg q2] at hz
      refine ⟨_, Fr_u (Fr_u (Fr_r mu) (by omega)) (by omega), hz, fun h => (by cases h), fun s' h => ?_⟩
      cases h
      refine ⟨u2_s _ _ _ _, by rw [u2_o _ _ (by omega), u2_o _ _ (by omega)]; exact r2, fun _ => by rw [u2_o _ _ (by omega), u2_s], fun h => absurd h (by dsimp only; omega), by rw [u2_o _ _ (by omega), u2_o _ _ (by omega)]; exact r5, fun l hl => ?_, ?_⟩
      · rw [u2_oa (by omega), u2_oa (by omega), u2_oa (by omega), u2_oa (by omega)]
        exact r6 l hl
      · rw [rk_uo (by omega), rk_uo (by omega), r7]
        show _ = regS rg sp cn (c - 48) R
        unfold regS
        rw [if_neg q2]
  · rw [if_neg q] at hz ⊢
    exact ⟨mu, Fr_r mu, hz, fun _ => rfl, fun s' h => (by cases h)⟩
theorem t_K {s : RSt} (hs : WF s) (hd : s.1.1 = 2) (hcl : s.1.2.2.2.2 < 1000) (hr : CR mu s) (c : Nat) (hc : c < 128) : Tk (d + 2) L 82 [.inr (some 88), .inl (nI c)] mu p (tkK s c) := by
  obtain ⟨⟨du, lv, rg, sp, cn⟩, ob, ls, R⟩ := s
  obtain ⟨r1, r2, r3, r4, r5, r6, r7⟩ := hr
  obtain ⟨w1, w2, w3, w4, w5, w6, w7, w8, w9, w10, w11, w12, w13⟩ := hs
  dsimp only at r1 r2 r3 r4 r5 r6 r7 hd hcl
  have h8 := w8 hd
  have hl4 := w5 lv
  have hb : cn < 12 → ob lv < 13 := fun h => (chn_bus (w12 (by omega)).2.1 lv (Nat.le_refl _)).1
  have hz := z_tK d L mu p lv c cn (ob lv) (ls lv) r2 w2 hc r5 hcl (r6 lv (Nat.le_refl _)).1 (r6 lv (Nat.le_refl _)).2 ⟨h8.2, hl4⟩ hb
  have hM : ∀ k : Nat, ∃ m, (if cn < 12 then u2 (u2 (u2 (u2 mu 90 cn (nI k)) 91 cn (nI (ob lv))) 92 cn (nI (ls lv - 1))) 93 (ob lv * 4 + (ls lv - 1)) (nI cn) else mu) = m ∧ Fr mu m ∧ (∀ i, m 88 i = mu 88 i) ∧ (∀ i, m 102 i = mu 102 i) ∧ (∀ i, m 103 i = mu 103 i) ∧ zr (rk m 89) = putS k lv cn ob ls R := fun k => by
    unfold putS
    by_cases q : cn < 12
    · have hb := hb q
      rw [if_pos q, if_pos q]
      refine ⟨_, rfl, Fr_u (Fr_u (Fr_u (Fr_u (Fr_r mu) (by omega)) (by omega)) (by omega)) (by omega), fun i => ?_, fun i => ?_, fun i => ?_, ?_⟩
      · rw [u2_oa (by omega), u2_oa (by omega), u2_oa (by omega), u2_oa (by omega)]
      · rw [u2_oa (by omega), u2_oa (by omega), u2_oa (by omega), u2_oa (by omega)]
      · rw [u2_oa (by omega), u2_oa (by omega), u2_oa (by omega), u2_oa (by omega)]
      · have l2 : rlen 2 = 12 := rfl
        have l3 : rlen 3 = 12 := rfl
        have l4 : rlen 4 = 12 := rfl
        have l5 : rlen 5 = 52 := rfl
        rw [rk_un (b := 5) (by omega) (by omega) (by omega), rk_un (b := 4) (by omega) (by omega) (by omega), rk_un (b := 3) (by omega) (by omega) (by omega), rk_un (b := 2) (by omega) (by omega) (by omega), zr_u (by omega), zr_u (by omega), zr_u (by omega), zr_u (by omega), r7]
        rfl
    · rw [if_neg q, if_neg q]
      exact ⟨_, rfl, Fr_r mu, fun _ => rfl, fun _ => rfl, fun _ => rfl, r7⟩
  obtain ⟨m1, e1, f1, f2, f3, f4, f5⟩ := hM 1
  obtain ⟨m2, e2, g1, g2, g3, g4, g5⟩ := hM 2
  rw [e1, e2] at hz
  unfold Tk tkK
  dsimp only
  by_cases q : c = 99
  · rw [if_pos q] at hz ⊢
    refine ⟨_, Fr_u (Fr_u (Fr_u f1 (by omega)) (by omega)) (by omega), hz, fun h => (by cases h), fun s' h => ?_⟩
    cases h
    refine ⟨u2_s _ _ _ _, by rw [u2_o _ _ (by omega), u2_o _ _ (by omega), u2_o _ _ (by omega), f2]; exact r2, fun _ => by rw [u2_o _ _ (by omega), u2_s], fun h => absurd h (by dsimp only; omega), by rw [u2_o _ _ (by omega), u2_o _ _ (by omega), u2_s], fun l hl => ?_, ?_⟩
    · rw [u2_oa (by omega), u2_oa (by omega), u2_oa (by omega), u2_oa (by omega), u2_oa (by omega), u2_oa (by omega), f3, f4]
      exact r6 l hl
    · rw [rk_uo (by omega), rk_uo (by omega), rk_uo (by omega)]; exact f5
  · rw [if_neg q] at hz ⊢
    by_cases q2 : c = 98
    · rw [if_pos q2] at hz ⊢
      refine ⟨_, Fr_u (Fr_u g1 (by omega)) (by omega), hz, fun h => (by cases h), fun s' h => ?_⟩
      cases h
      refine ⟨u2_s _ _ _ _, by rw [u2_o _ _ (by omega), u2_o _ _ (by omega), g2]; exact r2, fun h => absurd h (by dsimp only; omega), fun h => absurd h (by dsimp only; omega), by rw [u2_o _ _ (by omega), u2_s], fun l hl => ?_, ?_⟩
      · rw [u2_oa (by omega), u2_oa (by omega), u2_oa (by omega), u2_oa (by omega), g3, g4]
        exact r6 l hl
      · rw [rk_uo (by omega), rk_uo (by omega)]; exact g5
    · rw [if_neg q2] at hz ⊢
      exact ⟨mu, Fr_r mu, hz, fun _ => rfl, fun s' h => (by cases h)⟩
theorem h79_4 (x : Nat) (hx : x ≤ 6) (t : Nat) (ht : t = (match x with
    | 0 => 44
    | 1 => 66
    | 2 => 72
    | 3 => 78
    | 4 => 84
    | 5 => 106
    | _ => 112)) (c : Int32) : zsem d 79 4 [.inr (some 88), .inl c] [.inl (nI x)] (HH L mu p) = zsem d 79 t [.inr (some 88), .inl c] [] (HH L mu p) := by
  subst ht
  rcases (show x = 0 ∨ x = 1 ∨ x = 2 ∨ x = 3 ∨ x = 4 ∨ x = 5 ∨ x = 6 by omega) with e | e | e | e | e | e | e <;> subst e
  · exact q_tsw (len := 40) (dd := 108) (lo := 0) (hi := 5) (offs := #[40, 62, 68, 74, 80, 102]) (o := 40) (t := 44) (by decide +kernel) (by decide) (by decide) (by decide) rfl
  · exact q_tsw (len := 40) (dd := 108) (lo := 0) (hi := 5) (offs := #[40, 62, 68, 74, 80, 102]) (o := 62) (t := 66) (by decide +kernel) (by decide) (by decide) (by decide) rfl
  · exact q_tsw (len := 40) (dd := 108) (lo := 0) (hi := 5) (offs := #[40, 62, 68, 74, 80, 102]) (o := 68) (t := 72) (by decide +kernel) (by decide) (by decide) (by decide) rfl
  · exact q_tsw (len := 40) (dd := 108) (lo := 0) (hi := 5) (offs := #[40, 62, 68, 74, 80, 102]) (o := 74) (t := 78) (by decide +kernel) (by decide) (by decide) (by decide) rfl
  · exact q_tsw (len := 40) (dd := 108) (lo := 0) (hi := 5) (offs := #[40, 62, 68, 74, 80, 102]) (o := 80) (t := 84) (by decide +kernel) (by decide) (by decide) (by decide) rfl
  · exact q_tsw (len := 40) (dd := 108) (lo := 0) (hi := 5) (offs := #[40, 62, 68, 74, 80, 102]) (o := 102) (t := 106) (by decide +kernel) (by decide) (by decide) (by decide) rfl
  · exact q_tswd (len := 40) (dd := 108) (lo := 0) (hi := 5) (offs := #[40, 62, 68, 74, 80, 102]) (t := 112) (by decide +kernel) (by decide) rfl
end
