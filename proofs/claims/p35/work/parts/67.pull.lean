/-! pull -/
theorem rk_relR {mu : RV} {j : Nat} (hj : j < 12) : rk (relR mu j) 1 = relR (rk mu 1) j := by
  funext a i
  by_cases hc : 2 ≤ a ∧ i < rlen a
  · rw [rk_n hc.1 hc.2]
    unfold relR
    rw [rk_n hc.1 hc.2]
  · have l12 : rlen 12 = 12 := rfl
    have l13 : rlen 13 = 12 := rfl
    have l10 : rlen 10 = 24 := rfl
    have l8 : rlen 8 = 36 := rfl
    have l11 : rlen 11 = 24 := rfl
    have h1 : ¬((a = 12 ∧ i = j) ∨ (a = 13 ∧ i = j) ∨ (a = 10 ∧ i / 2 = j) ∨ (a = 8 ∧ i / 3 = j)) := by
      rintro (⟨rfl, h⟩ | ⟨rfl, h⟩ | ⟨rfl, h⟩ | ⟨rfl, h⟩) <;> omega
    have h2 : ¬(a = 11 ∧ i / 2 = j) := by
      rintro ⟨rfl, h⟩
      omega
    have e : relR (rk mu 1) j a i = rk mu 1 a i := by
      unfold relR
      rw [if_neg h1, if_neg h2]
    rw [e]
    unfold rk
    rw [if_neg hc, if_neg hc]
    by_cases h3 : a = 1 ∧ i = 12
    · rw [if_pos h3, if_pos h3]
      unfold relR
      rw [if_neg (by omega), if_neg (by omega)]
    · rw [if_neg h3, if_neg h3]
theorem rk_remR {mu : RV} {j b s : Nat} (hj : j < 12) (hbs : b * 4 + s < 52) : rk (remR mu j b s) 1 = remR (rk mu 1) j b s := by
  funext a i
  have l2 : rlen 2 = 12 := rfl
  have l5 : rlen 5 = 52 := rfl
  have l7 : rlen 7 = 36 := rfl
  have l9 : rlen 9 = 24 := rfl
  have hr : rk (relR mu j) 1 a i = relR (rk mu 1) j a i := by rw [rk_relR hj]
  by_cases hc : 2 ≤ a ∧ i < rlen a
  · rw [rk_n hc.1 hc.2] at hr
    rw [rk_n hc.1 hc.2]
    unfold remR
    rw [hr]
  · have h1 : ¬((a = 7 ∧ i / 3 = j) ∨ (a = 9 ∧ i / 2 = j) ∨ (a = 2 ∧ i = j)) := by
      rintro (⟨rfl, h⟩ | ⟨rfl, h⟩ | ⟨rfl, h⟩) <;> omega
    have h2 : ¬(a = 5 ∧ i = b * 4 + s) := by
      rintro ⟨rfl, h⟩
      omega
    have e : remR (rk mu 1) j b s a i = relR (rk mu 1) j a i := by
      unfold remR
      rw [if_neg h1, if_neg h2]
    rw [e, ← hr]
    unfold rk
    rw [if_neg hc, if_neg hc]
    by_cases h3 : a = 1 ∧ i = 12
    · rw [if_pos h3, if_pos h3]
      unfold remR
      rw [if_neg (by omega), if_neg (by omega)]
    · rw [if_neg h3, if_neg h3]
theorem rk_remA {mu : RV} {f : Nat → Bool} (hf : ∀ j, j < 12 → f j = true → bn mu j * 4 + sn mu j < 52) : ∀ n, n ≤ 12 → rk (remA mu f n) 1 = remA (rk mu 1) f n := by
  intro n
  induction n with
  | zero => intro _; rfl
  | succ n ih =>
    intro hn
    have eb : bn (rk mu 1) n = bn mu n := by unfold bn; rw [rk_3 (by omega)]
    have es : sn (rk mu 1) n = sn mu n := by unfold sn; rw [rk_4 (by omega)]
    show rk (if f n = true then _ else _) 1 = (if f n = true then _ else _)
    by_cases h : f n = true
    · rw [if_pos h, if_pos h, rk_remR (by omega) (hf n (by omega) h), ih (by omega), eb, es]
    · rw [if_neg h, if_neg h, ih (by omega)]
section
variable {R : RV} {f : Nat → Bool}
theorem remA_2 {d : Nat} (hd : d < 12) : (f d = true → remA R f 12 2 d = nI 0) ∧ (¬f d = true → remA R f 12 2 d = R 2 d) := by
  obtain ⟨h1, h2⟩ := remA_at R f 12 2 d
  refine ⟨fun h => h1 (Or.inr (Or.inr ⟨rfl, hd, h⟩)), fun h => ?_⟩
  rw [(h2 (by rintro (⟨q, -⟩ | ⟨q, -⟩ | ⟨-, -, q⟩) <;> first | exact h q | omega)).2 (by omega), relS_row (by omega)]
theorem remA_row {a : Nat} (h : a = 1 ∨ a = 6 ∨ a = 8 ∨ a = 10 ∨ a = 11 ∨ a = 12 ∨ a = 13) : remA R f 12 a = relS R f 12 a := by
  funext i
  exact ((remA_at R f 12 a i).2 (by omega)).2 (by omega)
theorem remA_7 {d q : Nat} (hd : d < 12) (hq : q < 3) : (f d = true → remA R f 12 7 (d * 3 + q) = nI 0) ∧ (¬f d = true → remA R f 12 7 (d * 3 + q) = R 7 (d * 3 + q)) := by
  obtain ⟨h1, h2⟩ := remA_at R f 12 7 (d * 3 + q)
  have e : (d * 3 + q) / 3 = d := by omega
  rw [e] at h1 h2
  refine ⟨fun h => h1 (Or.inl ⟨rfl, hd, h⟩), fun h => ?_⟩
  rw [(h2 (by rintro (⟨-, -, q⟩ | ⟨q, -⟩ | ⟨q, -⟩) <;> first | exact h q | omega)).2 (by omega), relS_row (by omega)]
theorem remA_9 {d q : Nat} (hd : d < 12) (hq : q < 2) : (f d = true → remA R f 12 9 (d * 2 + q) = nI 0) ∧ (¬f d = true → remA R f 12 9 (d * 2 + q) = R 9 (d * 2 + q)) := by
  obtain ⟨h1, h2⟩ := remA_at R f 12 9 (d * 2 + q)
  have e : (d * 2 + q) / 2 = d := by omega
  rw [e] at h1 h2
  refine ⟨fun h => h1 (Or.inr (Or.inl ⟨rfl, hd, h⟩)), fun h => ?_⟩
  rw [(h2 (by rintro (⟨q, -⟩ | ⟨-, -, q⟩ | ⟨q, -⟩) <;> first | exact h q | omega)).2 (by omega), relS_row (by omega)]
theorem remA_5 (i : Nat) : (hit R f 12 i → remA R f 12 5 i = -5) ∧ (¬hit R f 12 i → remA R f 12 5 i = R 5 i) := by
  obtain ⟨-, h2⟩ := remA_at R f 12 5 i
  obtain ⟨h3, h4⟩ := h2 (by omega)
  refine ⟨fun h => h3 ⟨rfl, h⟩, fun h => ?_⟩
  rw [h4 (fun q => h q.2), relS_row (by omega)]
theorem OK_rem (h : OK R) (hp : ∀ d, d < 12 → f d = true → ¬R 2 d = nI 0) (hf : ∀ d, d < 12 → ¬R 2 d = nI 0 → bn R d < 12 → f (bn R d) = true → f d = true) : OK (remA R f 12) := by
  have hO := OK_rel h hf
  obtain ⟨i1, i2, i3, i4, i5, i6, i7, i8⟩ := h
  obtain ⟨j1, j2, j3, j4, j5, j6, j7, j8⟩ := hO
  obtain ⟨e3, e4⟩ := remA_34 R f 12
  have hbn : bn (remA R f 12) = bn R := bn_cong e3
  have pos : ∀ j, j < 12 → ¬R 2 j = nI 0 → ∃ b s, b < 13 ∧ s < 4 ∧ bn R j = b ∧ sn R j = s ∧ R 3 j = nI b ∧ R 4 j = nI s ∧ R 5 (b * 4 + s) = nI j ∧ (b < 12 → R 2 b = nI 2) := fun j hj hk => by
    obtain ⟨b, s, hb, hs, h1, h2, h3, h4⟩ := i1.2.1 j hj hk
    exact ⟨b, s, hb, hs, bn_of h1 hb, by unfold sn; rw [h2]; exact nI_clamp (by omega), h1, h2, h3, h4⟩
  have kd : ∀ d, d < 12 → ¬remA R f 12 2 d = nI 0 → ¬f d = true ∧ ¬R 2 d = nI 0 := fun d hd hk => by
    by_cases g : f d = true
    · exact absurd ((remA_2 hd).1 g) hk
    · rw [(remA_2 hd).2 g] at hk
      exact ⟨g, hk⟩
  have nf : ∀ d, d < 12 → ¬f d = true → ¬R 2 d = nI 0 → bn R d < 12 → remA R f 12 2 (bn R d) = R 2 (bn R d) := fun d hd h1 h2 h3 =>
    (remA_2 h3).2 (fun g => h1 (hf d hd h2 h3 g))
  have hrt : ∀ n b, (b < 12 → ¬f b = true) → rt R n b → rt (remA R f 12) n b := by
    intro n
    induction n with
    | zero => intro b _ h; exact h
    | succ n ih =>
      intro b hb h
      rcases h with h | ⟨h1, h2, h3⟩
      · exact Or.inl h
      · refine Or.inr ⟨h1, by rw [(remA_2 h1).2 (hb h1)]; exact h2, ?_⟩
        rw [hbn]
        exact ih _ (fun q g => hb h1 (hf b h1 (k2_ne0 h2) q g)) h3
  have W : ∀ s, s < 2 → InvW (relS R f 12) s → InvW (remA R f 12) s := by
    intro s hs ⟨w1, w2, w3, w4⟩
    have r2 : relS R f 12 2 = R 2 := relS_row (by omega)
    have r6 : relS R f 12 6 = R 6 := relS_row (by omega)
    have r7 : relS R f 12 7 = R 7 := relS_row (by omega)
    have hbn1 : bn (relS R f 12) = bn R := bn_cong (relS_row (by omega))
    have cv : ∀ d q a n, d < 12 → q < 3 → cov (remA R f 12) s d q a n → cov (relS R f 12) s d q a n ∧ ¬f d = true ∧ ¬R 2 d = nI 0 := by
      intro d q a n hd hq ⟨c1, c2, c3⟩
      have hk : ¬remA R f 12 2 d = nI 0 := by
        rcases c3 with ⟨c, -⟩ | ⟨-, c, -⟩
        · exact k1_ne0 c
        · exact k2_ne0 c
      obtain ⟨g1, g2⟩ := kd d hd hk
      refine ⟨⟨c1, c2, ?_⟩, g1, g2⟩
      rw [remA_row (a := 6) (by omega), remA_row (a := 8) (by omega), remA_row (a := 10) (by omega), remA_row (a := 11) (by omega), (remA_2 hd).2 g1, (remA_7 hd hq).2 g1] at c3
      rw [r2, r7]
      exact c3
    refine ⟨fun d q hd hq => ?_, fun d hd => ?_, fun d q a n hd hq hc => ?_, fun d q d' q' a n a' n' hd hq hd' hq' hn hb c1 c2 => ?_⟩
    · rw [remA_row (by omega)]; exact w1 d q hd hq
    · rw [remA_row (a := 10) (by omega), remA_row (a := 11) (by omega)]; exact w2 d hd
    · obtain ⟨c1, c2, c3⟩ := cv d q a n hd hq hc
      obtain ⟨g1, g2, g3, a0, n0, g4, g5⟩ := w3 d q a n hd hq c1
      refine ⟨g1, g2, g3, a0, n0, ?_, g5⟩
      rw [hbn1] at g4
      rw [hbn]
      rcases g4 with g4 | ⟨b1, b2, b3, b4, b5, b6⟩
      · exact Or.inl g4
      · refine Or.inr ⟨b1, b2, b3, ?_, ?_, ?_⟩
        · rw [nf d hd c2 c3 b1, ← r2]; exact b4
        · rw [remA_row (by omega)]; exact b5
        · rw [remA_row (by omega)]; exact b6
    · rw [hbn] at hb
      refine w4 d q d' q' a n a' n' hd hq hd' hq' hn ?_ (cv d q a n hd hq c1).1 (cv d' q' a' n' hd' hq' c2).1
      rw [hbn1]
      exact hb
  refine ⟨⟨fun d hd => ?_, fun d hd hk => ?_, fun b s hb hs => ?_, fun d hd hk => ?_⟩, ⟨fun d hd hkd q hq => ?_, fun d hd hkd => ?_⟩, InvG_cong (remA_row (by omega)) j3, fun d q hd hq => ?_, fun d s hd hs => ?_, InvN_cong (R := relS R f 12) (by rw [e3, relS_row (by omega)]) (remA_row (by omega)) (remA_row (by omega)) j6, W 0 (by omega) j7, W 1 (by omega) j8⟩
  · by_cases g : f d = true
    · exact Or.inl ((remA_2 hd).1 g)
    · rw [(remA_2 hd).2 g]; exact i1.1 d hd
  · obtain ⟨g1, g2⟩ := kd d hd hk
    obtain ⟨b, s, hb, hs, p1, p2, p3, p4, p5, p6⟩ := pos d hd g2
    rw [e3, e4]
    refine ⟨b, s, hb, hs, p3, p4, ?_, fun hb2 => ?_⟩
    · rw [(remA_5 _).2, p5]
      rintro ⟨j, q1, q2, q3⟩
      obtain ⟨b', s', hb', hs', u1, u2, u3, u4, u5, u6⟩ := pos j q1 (hp j q1 q2)
      rw [u1, u2] at q3
      rw [← q3, p5, nI_eqc (by omega) (by omega)] at u5
      subst u5
      exact g1 q2
    · have := nf d hd g1 g2 (by omega)
      rw [p1] at this
      rw [this]
      exact p6 hb2
  · by_cases g : hit R f 12 (b * 4 + s)
    · exact Or.inl ((remA_5 _).1 g)
    · rw [(remA_5 _).2 g]
      rcases i1.2.2.1 b s hb hs with q | ⟨d, hd, q1, q2, q3, q4⟩
      · exact Or.inl q
      · refine Or.inr ⟨d, hd, q1, ?_, by rw [e3]; exact q3, by rw [e4]; exact q4⟩
        have : ¬f d = true := fun g2 => g ⟨d, hd, g2, by
          rw [bn_of q3 hb]
          unfold sn
          rw [q4, nI_clamp (by omega)]⟩
        rw [(remA_2 hd).2 this]
        exact q2
  · obtain ⟨g1, g2⟩ := kd d hd hk
    rw [hbn]
    exact hrt 4 _ (fun q g => g1 (hf d hd g2 q g)) (i1.2.2.2 d hd g2)
  · by_cases g : f d = true
    · rw [(remA_7 hd hq).1 g, remA_row (by omega)]
      exact ⟨rfl, (relS_l (R := R) (f := f) ⟨hd, g⟩).2.2.2 q hq⟩
    · rw [(remA_7 hd hq).2 g, remA_row (by omega)]
      rw [(remA_2 hd).2 g] at hkd
      have := j2.1 d hd (by rw [relS_row (by omega)]; exact hkd) q hq
      rw [relS_row (a := 7) (by omega)] at this
      exact this
  · by_cases g : f d = true
    · obtain ⟨l1, l2, l3, l4⟩ := relS_l (R := R) (f := f) (n := 12) ⟨hd, g⟩
      rw [remA_row (a := 12) (by omega), remA_row (a := 13) (by omega), remA_row (a := 10) (by omega), remA_row (a := 11) (by omega)]
      exact ⟨l1, l2, fun s hs => ⟨(l3 s hs).1, (l3 s hs).2, (remA_9 hd hs).1 g⟩⟩
    · rw [(remA_2 hd).2 g] at hkd
      obtain ⟨x1, x2, x3⟩ := j2.2 d hd (by rw [relS_row (by omega)]; exact hkd)
      rw [remA_row (a := 12) (by omega), remA_row (a := 13) (by omega), remA_row (a := 10) (by omega), remA_row (a := 11) (by omega)]
      refine ⟨x1, x2, fun s hs => ⟨(x3 s hs).1, (x3 s hs).2.1, ?_⟩⟩
      rw [(remA_9 hd hs).2 g]
      have := (x3 s hs).2.2
      rw [relS_row (by omega)] at this
      exact this
  · obtain ⟨sp, x1, x2, x3⟩ := j4 d q hd hq
    rw [remA_row (a := 6) (by omega), remA_row (a := 8) (by omega)]
    refine ⟨sp, x1, x2, ?_⟩
    by_cases g : f d = true
    · exact Or.inl ⟨(remA_7 hd hq).1 g, (relS_l (R := R) (f := f) ⟨hd, g⟩).2.2.2 q hq⟩
    · rw [(remA_7 hd hq).2 g]
      rw [relS_row (a := 7) (by omega)] at x3
      exact x3
  · by_cases g : f d = true
    · exact ⟨0, by omega, by rw [(remA_9 hd hs).1 g, Nat.zero_mul]⟩
    · rw [(remA_9 hd hs).2 g]; exact i5 d s hd hs
end
