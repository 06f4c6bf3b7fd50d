/-! losing numbers and places: both racks -/
theorem relS_row {R : RV} {f : Nat → Bool} {n a : Nat} (h : ¬a = 12 ∧ ¬a = 13 ∧ ¬a = 10 ∧ ¬a = 8 ∧ ¬a = 11) : relS R f n a = R a := by
  funext i
  unfold relS
  rw [if_neg (by omega), if_neg (by omega)]
theorem rk_relS {mu : RV} {f : Nat → Bool} {n : Nat} (hn : n ≤ 12) : rk (relS mu f n) 1 = relS (rk mu 1) f n := by
  funext a i
  by_cases hc : 2 ≤ a ∧ i < rlen a
  · rw [rk_n hc.1 hc.2]
    unfold relS
    rw [rk_n hc.1 hc.2]
  · have l12 : rlen 12 = 12 := rfl
    have l13 : rlen 13 = 12 := rfl
    have l10 : rlen 10 = 24 := rfl
    have l8 : rlen 8 = 36 := rfl
    have l11 : rlen 11 = 24 := rfl
    have h1 : ¬((a = 12 ∧ i < n ∧ f i = true) ∨ (a = 13 ∧ i < n ∧ f i = true) ∨ (a = 10 ∧ i / 2 < n ∧ f (i / 2) = true) ∨ (a = 8 ∧ i / 3 < n ∧ f (i / 3) = true)) := by
      rintro (⟨rfl, h, -⟩ | ⟨rfl, h, -⟩ | ⟨rfl, h, -⟩ | ⟨rfl, h, -⟩) <;> omega
    have h2 : ¬(a = 11 ∧ i / 2 < n ∧ f (i / 2) = true) := by
      rintro ⟨rfl, h, -⟩
      omega
    have e : relS (rk mu 1) f n a i = rk mu 1 a i := by
      unfold relS
      rw [if_neg h1, if_neg h2]
    rw [e]
    unfold rk
    rw [if_neg hc, if_neg hc]
    by_cases h3 : a = 1 ∧ i = 12
    · rw [if_pos h3, if_pos h3, relS_row (by omega)]
    · rw [if_neg h3, if_neg h3]
theorem relS_y {R : RV} {f : Nat → Bool} {n a i : Nat} (h : (a = 12 ∧ i < n ∧ f i = true) ∨ (a = 13 ∧ i < n ∧ f i = true) ∨ (a = 10 ∧ i / 2 < n ∧ f (i / 2) = true) ∨ (a = 8 ∧ i / 3 < n ∧ f (i / 3) = true)) : relS R f n a i = -5 := if_pos h
theorem relS_z {R : RV} {f : Nat → Bool} {n i : Nat} (h : i / 2 < n ∧ f (i / 2) = true) : relS R f n 11 i = nI 0 := by
  unfold relS
  rw [if_neg (by omega), if_pos ⟨rfl, h⟩]
/-- a device that keeps all -/
theorem relS_k {R : RV} {f : Nat → Bool} {n d : Nat} (h : ¬(d < n ∧ f d = true)) : relS R f n 12 d = R 12 d ∧ relS R f n 13 d = R 13 d ∧ (∀ s, s < 2 → relS R f n 10 (d * 2 + s) = R 10 (d * 2 + s) ∧ relS R f n 11 (d * 2 + s) = R 11 (d * 2 + s)) ∧ ∀ q, q < 3 → relS R f n 8 (d * 3 + q) = R 8 (d * 3 + q) := by
  refine ⟨?_, ?_, fun s hs => ⟨?_, ?_⟩, fun q hq => ?_⟩
  · unfold relS; rw [if_neg (by rintro (⟨-, q⟩ | ⟨q, -⟩ | ⟨q, -⟩ | ⟨q, -⟩) <;> first | exact h q | omega), if_neg (by omega)]
  · unfold relS; rw [if_neg (by rintro (⟨q, -⟩ | ⟨-, q⟩ | ⟨q, -⟩ | ⟨q, -⟩) <;> first | exact h q | omega), if_neg (by omega)]
  · have e : (d * 2 + s) / 2 = d := by omega
    unfold relS; rw [if_neg (by rw [e]; rintro (⟨q, -⟩ | ⟨q, -⟩ | ⟨-, q⟩ | ⟨q, -⟩) <;> first | exact h q | omega), if_neg (by omega)]
  · have e : (d * 2 + s) / 2 = d := by omega
    unfold relS; rw [if_neg (by omega), if_neg (by rw [e]; exact fun q => h q.2)]
  · have e : (d * 3 + q) / 3 = d := by omega
    unfold relS; rw [if_neg (by rw [e]; rintro (⟨q, -⟩ | ⟨q, -⟩ | ⟨q, -⟩ | ⟨-, q⟩) <;> first | exact h q | omega), if_neg (by omega)]
theorem relS_l {R : RV} {f : Nat → Bool} {n d : Nat} (h : d < n ∧ f d = true) : relS R f n 12 d = -5 ∧ relS R f n 13 d = -5 ∧ (∀ s, s < 2 → relS R f n 10 (d * 2 + s) = -5 ∧ relS R f n 11 (d * 2 + s) = nI 0) ∧ ∀ q, q < 3 → relS R f n 8 (d * 3 + q) = -5 := by
  refine ⟨relS_y (Or.inl ⟨rfl, h⟩), relS_y (Or.inr (Or.inl ⟨rfl, h⟩)), fun s hs => ⟨relS_y (Or.inr (Or.inr (Or.inl ⟨rfl, ?_⟩))), relS_z ?_⟩, fun q hq => relS_y (Or.inr (Or.inr (Or.inr ⟨rfl, ?_⟩)))⟩
  · rw [show (d * 2 + s) / 2 = d by omega]; exact h
  · rw [show (d * 2 + s) / 2 = d by omega]; exact h
  · rw [show (d * 3 + q) / 3 = d by omega]; exact h
theorem OK_rel {R : RV} {f : Nat → Bool} (h : OK R) (hf : ∀ d, d < 12 → ¬R 2 d = nI 0 → bn R d < 12 → f (bn R d) = true → f d = true) : OK (relS R f 12) := by
  obtain ⟨i1, i2, i3, i4, i5, i6, i7, i8⟩ := h
  have r2 : relS R f 12 2 = R 2 := relS_row (by omega)
  have r3 : relS R f 12 3 = R 3 := relS_row (by omega)
  have r6 : relS R f 12 6 = R 6 := relS_row (by omega)
  have r7 : relS R f 12 7 = R 7 := relS_row (by omega)
  have r9 : relS R f 12 9 = R 9 := relS_row (by omega)
  have hbn : bn (relS R f 12) = bn R := bn_cong r3
  have hk : ∀ d, d < 12 → ¬f d = true → ¬(d < 12 ∧ f d = true) := fun d _ q g => q g.2
  have hkb : ∀ d, ¬R 12 d = -5 → d < 12 → ¬R 2 d = nI 0 := fun d h1 h2 h3 => h1 (i2.2 d h2 (by rw [h3]; decide)).1
  have nd : ∀ d a b, d < 12 → numd (relS R f 12) d a b → numd R d a b ∧ ¬f d = true := fun d a b hd hn => by
    by_cases q : f d = true
    · have := (relS_l (R := R) (f := f) ⟨hd, q⟩).1
      have h1 := hn.1
      have h2 := hn.2.2.1
      have h3 := hn.2.2.2
      rw [this, n5_ne (by omega)] at h1
      exact h1.elim
    · obtain ⟨k1, k2, -⟩ := relS_k (R := R) (f := f) (hk d hd q)
      unfold numd at *
      rw [k1, k2] at hn
      exact ⟨hn, q⟩
  have W : ∀ s, s < 2 → InvW R s → InvW (relS R f 12) s := by
    intro s hs ⟨w1, w2, w3, w4⟩
    have cv : ∀ d q a n, d < 12 → q < 3 → cov (relS R f 12) s d q a n → cov R s d q a n ∧ ¬f d = true := by
      intro d q a n hd hq ⟨c1, c2, c3⟩
      by_cases g : f d = true
      · exfalso
        obtain ⟨l1, l2, l3, l4⟩ := relS_l (R := R) (f := f) ⟨hd, g⟩
        rcases c3 with ⟨-, -, c3, -⟩ | ⟨-, -, c3, -⟩
        · rw [l4 q hq, n5_ne (by omega)] at c3; exact c3
        · rw [(l3 s hs).1, n5_ne (by omega)] at c3; exact c3
      · obtain ⟨l1, l2, l3, l4⟩ := relS_k (R := R) (f := f) (hk d hd g)
        refine ⟨⟨c1, c2, ?_⟩, g⟩
        rw [r2, r6, r7, l4 q hq, (l3 s hs).1, (l3 s hs).2] at c3
        exact c3
    refine ⟨fun d q hd hq => ?_, fun d hd => ?_, fun d q a n hd hq hc => ?_, fun d q d' q' a n a' n' hd hq hd' hq' hn hb c1 c2 => ?_⟩
    · by_cases g : f d = true
      · exact Or.inl ((relS_l (R := R) (f := f) ⟨hd, g⟩).2.2.2 q hq)
      · rw [(relS_k (R := R) (f := f) (hk d hd g)).2.2.2 q hq]; exact w1 d q hd hq
    · by_cases g : f d = true
      · exact Or.inl ((relS_l (R := R) (f := f) ⟨hd, g⟩).2.2.1 s hs)
      · have := (relS_k (R := R) (f := f) (hk d hd g)).2.2.1 s hs
        rw [this.1, this.2]; exact w2 d hd
    · obtain ⟨c1, c2⟩ := cv d q a n hd hq hc
      obtain ⟨g1, g2, g3, a0, n0, g4, g5⟩ := w3 d q a n hd hq c1
      refine ⟨g1, g2, g3, a0, n0, ?_, g5⟩
      rw [hbn]
      rcases g4 with g4 | ⟨b1, b2, b3, b4, b5, b6⟩
      · exact Or.inl g4
      · have kd : ¬R 2 d = nI 0 := by
          rcases c1.2.2 with ⟨c, -⟩ | ⟨-, c, -⟩
          · exact k1_ne0 c
          · exact k2_ne0 c
        have g : ¬f (bn R d) = true := fun q => c2 (hf d hd kd b1 q)
        have := (relS_k (R := R) (f := f) (hk _ b1 g)).2.2.1 s hs
        refine Or.inr ⟨b1, b2, b3, ?_, ?_, ?_⟩
        · rw [r2]; exact b4
        · rw [this.1]; exact b5
        · rw [this.2]; exact b6
    · rw [hbn] at hb
      exact w4 d q d' q' a n a' n' hd hq hd' hq' hn hb (cv d q a n hd hq c1).1 (cv d' q' a' n' hd' hq' c2).1
  refine ⟨InvT_cong r2 r3 (relS_row (by omega)) (relS_row (by omega)) i1, ⟨fun d hd hkd q hq => ?_, fun d hd hkd => ?_⟩, InvG_cong (relS_row (by omega)) i3, fun d q hd hq => ?_, InvR_cong r9 i5, ⟨fun d hd => ?_, fun d a b hd hn => ?_, fun d d' a b a' b' hd hd' hne hb n1 n2 => ?_⟩, W 0 (by omega) i7, W 1 (by omega) i8⟩
  · rw [r2] at hkd
    rw [r7]
    obtain ⟨x1, x2⟩ := i2.1 d hd hkd q hq
    by_cases g : f d = true
    · exact ⟨x1, (relS_l (R := R) (f := f) ⟨hd, g⟩).2.2.2 q hq⟩
    · rw [(relS_k (R := R) (f := f) (hk d hd g)).2.2.2 q hq]; exact ⟨x1, x2⟩
  · rw [r2] at hkd
    rw [r9]
    obtain ⟨x1, x2, x3⟩ := i2.2 d hd hkd
    by_cases g : f d = true
    · obtain ⟨l1, l2, l3, l4⟩ := relS_l (R := R) (f := f) ⟨hd, g⟩
      exact ⟨l1, l2, fun s hs => ⟨(l3 s hs).1, (l3 s hs).2, (x3 s hs).2.2⟩⟩
    · obtain ⟨l1, l2, l3, l4⟩ := relS_k (R := R) (f := f) (hk d hd g)
      exact ⟨by rw [l1]; exact x1, by rw [l2]; exact x2, fun s hs => by rw [(l3 s hs).1, (l3 s hs).2]; exact x3 s hs⟩
  · rw [r6, r7]
    obtain ⟨sp, x1, x2, x3⟩ := i4 d q hd hq
    refine ⟨sp, x1, x2, ?_⟩
    by_cases g : f d = true
    · rw [(relS_l (R := R) (f := f) ⟨hd, g⟩).2.2.2 q hq]
      rcases x3 with ⟨y1, y2⟩ | y
      · exact Or.inl ⟨y1, rfl⟩
      · exact Or.inr y
    · rw [(relS_k (R := R) (f := f) (hk d hd g)).2.2.2 q hq]; exact x3
  · by_cases g : f d = true
    · obtain ⟨l1, l2, l3, l4⟩ := relS_l (R := R) (f := f) ⟨hd, g⟩
      exact Or.inl ⟨l1, l2⟩
    · obtain ⟨l1, l2, l3, l4⟩ := relS_k (R := R) (f := f) (hk d hd g)
      unfold numd
      rw [l1, l2]
      exact i6.1 d hd
  · obtain ⟨n1, n2⟩ := nd d a b hd hn
    rw [hbn]
    rcases i6.2.1 d a b hd n1 with q | ⟨a', b', q1, q2⟩
    · exact Or.inl q
    · by_cases hq : bn R d = 12
      · exact Or.inl hq
      · refine Or.inr ⟨a', b', ?_, q2⟩
        have kd : ¬R 2 d = nI 0 := hkb d (by rw [n1.1, nI_ne5 (by have := n1.2.2.2; omega)]; exact id) hd
        have hb := (i1.bus hd kd).1
        have g : ¬f (bn R d) = true := fun q => n2 (hf d hd kd (by omega) q)
        obtain ⟨l1, l2, l3, l4⟩ := relS_k (R := R) (f := f) (hk _ (by omega) g)
        unfold numd
        rw [l1, l2]
        exact q1
  · rw [hbn] at hb
    exact i6.2.2 d d' a b a' b' hd hd' hne hb (nd d a b hd n1).1 (nd d' a' b' hd' n2).1
theorem anc_dn {R : RV} {x : Nat} : ∀ {n m b : Nat}, rt R n b → n ≤ m → anc R m b x → anc R n b x := by
  intro n
  induction n with
  | zero =>
    intro m b h hm ha
    have : b = 12 := h
    subst this
    cases m with
    | zero => exact ha
    | succ m => have := ha.1; omega
  | succ n ih =>
    intro m b h hm ha
    cases m with
    | zero => omega
    | succ m =>
      obtain ⟨a1, a2⟩ := ha
      rcases h with h | ⟨h1, h2, h3⟩
      · omega
      · exact ⟨a1, a2.imp id (fun q => ih h3 (by omega) q)⟩
theorem fam_dn {R : RV} (h : InvT R) (x d : Nat) (hd : d < 12) (hk : ¬R 2 d = nI 0) (hb : bn R d < 12) (hf : famB R x (bn R d) = true) : famB R x d = true := by
  rw [famB, tb_iff] at *
  obtain ⟨f1, f2⟩ := hf
  have hr := h.2.2.2 d hd hk
  rcases hr with q | ⟨q1, q2, q3⟩
  · omega
  · refine ⟨hk, Or.inr ⟨hb, f2.imp id (fun g => anc_dn (n := 3) (m := 4) q3 (by omega) g)⟩⟩
theorem taS_5 {mu : RV} {f : Nat → Bool} {n t : Nat} (h : t / 20 < n ∧ f (t / 20) = true) (h2 : t % 20 = 5 ∨ t % 20 = 8 ∨ (11 ≤ t % 20 ∧ t % 20 < 16)) : taS mu f n 106 t = -5 := if_pos ⟨rfl, h, h2⟩
theorem taS_00 {mu : RV} {f : Nat → Bool} {n t : Nat} (h : t / 20 < n ∧ f (t / 20) = true) (h2 : t % 20 = 16 ∨ t % 20 = 17) : taS mu f n 106 t = nI 0 := by
  unfold taS
  rw [if_neg (by omega), if_pos ⟨rfl, h, h2⟩]