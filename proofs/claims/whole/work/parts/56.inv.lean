/-! what every rack keeps, and the relation of both sides -/
def InvA (R : RV) : Prop :=
  (∀ d, d < 12 → ¬R 2 d = nI 1 → ∀ q, q < 3 → R 7 (d * 3 + q) = nI 0 ∧ R 8 (d * 3 + q) = -5) ∧
  (∀ d, d < 12 → ¬R 2 d = nI 2 → R 12 d = -5 ∧ R 13 d = -5 ∧ ∀ s, s < 2 → R 10 (d * 2 + s) = -5 ∧ R 11 (d * 2 + s) = nI 0 ∧ R 9 (d * 2 + s) = nI 0)
def InvG (R : RV) : Prop := ∃ g, g < 3 ∧ R 1 12 = nI g
def InvS (R : RV) : Prop := ∀ d q, d < 12 → q < 3 → ∃ sp, sp < 2 ∧ R 6 (d * 3 + q) = nI sp ∧
  ((R 7 (d * 3 + q) = nI 0 ∧ R 8 (d * 3 + q) = -5) ∨ ∃ e, e ≤ lex sp ∧ R 7 (d * 3 + q) = nI (grn sp * 2 ^ e))
def InvR (R : RV) : Prop := ∀ d s, d < 12 → s < 2 → ∃ m, m ≤ 16 ∧ R 9 (d * 2 + s) = nI (m * grn s)
/-- the bridge d has the numbers a to b -/
def numd (R : RV) (d a b : Nat) : Prop := R 12 d = nI a ∧ R 13 d = nI b ∧ 1 ≤ a ∧ a ≤ b ∧ b ≤ 15
def InvN (R : RV) : Prop :=
  (∀ d, d < 12 → (R 12 d = -5 ∧ R 13 d = -5) ∨ ∃ a b, numd R d a b) ∧
  (∀ d a b, d < 12 → numd R d a b → bn R d = 12 ∨ ∃ a' b', numd R (bn R d) a' b' ∧ a' < a ∧ b ≤ b') ∧
  (∀ d d' a b a' b', d < 12 → d' < 12 → ¬d = d' → bn R d = bn R d' → numd R d a b → numd R d' a' b' → b < a' ∨ b' < a)
/-- the part q of d covers n addresses from a -/
def cov (R : RV) (s d q a n : Nat) : Prop := a < 4096 ∧ n ≤ 4096 ∧
  ((R 2 d = nI 1 ∧ R 6 (d * 3 + q) = nI s ∧ R 8 (d * 3 + q) = nI a ∧ R 7 (d * 3 + q) = nI n) ∨ (q = 0 ∧ R 2 d = nI 2 ∧ R 10 (d * 2 + s) = nI a ∧ R 11 (d * 2 + s) = nI n))
/-- the bus b has n addresses from a -/
def room (R : RV) (s b a n : Nat) : Prop := (b = 12 ∧ a = 0 ∧ n = adr s) ∨
  (b < 12 ∧ a < 4096 ∧ n ≤ 4096 ∧ R 2 b = nI 2 ∧ R 10 (b * 2 + s) = nI a ∧ R 11 (b * 2 + s) = nI n)
def InvW (R : RV) (s : Nat) : Prop :=
  (∀ d q, d < 12 → q < 3 → R 8 (d * 3 + q) = -5 ∨ ∃ a, a < 4096 ∧ R 8 (d * 3 + q) = nI a) ∧
  (∀ d, d < 12 → (R 10 (d * 2 + s) = -5 ∧ R 11 (d * 2 + s) = nI 0) ∨ ∃ a n, a < 4096 ∧ n ≤ 4096 ∧ R 10 (d * 2 + s) = nI a ∧ R 11 (d * 2 + s) = nI n) ∧
  (∀ d q a n, d < 12 → q < 3 → cov R s d q a n → 0 < n ∧ a % grn s = 0 ∧ n % grn s = 0 ∧ ∃ a0 n0, room R s (bn R d) a0 n0 ∧ a0 ≤ a ∧ a + n ≤ a0 + n0) ∧
  (∀ d q d' q' a n a' n', d < 12 → q < 3 → d' < 12 → q' < 3 → ¬(d = d' ∧ q = q') → bn R d = bn R d' → cov R s d q a n → cov R s d' q' a' n' → a + n ≤ a' ∨ a' + n' ≤ a)
def OK (R : RV) : Prop := InvT R ∧ InvA R ∧ InvG R ∧ InvS R ∧ InvR R ∧ InvN R ∧ InvW R 0 ∧ InvW R 1
/-- the relation of the class's objects and the reference's -/
def Rel (mu : RV) (p : Nat → Nat) : Prop := PI p ∧
  (∃ c, c ≤ 4 ∧ mu 27 1 = nI c ∧ mu 105 1 = nI c ∧ ∀ i, i < c → OK (rk mu (p i)) ∧ RelB (rk mu (p i)) (fun t => mu 106 (241 * (i + 1) + t))) ∧
  OK (rk mu 1) ∧ RelB (rk mu 1) (fun t => mu 106 t) ∧
  ((mu 0 2 = nI 0 ∧ mu 105 2 = nI 0) ∨ (mu 0 2 = nI 1 ∧ mu 105 2 = nI 1 ∧ OK (rk mu 14) ∧ RelB (rk mu 14) (fun t => mu 106 (1205 + t)))) ∧
  ∃ t, t ≤ 80 ∧ mu 0 7 = nI t ∧ mu 105 4 = nI t ∧ ∀ i, i < t → ∃ x, 32 ≤ x ∧ x < 127 ∧ mu 104 i = nI x ∧ mu 107 i = nI x
theorem RelB_cong {R : RV} {B B' : Nat → Int32} (h : RelB R B) (e : ∀ t, t < 241 → B' t = B t) : RelB R B' := by
  refine ⟨by rw [e 240 (by omega)]; exact h.1, fun d hd => ?_⟩
  obtain ⟨h0, h1⟩ := h.2 d hd
  refine ⟨by rw [e _ (by omega)]; exact h0, fun hk => ?_⟩
  obtain ⟨a1, a2, a3, a4, a5, a6⟩ := h1 hk
  refine ⟨by rw [e _ (by omega)]; exact a1, by rw [e _ (by omega)]; exact a2, fun q hq => ?_, by rw [e _ (by omega)]; exact a4, by rw [e _ (by omega)]; exact a5, fun s hs => ?_⟩
  · obtain ⟨b1, b2, b3⟩ := a3 q hq
    exact ⟨by rw [e _ (by omega)]; exact b1, by rw [e _ (by omega)]; exact b2, fun hz => by rw [e _ (by omega)]; exact b3 hz⟩
  · obtain ⟨b1, b2, b3⟩ := a6 s hs
    exact ⟨by rw [e _ (by omega)]; exact b1, by rw [e _ (by omega)]; exact b2, by rw [e _ (by omega)]; exact b3⟩
/-- what record does -/
def Rec (mu : RV) (p : Nat → Nat) (mu' : RV) (p' : Nat → Nat) : Prop := PI p' ∧ (∀ a, (a < 27 ∨ 81 ≤ a) → mu' a = mu a) ∧
  ∃ c c', c ≤ 4 ∧ mu 27 1 = nI c ∧ mu' 27 1 = nI (c' + 1) ∧ c' < 4 ∧
    ((c < 4 ∧ c' = c ∧ ∀ i, i < c → rk mu' (p' i) = rk mu (p i)) ∨ (c = 4 ∧ c' = 3 ∧ ∀ i, i < 3 → rk mu' (p' i) = rk mu (p (i + 1)))) ∧ rk mu' (p' c') = rk mu 1
theorem z_rec (d L : Nat) (mu : RV) (p : Nat → Nat) (h : Rel mu p) : ∃ mu' p', zsem (d + 1) 16 0 [.inr (some 27), .inr (some 1), .inr none] [] (HH L mu p) = some (none, HH L mu' p') ∧ Rec mu p mu' p' := by
  obtain ⟨hp, ⟨c, hc, h27, -, -⟩, -⟩ := h
  obtain ⟨mu', p', c', e, h1, h2, h3, h4, h5, h6⟩ := z_record d L mu p hp c hc h27
  exact ⟨mu', p', e, h1, h6, c, c', hc, h27, h2, h3, h4, h5⟩
/-- both sides recorded and then changed the current rack alone -/
theorem asm_rec {mu mu1 mu2 mu3 mu4 : RV} {p p1 : Nat → Nat} (h : Rel mu p) (h1 : Rec mu p mu1 p1) (h2 : ∀ a, a = 0 ∨ (14 ≤ a ∧ a ≤ 80) ∨ 104 ≤ a → mu2 a = mu1 a) (h3 : MRec mu2 mu3)
    (h4 : ∀ a, a < 105 ∨ a = 107 → mu4 a = mu3 a) (h5 : ∀ i, i = 1 ∨ i = 2 ∨ i = 4 → mu4 105 i = mu3 105 i) (h6 : ∀ t, 241 ≤ t → t < 1446 → mu4 106 t = mu3 106 t)
    (hO : OK (rk mu4 1)) (hB : RelB (rk mu4 1) (fun t => mu4 106 t)) : Rel mu4 p1 := by
  obtain ⟨hp, ⟨c, hc, hc1, hc2, hcr⟩, hO0, hB0, hS, t, ht, ht1, ht2, ht3⟩ := h
  obtain ⟨hp1, hf1, k, k', hk, hk1, hk2, hk3, hk4, hk5⟩ := h1
  obtain ⟨m, m', hm, hm1, hm2, hm3, hm4, hm5, hm6, hm7⟩ := h3
  have fr1 : ∀ a, a ≤ 80 → ¬(a < 14 ∧ 1 ≤ a) → mu4 a = mu1 a := fun a ha hb => by
    rw [h4 a (by omega)]
    have : mu3 a = mu2 a := by funext i; exact hm7 a i (by omega) (by omega)
    rw [this, h2 a (by omega)]
  have fr2 : ∀ a, a = 104 ∨ a = 107 ∨ a = 0 → mu4 a = mu a := fun a ha => by
    rw [h4 a (by omega)]
    have : mu3 a = mu2 a := by funext i; exact hm7 a i (by omega) (by omega)
    rw [this, h2 a (by omega), hf1 a (by omega)]
  have fr3 : ∀ i, i = 2 ∨ i = 4 → mu4 105 i = mu 105 i := fun i hi => by
    rw [h5 i (by omega), hm7 105 i (by omega) (by omega), h2 105 (by omega), hf1 105 (by omega)]
  have f106 : mu2 106 = mu 106 := by rw [h2 106 (by omega), hf1 106 (by omega)]
  have ek : k = c := by
    rw [hk1] at hc1
    rwa [nI_eqc (by omega) (by omega)] at hc1
  have em : m = c := by
    rw [h2 105 (by omega), hf1 105 (by omega), hc2] at hm1
    rw [nI_eqc (by omega) (by omega)] at hm1
    exact hm1.symm
  subst ek
  subst em
  have ekm : k' = m' := by rcases hk4 with ⟨a1, a2, -⟩ | ⟨a1, a2, -⟩ <;> rcases hm4 with ⟨b1, b2, -⟩ | ⟨b1, b2, -⟩ <;> omega
  subst ekm
  have rks : ∀ i, i < 4 → rk mu4 (p1 i) = rk mu1 (p1 i) := fun i hi =>
    rk_cong (fun a ha hb => fr1 a (by rcases hp1.1 i hi with q | q | q | q <;> omega) (by rcases hp1.1 i hi with q | q | q | q <;> omega))
  refine ⟨hp1, ⟨k' + 1, by omega, ?_, ?_, fun i hi => ?_⟩, hO, hB, ?_, t, ht, ?_, ?_, fun i hi => ?_⟩
  · rw [fr1 27 (by omega) (by omega)]; exact hk2
  · rw [h5 1 (Or.inl rfl)]; exact hm2
  · rw [rks i (by omega)]
    by_cases hik : i = k'
    · subst hik
      rw [hk5]
      refine ⟨hO0, RelB_cong hB0 (fun t ht => ?_)⟩
      show mu4 106 (241 * (i + 1) + t) = mu 106 t
      rw [h6 _ (by omega) (by omega), hm5 t ht, f106]
    · rcases hk4 with ⟨a1, a2, a3⟩ | ⟨a1, a2, a3⟩
      · rcases hm4 with ⟨b1, b2, b3⟩ | ⟨b1, b2, b3⟩
        · rw [a3 i (by omega)]
          refine ⟨(hcr i (by omega)).1, RelB_cong (hcr i (by omega)).2 (fun t ht => ?_)⟩
          show mu4 106 (241 * (i + 1) + t) = mu 106 (241 * (i + 1) + t)
          rw [h6 _ (by omega) (by omega), b3 i (by omega) t ht, f106]
        · omega
      · rcases hm4 with ⟨b1, b2, b3⟩ | ⟨b1, b2, b3⟩
        · omega
        · rw [a3 i (by omega)]
          refine ⟨(hcr (i + 1) (by omega)).1, RelB_cong (hcr (i + 1) (by omega)).2 (fun t ht => ?_)⟩
          show mu4 106 (241 * (i + 1) + t) = mu 106 (241 * (i + 1 + 1) + t)
          rw [h6 _ (by omega) (by omega), b3 i (by omega) t ht, f106]
  · rw [fr2 0 (by omega), fr3 2 (by omega)]
    rcases hS with q | ⟨q1, q2, q3, q4⟩
    · exact Or.inl q
    · refine Or.inr ⟨q1, q2, ?_⟩
      have : rk mu4 14 = rk mu 14 := rk_cong (fun a ha hb => by rw [fr1 a (by omega) (by omega), hf1 a (by omega)])
      rw [this]
      refine ⟨q3, RelB_cong q4 (fun t ht => ?_)⟩
      show mu4 106 (1205 + t) = mu 106 (1205 + t)
      rw [h6 _ (by omega) (by omega), hm6 _ (by omega), f106]
  · rw [fr2 0 (by omega)]; exact ht1
  · rw [fr3 4 (by omega)]; exact ht2
  · rw [fr2 104 (by omega), fr2 107 (by omega)]; exact ht3 i hi
/-- scratch is free -/
theorem Rel_scr {mu mu' : RV} {p : Nat → Nat} (h : Rel mu p) (h1 : ∀ a, a ≤ 80 ∨ a = 104 ∨ a = 107 → mu' a = mu a) (h2 : ∀ i, i = 1 ∨ i = 2 ∨ i = 4 → mu' 105 i = mu 105 i) (h3 : ∀ t, t < 1446 → mu' 106 t = mu 106 t) : Rel mu' p := by
  obtain ⟨hp, ⟨c, hc, hc1, hc2, hcr⟩, hO0, hB0, hS, t, ht, ht1, ht2, ht3⟩ := h
  have rks : ∀ r, r + 12 ≤ 80 → rk mu' r = rk mu r := fun r hr => rk_cong (fun a ha hb => h1 a (by omega))
  refine ⟨hp, ⟨c, hc, ?_, ?_, fun i hi => ?_⟩, ?_, ?_, ?_, t, ht, ?_, ?_, fun i hi => ?_⟩
  · rw [h1 27 (by omega)]; exact hc1
  · rw [h2 1 (by omega)]; exact hc2
  · rw [rks (p i) (by rcases hp.1 i (by omega) with q | q | q | q <;> omega)]
    exact ⟨(hcr i hi).1, RelB_cong (hcr i hi).2 (fun t ht => h3 _ (by omega))⟩
  · rw [rks 1 (by omega)]; exact hO0
  · rw [rks 1 (by omega)]; exact RelB_cong hB0 (fun t ht => h3 _ (by omega))
  · rw [h1 0 (by omega), h2 2 (by omega), rks 14 (by omega)]
    rcases hS with q | ⟨q1, q2, q3, q4⟩
    · exact Or.inl q
    · exact Or.inr ⟨q1, q2, q3, RelB_cong q4 (fun t ht => h3 _ (by omega))⟩
  · rw [h1 0 (by omega)]; exact ht1
  · rw [h2 4 (by omega)]; exact ht2
  · rw [h1 104 (by omega), h1 107 (by omega)]; exact ht3 i hi
