/-! what every rack keeps, and the relation of both sides -/
def InvA (R : RV) : Prop :=
  (∀ d, d < 12 → ¬R 2 d = nI 1 → ∀ q, q < 3 → R 7 (d * 3 + q) = nI 0 ∧ R 8 (d * 3 + q) = -5) ∧
  (∀ d, d < 12 → ¬R 2 d = nI 2 → R 12 d = -5 ∧ R 13 d = -5 ∧ ∀ s, s < 2 → R 10 (d * 2 + s) = -5 ∧ R 11 (d * 2 + s) = nI 0 ∧ R 9 (d * 2 + s) = nI 0)
def InvG (R : RV) : Prop := ∃ g, g < 3 ∧ R 1 12 = nI g
def InvS (R : RV) : Prop := ∀ d q, d < 12 → q < 3 → ∃ sp, sp < 2 ∧ R 6 (d * 3 + q) = nI sp ∧
  ((R 7 (d * 3 + q) = nI 0 ∧ R 8 (d * 3 + q) = -5) ∨ ∃ e, e ≤ lex sp ∧ R 7 (d * 3 + q) = nI (grn sp * 2 ^ e))
def InvR (R : RV) : Prop := ∀ d s, d < 12 → s < 2 → ∃ m, m ≤ 16 ∧ R 9 (d * 2 + s) = nI (m * grn s)
/-- the bridge d has the numbers a to b -/
def numd (R : RV) (d a b : Nat) : Prop := R 12 d = nI a ∧ R 13 d = nI b ∧ 1 ≤ a ∧ a ≤ b ∧ b ≤ 15
def InvN (R : RV) : Prop :=
  (∀ d, d < 12 → (R 12 d = -5 ∧ R 13 d = -5) ∨ ∃ a b, numd R d a b) ∧
  (∀ d a b, d < 12 → numd R d a b → bn R d = 12 ∨ ∃ a' b', numd R (bn R d) a' b' ∧ a' < a ∧ b ≤ b') ∧
  (∀ d d' a b a' b', d < 12 → d' < 12 → ¬d = d' → bn R d = bn R d' → numd R d a b → numd R d' a' b' → b < a' ∨ b' < a)
/-- the part q of d covers n addresses from a -/
def cov (R : RV) (s d q a n : Nat) : Prop := a < 4096 ∧ n ≤ 4096 ∧
  ((R 2 d = nI 1 ∧ R 6 (d * 3 + q) = nI s ∧ R 8 (d * 3 + q) = nI a ∧ R 7 (d * 3 + q) = nI n) ∨ (q = 0 ∧ R 2 d = nI 2 ∧ R 10 (d * 2 + s) = nI a ∧ R 11 (d * 2 + s) = nI n))
/-- the bus b has n addresses from a -/
def room (R : RV) (s b a n : Nat) : Prop := (b = 12 ∧ a = 0 ∧ n = adr s) ∨
  (b < 12 ∧ a < 4096 ∧ n ≤ 4096 ∧ R 2 b = nI 2 ∧ R 10 (b * 2 + s) = nI a ∧ R 11 (b * 2 + s) = nI n)
def InvW (R : RV) (s : Nat) : Prop :=
  (∀ d q, d < 12 → q < 3 → R 8 (d * 3 + q) = -5 ∨ ∃ a, a < 4096 ∧ R 8 (d * 3 + q) = nI a) ∧
  (∀ d, d < 12 → (R 10 (d * 2 + s) = -5 ∧ R 11 (d * 2 + s) = nI 0) ∨ ∃ a n, a < 4096 ∧ n ≤ 4096 ∧ R 10 (d * 2 + s) = nI a ∧ R 11 (d * 2 + s) = nI n) ∧
  (∀ d q a n, d < 12 → q < 3 → cov R s d q a n → 0 < n ∧ a % grn s = 0 ∧ n % grn s = 0 ∧ ∃ a0 n0, room R s (bn R d) a0 n0 ∧ a0 ≤ a ∧ a + n ≤ a0 + n0) ∧
  (∀ d q d' q' a n a' n', d < 12 → q < 3 → d' < 12 → q' < 3 → ¬(d = d' ∧ q = q') → bn R d = bn R d' → cov R s d q a n → cov R s d' q' a' n' → a + n ≤ a' ∨ a' + n' ≤ a)
def OK (R : RV) : Prop := InvT R ∧ InvA R ∧ InvG R ∧ InvS R ∧ InvR R ∧ InvN R ∧ InvW R 0 ∧ InvW R 1
/-- a region's base is a multiple of its size; a window is a numbered bridge's -/
def InvB (R : RV) : Prop := ∀ d q a n, d < 12 → q < 3 → R 2 d = nI 1 → R 7 (d * 3 + q) = nI n → R 8 (d * 3 + q) = nI a → a < 4096 → n ≤ 4096 → a % n = 0
def InvV (R : RV) : Prop := ∀ d s, d < 12 → s < 2 → ¬R 10 (d * 2 + s) = -5 → ¬R 12 d = -5
def OX (R : RV) : Prop := InvB R ∧ InvV R
/-- the history's racks and the current one are sound -/
def Rel (mu : RV) (p : Nat → Nat) : Prop := PI p ∧ (∃ c, c ≤ 4 ∧ mu 27 1 = nI c ∧ ∀ i, i < c → OK (rk mu (p i)) ∧ OX (rk mu (p i))) ∧ OK (rk mu 1) ∧ OX (rk mu 1)
/-- what record does -/
def Rec (mu : RV) (p : Nat → Nat) (mu' : RV) (p' : Nat → Nat) : Prop := PI p' ∧ (∀ a, (a < 27 ∨ 81 ≤ a) → mu' a = mu a) ∧
  ∃ c c', c ≤ 4 ∧ mu 27 1 = nI c ∧ mu' 27 1 = nI (c' + 1) ∧ c' < 4 ∧
    ((c < 4 ∧ c' = c ∧ ∀ i, i < c → rk mu' (p' i) = rk mu (p i)) ∨ (c = 4 ∧ c' = 3 ∧ ∀ i, i < 3 → rk mu' (p' i) = rk mu (p (i + 1)))) ∧ rk mu' (p' c') = rk mu 1
theorem z_rec (d L : Nat) (mu : RV) (p : Nat → Nat) (h : Rel mu p) : ∃ mu' p', zsem (d + 1) 16 0 [.inr (.inl (some 27)), .inr (.inl (some 1)), .inr (.inl none)] [] (HH L mu p) = some (none, HH L mu' p') ∧ Rec mu p mu' p' := by
  obtain ⟨hp, ⟨c, hc, h27, -⟩, -⟩ := h
  obtain ⟨mu', p', c', e, h1, h2, h3, h4, h5, h6⟩ := z_record d L mu p hp c hc h27
  exact ⟨mu', p', e, h1, h6, c, c', hc, h27, h2, h3, h4, h5⟩