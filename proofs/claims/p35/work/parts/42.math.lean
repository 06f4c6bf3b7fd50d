/-! loops, and the mathematical value of a rack -/
theorem loopE {σ ρ : Type} (S : Nat → σ → ρ) (N : Nat) (P : Nat → σ → Prop) (h : ∀ i s, i < N → P i s → ∃ s', S i s = S (i + 1) s' ∧ P (i + 1) s') : ∀ n i s, i + n = N → P i s → ∃ s', S i s = S N s' ∧ P N s' := by
  intro n
  induction n with
  | zero => intro i s hi hp; have : i = N := by omega
            subst this; exact ⟨s, rfl, hp⟩
  | succ n ih =>
    intro i s hi hp
    obtain ⟨s1, e1, p1⟩ := h i s (by omega) hp
    obtain ⟨s2, e2, p2⟩ := ih (i + 1) s1 (by omega) p1
    exact ⟨s2, e1.trans e2, p2⟩
/-- with a way out -/
theorem loopX {σ ρ : Type} (S : Nat → σ → ρ) (N : Nat) (P : Nat → σ → Prop) (Q : ρ → Prop) (h : ∀ i s, i < N → P i s → (∃ s', S i s = S (i + 1) s' ∧ P (i + 1) s') ∨ Q (S i s)) : ∀ n i s, i + n = N → P i s → (∃ s', S i s = S N s' ∧ P N s') ∨ Q (S i s) := by
  intro n
  induction n with
  | zero => intro i s hi hp; have : i = N := by omega
            subst this; exact Or.inl ⟨s, rfl, hp⟩
  | succ n ih =>
    intro i s hi hp
    rcases h i s (by omega) hp with ⟨s1, e1, p1⟩ | h1
    · rcases ih (i + 1) s1 (by omega) p1 with ⟨s2, e2, p2⟩ | h2
      · exact Or.inl ⟨s2, e1.trans e2, p2⟩
      · rw [e1]; exact Or.inr h2
    · exact Or.inr h1
/-- lengths of a rack's rows: 2 kinds, 3 buses, 4 slots, 5 held, 6 spaces, 7 sizes, 8 bases, 9 reserves, 10 window bases, 11 window sizes, 12 first, 13 last numbers -/
def rlen (a : Nat) : Nat := match a with
  | 2 => 12
  | 3 => 12
  | 4 => 12
  | 5 => 52
  | 6 => 36
  | 7 => 36
  | 8 => 36
  | 9 => 24
  | 10 => 24
  | 11 => 24
  | 12 => 12
  | 13 => 12
  | _ => 0
abbrev RV := Nat → Nat → Int32
/-- the rack at the cell r -/
def rk (mu : RV) (r : Nat) : RV := fun a i => if 2 ≤ a ∧ i < rlen a then mu (r + a - 1) i else if a = 1 ∧ i = 12 then mu r 12 else nI 0
theorem rk_1 (mu : RV) (r : Nat) : rk mu r 1 12 = mu r 12 := rfl
theorem rk_n {mu : RV} {a i : Nat} (ha : 2 ≤ a) (hi : i < rlen a) : rk mu 1 a i = mu a i := by
  unfold rk
  rw [if_pos ⟨ha, hi⟩]
  congr 1
  omega
theorem rk_2 {mu : RV} {i : Nat} (h : i < 12) : rk mu 1 2 i = mu 2 i := rk_n (by omega) h
theorem rk_3 {mu : RV} {i : Nat} (h : i < 12) : rk mu 1 3 i = mu 3 i := rk_n (by omega) h
theorem rk_4 {mu : RV} {i : Nat} (h : i < 12) : rk mu 1 4 i = mu 4 i := rk_n (by omega) h
theorem rk_5 {mu : RV} {i : Nat} (h : i < 52) : rk mu 1 5 i = mu 5 i := rk_n (by omega) h
theorem rk_6 {mu : RV} {i : Nat} (h : i < 36) : rk mu 1 6 i = mu 6 i := rk_n (by omega) h
theorem rk_7 {mu : RV} {i : Nat} (h : i < 36) : rk mu 1 7 i = mu 7 i := rk_n (by omega) h
theorem rk_8 {mu : RV} {i : Nat} (h : i < 36) : rk mu 1 8 i = mu 8 i := rk_n (by omega) h
theorem rk_9 {mu : RV} {i : Nat} (h : i < 24) : rk mu 1 9 i = mu 9 i := rk_n (by omega) h
theorem rk_10 {mu : RV} {i : Nat} (h : i < 24) : rk mu 1 10 i = mu 10 i := rk_n (by omega) h
theorem rk_11 {mu : RV} {i : Nat} (h : i < 24) : rk mu 1 11 i = mu 11 i := rk_n (by omega) h
theorem rk_12 {mu : RV} {i : Nat} (h : i < 12) : rk mu 1 12 i = mu 12 i := rk_n (by omega) h
theorem rk_13 {mu : RV} {i : Nat} (h : i < 12) : rk mu 1 13 i = mu 13 i := rk_n (by omega) h
theorem u2_s {α : Type} (m : Nat → Nat → α) (a i : Nat) (x : α) : u2 m a i x a i = x := by simp [u2]
theorem u2_o {α : Type} (m : Nat → Nat → α) {a i a' i' : Nat} (x : α) (h : ¬(a' = a ∧ i' = i)) : u2 m a i x a' i' = m a' i' := by
  unfold u2
  by_cases ha : a' = a
  · rw [if_pos ha]
    by_cases hi : i' = i
    · exact absurd ⟨ha, hi⟩ h
    · rw [if_neg hi, ha]
  · rw [if_neg ha]
/-- a row's write is a write of the rack's value -/
theorem rk_u {mu : RV} {a i : Nat} {x : Int32} (ha : 2 ≤ a) (hi : i < rlen a) : rk (u2 mu a i x) 1 = u2 (rk mu 1) a i x := by
  funext a' i'
  by_cases h : a' = a ∧ i' = i
  · obtain ⟨rfl, rfl⟩ := h
    rw [u2_s, rk_n ha hi, u2_s]
  · rw [u2_o _ _ h]
    unfold rk
    by_cases hc : 2 ≤ a' ∧ i' < rlen a'
    · rw [if_pos hc, if_pos hc, u2_o _ _ (by omega)]
    · rw [if_neg hc, if_neg hc]
      by_cases h1 : a' = 1 ∧ i' = 12
      · rw [if_pos h1, if_pos h1, u2_o _ _ (by omega)]
      · rw [if_neg h1, if_neg h1]
theorem rk_ug {mu : RV} {x : Int32} : rk (u2 mu 1 12 x) 1 = u2 (rk mu 1) 1 12 x := by
  funext a' i'
  by_cases h : a' = 1 ∧ i' = 12
  · obtain ⟨rfl, rfl⟩ := h
    rw [u2_s, rk_1, u2_s]
  · rw [u2_o _ _ h]
    unfold rk
    by_cases hc : 2 ≤ a' ∧ i' < rlen a'
    · rw [if_pos hc, if_pos hc, u2_o _ _ (by omega)]
    · rw [if_neg hc, if_neg hc, if_neg h, if_neg h]
/-- writes elsewhere leave a rack as it is -/
theorem rk_cong {mu mu' : RV} {r : Nat} (h : ∀ a, r ≤ a → a ≤ r + 12 → mu' a = mu a) : rk mu' r = rk mu r := by
  funext a i
  unfold rk
  by_cases hc : 2 ≤ a ∧ i < rlen a
  · rw [if_pos hc, if_pos hc]
    have h13 : a ≤ 13 := by
      have := hc.2
      unfold rlen at this
      split at this <;> omega
    rw [h _ (by omega) (by omega)]
  · rw [if_neg hc, if_neg hc]
    by_cases h1 : a = 1 ∧ i = 12
    · rw [if_pos h1, if_pos h1, h _ (by omega) (by omega)]
    · rw [if_neg h1, if_neg h1]
/-- numbers of bus and slot -/
def bn (R : RV) (d : Nat) : Nat := (R 3 d).toNatClampNeg
/-- from the bus b the root is n bridges up at most -/
def rt (R : RV) : Nat → Nat → Prop
  | 0, b => b = 12
  | n + 1, b => b = 12 ∨ (b < 12 ∧ R 2 b = nI 2 ∧ rt R n (bn R b))
/-- how many bridges are above the devices of bus b, at most n -/
def dpt (R : RV) : Nat → Nat → Nat
  | 0, _ => 0
  | n + 1, b => if b < 12 ∧ R 2 b = nI 2 then dpt R n (bn R b) + 1 else 0
theorem dpt_s (R : RV) (n b : Nat) : dpt R (n + 1) b = if b < 12 ∧ R 2 b = nI 2 then dpt R n (bn R b) + 1 else 0 := rfl
/-- the tree -/
def InvT (R : RV) : Prop :=
  (∀ d, d < 12 → R 2 d = nI 0 ∨ R 2 d = nI 1 ∨ R 2 d = nI 2) ∧
  (∀ d, d < 12 → ¬R 2 d = nI 0 → ∃ b s, b < 13 ∧ s < 4 ∧ R 3 d = nI b ∧ R 4 d = nI s ∧ R 5 (b * 4 + s) = nI d ∧ (b < 12 → R 2 b = nI 2)) ∧
  (∀ b s, b < 13 → s < 4 → R 5 (b * 4 + s) = -5 ∨ ∃ d, d < 12 ∧ R 5 (b * 4 + s) = nI d ∧ ¬R 2 d = nI 0 ∧ R 3 d = nI b ∧ R 4 d = nI s) ∧
  (∀ d, d < 12 → ¬R 2 d = nI 0 → rt R 4 (bn R d))
theorem bn_of {R : RV} {d b : Nat} (h : R 3 d = nI b) (hb : b < 13) : bn R d = b := by
  unfold bn
  rw [h]
  exact nI_clamp (by omega)
theorem InvT.bus {R : RV} (h : InvT R) {d : Nat} (hd : d < 12) (hk : ¬R 2 d = nI 0) : bn R d < 13 ∧ R 3 d = nI (bn R d) ∧ (bn R d < 12 → R 2 (bn R d) = nI 2) := by
  obtain ⟨b, s, hb, hs, e1, e2, e3, e4⟩ := h.2.1 d hd hk
  rw [bn_of e1 hb]
  exact ⟨hb, e1, e4⟩
theorem k2_ne0 {x : Int32} (h : x = nI 2) : ¬x = nI 0 := by rw [h]; decide
theorem k1_ne0 {x : Int32} (h : x = nI 1) : ¬x = nI 0 := by rw [h]; decide
