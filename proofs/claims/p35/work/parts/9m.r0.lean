/-! a new rack is sound -/
def v0 (a : Nat) : Int32 := match a with
  | 2 => nI 0
  | 3 => nI 12
  | 4 => nI 0
  | 5 => -5
  | 6 => nI 0
  | 7 => nI 0
  | 8 => -5
  | 9 => nI 0
  | 10 => -5
  | 11 => nI 0
  | 12 => -5
  | _ => -5
def R0 : RV := fun a i => if 2 ≤ a ∧ i < rlen a then v0 a else nI 0
theorem R0_v {a i : Nat} (ha : 2 ≤ a) (hi : i < rlen a) : R0 a i = v0 a := if_pos ⟨ha, hi⟩
theorem R0_2 {d : Nat} (h : d < 12) : R0 2 d = nI 0 := R0_v (by omega) h
theorem R0_5 {d : Nat} (h : d < 52) : R0 5 d = -5 := R0_v (by omega) h
theorem R0_6 {d : Nat} (h : d < 36) : R0 6 d = nI 0 := R0_v (by omega) h
theorem R0_7 {d : Nat} (h : d < 36) : R0 7 d = nI 0 := R0_v (by omega) h
theorem R0_8 {d : Nat} (h : d < 36) : R0 8 d = -5 := R0_v (by omega) h
theorem R0_9 {d : Nat} (h : d < 24) : R0 9 d = nI 0 := R0_v (by omega) h
theorem R0_10 {d : Nat} (h : d < 24) : R0 10 d = -5 := R0_v (by omega) h
theorem R0_11 {d : Nat} (h : d < 24) : R0 11 d = nI 0 := R0_v (by omega) h
theorem R0_12 {d : Nat} (h : d < 12) : R0 12 d = -5 := R0_v (by omega) h
theorem R0_13 {d : Nat} (h : d < 12) : R0 13 d = -5 := R0_v (by omega) h
theorem R0_k {d : Nat} (h : d < 12) {q : Prop} (hk : ¬R0 2 d = nI 0) : q := absurd (R0_2 h) hk
theorem R0_cov {s d q a n : Nat} (hd : d < 12) (h : cov R0 s d q a n) : False := by
  obtain ⟨-, -, ⟨h, -⟩ | ⟨-, h, -⟩⟩ := h
  · rw [R0_2 hd] at h; exact absurd h (by decide)
  · rw [R0_2 hd] at h; exact absurd h (by decide)
theorem R0_num {d a b : Nat} (hd : d < 12) (h : numd R0 d a b) : False := by
  obtain ⟨h1, -, h3, h4, h5⟩ := h
  rw [R0_12 hd, n5_ne (by omega)] at h1
  exact h1
theorem OK_R0 : OK R0 := by
  have W : ∀ s, s < 2 → InvW R0 s := fun s hs => ⟨fun d q hd hq => Or.inl (R0_8 (by omega)), fun d hd => Or.inl ⟨R0_10 (by omega), R0_11 (by omega)⟩, fun d q a n hd hq hc => (R0_cov hd hc).elim, fun d q d' q' a n a' n' hd hq hd' hq' hn hb hc hc' => (R0_cov hd hc).elim⟩
  refine ⟨⟨fun d hd => Or.inl (R0_2 hd), fun d hd hk => R0_k hd hk, fun b s hb hs => Or.inl (R0_5 (by omega)), fun d hd hk => R0_k hd hk⟩, ⟨fun d hd hk q hq => ⟨R0_7 (by omega), R0_8 (by omega)⟩, fun d hd hk => ⟨R0_12 hd, R0_13 hd, fun s hs => ⟨R0_10 (by omega), R0_11 (by omega), R0_9 (by omega)⟩⟩⟩, ⟨0, by omega, rfl⟩, fun d q hd hq => ⟨0, by omega, R0_6 (by omega), Or.inl ⟨R0_7 (by omega), R0_8 (by omega)⟩⟩, fun d s hd hs => ⟨0, by omega, by rw [R0_9 (by omega), Nat.zero_mul]⟩, ⟨fun d hd => Or.inl ⟨R0_12 hd, R0_13 hd⟩, fun d a b hd h => (R0_num hd h).elim, fun d d' a b a' b' hd hd' hne hb h1 h2 => (R0_num hd h1).elim⟩, W 0 (by omega), W 1 (by omega)⟩
