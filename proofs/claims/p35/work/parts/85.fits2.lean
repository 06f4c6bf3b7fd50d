/-! the first fit: both sides -/
theorem gle {g a b : Nat} (h : 0 < g) : g * a ≤ g * b ↔ a ≤ b := Nat.mul_le_mul_left_iff h
theorem glt {g a b : Nat} (h : 0 < g) : g * a < g * b ↔ a < b := Nat.mul_lt_mul_left h
/-- v is the first fit on bus b for the size and the alignment -/
def FSp (R : RV) (s b size al : Nat) (v : Int32) : Prop :=
  (∃ y A E, room R s b A E ∧ y % al = 0 ∧ A ≤ y ∧ y + size ≤ A + E ∧ FR R s b size y ∧ (∀ y', y' % al = 0 → A ≤ y' → y' < y → ¬FR R s b size y') ∧ v = nI y) ∨
  ((∀ A E, room R s b A E → ∀ y, y % al = 0 → A ≤ y → y + size ≤ A + E → ¬FR R s b size y) ∧ v = -5)
theorem room_one {R : RV} {s b A E A' E' : Nat} (h : room R s b A E) (h' : room R s b A' E') : A' = A ∧ E' = E := by
  rcases h with ⟨h1, h2, h3⟩ | ⟨h1, h2, h3, h4, h5, h6⟩ <;> rcases h' with ⟨g1, g2, g3⟩ | ⟨g1, g2, g3, g4, g5, g6⟩
  · omega
  · omega
  · omega
  · rw [h5, nI_eqc (by omega) (by omega)] at g5
    rw [h6, nI_eqc (by omega) (by omega)] at g6
    exact ⟨g5.symm, g6.symm⟩
theorem FSp_one {R : RV} {s b size al : Nat} {v v' : Int32} (h : FSp R s b size al v) (h' : FSp R s b size al v') : v' = v := by
  rcases h with ⟨y, A, E, h1, h2, h3, h4, h5, h6, rfl⟩ | ⟨h1, rfl⟩ <;> rcases h' with ⟨y', A', E', g1, g2, g3, g4, g5, g6, rfl⟩ | ⟨g1, rfl⟩
  · obtain ⟨e1, e2⟩ := room_one h1 g1
    rw [e1] at g3 g6
    have n1 : ¬y' < y := fun q => h6 y' g2 g3 q g5
    have n2 : ¬y < y' := fun q => g6 y h2 h3 q h5
    rw [show y' = y by omega]
  · exact absurd h5 (g1 A E h1 y h2 h3 h4)
  · exact absurd g5 (h1 A' E' g1 y' g2 g3 g4)
  · rfl
theorem fre_all {R : RV} {s b A' E' u c : Nat} (hO : OK R) (hs : s < 2) (hc : 0 < c) : (∀ t, t < c → fre R s b (grn s * A') (grn s * E') (u + t)) ↔ (grn s * A' ≤ grn s * u ∧ grn s * u + grn s * c ≤ grn s * A' + grn s * E' ∧ FR R s b (grn s * c) (grn s * u)) := by
  have hg := @grn_le s
  have hg0 : 0 < grn s := by omega
  have cp : ∀ i a n, i < 12 → CP R s b i a n → ∃ u1 c1, a = grn s * u1 ∧ n = grn s * c1 ∧ 0 < c1 := fun i a n hi hcp => by
    obtain ⟨j, j1, j2, j3⟩ := hcp
    obtain ⟨u1, c1, e1, e2, -, e3, -⟩ := cov_grn hO.T (hO.W hs) j1 (by omega) j3
    exact ⟨u1, c1, e1, e2, e3⟩
  rw [← Nat.mul_add, ← Nat.mul_add, gle hg0, gle hg0]
  constructor
  · intro h
    have h0 := (h 0 hc).1
    have h1 := (h (c - 1) (by omega)).1
    unfold inR at h0 h1
    rw [Nat.mul_comm (u + 0), Nat.mul_comm (u + (c - 1)), ← Nat.mul_add, gle hg0, glt hg0] at *
    refine ⟨by omega, by omega, fun i a n hi hcp q => ?_⟩
    obtain ⟨u1, c1, rfl, rfl, hc1⟩ := cp i a n hi hcp
    rw [← Nat.mul_add, ← Nat.mul_add, glt hg0, glt hg0] at q
    have := (h (max u u1 - u) (by omega)).2 i _ _ hi hcp
    rw [show u + (max u u1 - u) = max u u1 by omega, Nat.mul_comm (max u u1), ← Nat.mul_add, gle hg0, glt hg0] at this
    omega
  · rintro ⟨h1, h2, h3⟩ t ht
    refine ⟨?_, fun i a n hi hcp q => h3 i a n hi hcp ?_⟩
    · unfold inR
      rw [Nat.mul_comm (u + t), ← Nat.mul_add, gle hg0, glt hg0]
      omega
    · obtain ⟨u1, c1, rfl, rfl, hc1⟩ := cp i a n hi hcp
      rw [Nat.mul_comm (u + t), ← Nat.mul_add, gle hg0, glt hg0] at q
      rw [← Nat.mul_add, ← Nat.mul_add, glt hg0, glt hg0]
      omega
section
variable (d L : Nat) (mu : RV) (p : Nat → Nat) {R : RV}
theorem gmod {g y m : Nat} (hg : 0 < g) : (g * y) % (g * m) = 0 ↔ y % m = 0 := by
  rw [Nat.mul_mod_mul_left]
  constructor
  · intro h
    rcases Nat.mul_eq_zero.mp h with q | q
    · omega
    · exact q
  · intro h; rw [h, Nat.mul_zero]
theorem gdvd {g m y : Nat} (h : y % (g * m) = 0) : ∃ u, y = g * u := by
  have h1 := Nat.div_add_mod y (g * m)
  rw [h, Nat.add_zero, Nat.mul_assoc] at h1
  exact ⟨_, h1.symm⟩
/-- a bus's room in grains -/
theorem room_grn {R : RV} {s b A E : Nat} (hO : OK R) (hs : s < 2) (h : room R s b A E) (hb : b = 12 ∨ ¬R 2 b = nI 0) : ∃ A' E', A = grn s * A' ∧ E = grn s * E' ∧ 0 < E ∧ A + E ≤ adr s := by
  rcases h with ⟨h1, rfl, rfl⟩ | ⟨h1, h2, h3, h4, h5, h6⟩
  · have := @adr_fac s
    have e := Nat.div_add_mod (adr s) (grn s)
    rw [this.2.2.2, Nat.add_zero] at e
    exact ⟨0, _, rfl, e.symm, by omega, by omega⟩
  · have hr : room R s b A E := Or.inr ⟨h1, h2, h3, h4, h5, h6⟩
    obtain ⟨u, c, e1, e2, e3, e4, e5⟩ := cov_grn hO.T (hO.W hs) h1 (by omega) (room_cov h1 hr).2
    refine ⟨u, c, e1, e2, ?_, e5⟩
    rw [e2]
    exact Nat.mul_pos (by have := @grn_le s; omega) e4
/-- the class's first fit -/
theorem z_fit (hO : OK (rk mu 1)) (b s m c kk : Nat) (hs : s < 2) (hb : b = 12 ∨ (b < 12 ∧ mu 2 b = nI 2)) (hal : grn s * m = 2 ^ kk) (hkk : kk = 2 ∨ kk = 3 ∨ kk = 4 ∨ kk = 5 ∨ kk = 6 ∨ kk = 7 ∨ kk = 8 ∨ kk = 9 ∨ kk = 10) (hc : 0 < c) (hc2 : grn s * c ≤ 1000000) : ∃ v, zsem (d + 3) 66 0 [.inr (.inl (some 1)), .inl (nI b), .inl (nI s), .inl (nI (grn s * c)), .inl (nI (grn s * m)), .inr (.inl none), .inr (.inl none), .inr (.inl none), .inr (.inl none)] [] (HH L mu p) = some (some (.inl v), HH L mu p) ∧ FSp (rk mu 1) s b (grn s * c) (grn s * m) v := by
  have hg := @grn_le s
  have ha := @adr_fac s
  have hg0 : 0 < grn s := by omega
  have hcg : grn s * 1 ≤ grn s * c := (gle hg0).mpr hc
  have go : ∀ A0 E, A0 + E ≤ 4096 → room (rk mu 1) s b A0 E → zsem (d + 2) 67 0 [.inr (.inl (some 1)), .inl (nI b), .inl (nI s)] [] (HH L mu p) = some (some (.inl (nI A0)), HH L mu p) → zsem (d + 2) 56 0 [.inr (.inl (some 1)), .inl (nI b), .inl (nI s)] [] (HH L mu p) = some (some (.inl (nI E)), HH L mu p) → ∃ v, zsem (d + 3) 66 0 [.inr (.inl (some 1)), .inl (nI b), .inl (nI s), .inl (nI (grn s * c)), .inl (nI (grn s * m)), .inr (.inl none), .inr (.inl none), .inr (.inl none), .inr (.inl none)] [] (HH L mu p) = some (some (.inl v), HH L mu p) ∧ FSp (rk mu 1) s b (grn s * c) (grn s * m) v := by
    intro A0 E hAE hr h1 h2
    obtain ⟨v, e1, e2⟩ := z_fitIn d L mu p hO b s (grn s * c) (grn s * m) kk A0 E (by omega) hs hal (by omega) hc2 (by omega) (by omega) (by omega) h1 h2
    refine ⟨v, e1, ?_⟩
    rcases e2 with ⟨y, y1, y2, y3, y4, y5, y6⟩ | ⟨y1, y2⟩
    · exact Or.inl ⟨y, A0, E, hr, y1, y2, y3, y4, y5, y6⟩
    · refine Or.inr ⟨fun A1 E1 hr1 y q1 q2 q3 => ?_, y2⟩
      obtain ⟨g1, g2⟩ := room_one hr hr1
      rw [g1] at q2
      rw [g1, g2] at q3
      exact y1 y q1 q2 q3
  rcases hb with rfl | ⟨hb1, hb2⟩
  · exact go 0 (adr s) (by omega) (Or.inl ⟨rfl, rfl, rfl⟩) (z_startOf_r (d + 1) L mu p s) (z_extentOf_r (d + 1) L mu p s hs)
  · have e1 := z_startOf_b (d + 1) L mu p b s hb1 hs hb2
    have e2 := z_extentOf_b (d + 1) L mu p b s hb1 hs hb2
    have hk : rk mu 1 2 b = nI 2 := by rw [rk_2 hb1]; exact hb2
    rcases (hO.W hs).2.1 b hb1 with ⟨g1, g2⟩ | ⟨a, n, g1, g2, g3, g4⟩
    · have g1' := g1
      have g2' := g2
      rw [rk_10 (by omega)] at g1
      rw [rk_11 (by omega)] at g2
      refine ⟨-5, ?_, Or.inr ⟨fun A E q => ?_, rfl⟩⟩
      · rw [hal]
        exact z_fitIn_n d L mu p b s (grn s * c) kk hb1 hs hkk hc2 (by omega) hb2 g1 g2
      · rcases q with ⟨q1, -⟩ | ⟨q1, q2, q3, q4, q5, q6⟩
        · omega
        · rw [g1', n5_ne (by omega)] at q5; exact q5.elim
    · have hr : room (rk mu 1) s b a n := Or.inr ⟨hb1, g1, g2, hk, g3, g4⟩
      obtain ⟨A', E', -, -, -, q⟩ := room_grn hO hs hr (Or.inr (k2_ne0 hk))
      rw [rk_10 (by omega)] at g3
      rw [rk_11 (by omega)] at g4
      rw [g3] at e1
      rw [g4] at e2
      exact go a n (by omega) hr e1 e2
end
