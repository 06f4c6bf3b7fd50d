/-! one region an address -/
theorem cov_k {R : RV} {s d q a n : Nat} (h : cov R s d q a n) : ¬R 2 d = nI 0 := by
  rcases h.2.2 with ⟨c, -⟩ | ⟨-, c, -⟩
  · exact k1_ne0 c
  · exact k2_ne0 c
theorem room_cov {R : RV} {s b a n : Nat} (hb : b < 12) (h : room R s b a n) : R 2 b = nI 2 ∧ cov R s b 0 a n := by
  rcases h with ⟨h, -⟩ | ⟨-, h2, h3, h4, h5, h6⟩
  · omega
  · exact ⟨h4, h2, h3, Or.inr ⟨rfl, h4, h5, h6⟩⟩
theorem win_lev {R : RV} {s : Nat} (hI : InvT R) (hW : InvW R s) (x : Nat) : ∀ m d q d' q' a n a' n', d < 12 → q < 3 → d' < 12 → q' < 3 → cov R s d q a n → cov R s d' q' a' n' → a ≤ x → x < a + n → a' ≤ x → x < a' + n' → dq R d = m → dq R d' = m → d = d' ∧ q = q' := by
  intro m
  induction m with
  | zero =>
    intro d q d' q' a n a' n' hd hq hd' hq' c1 c2 x1 x2 x3 x4 e1 e2
    have z1 : bn R d = 12 := by
      by_cases g : bn R d < 12
      · rw [dq_s hI hd (cov_k c1) g] at e1; omega
      · have := (hI.bus hd (cov_k c1)).1; omega
    have z2 : bn R d' = 12 := by
      by_cases g : bn R d' < 12
      · rw [dq_s hI hd' (cov_k c2) g] at e2; omega
      · have := (hI.bus hd' (cov_k c2)).1; omega
    by_cases g : d = d' ∧ q = q'
    · exact g
    · have := hW.2.2.2 d q d' q' a n a' n' hd hq hd' hq' g (by rw [z1, z2]) c1 c2
      omega
  | succ m ih =>
    intro d q d' q' a n a' n' hd hq hd' hq' c1 c2 x1 x2 x3 x4 e1 e2
    by_cases g : d = d' ∧ q = q'
    · exact g
    · by_cases hb : bn R d = bn R d'
      · have := hW.2.2.2 d q d' q' a n a' n' hd hq hd' hq' g hb c1 c2
        omega
      · by_cases g1 : bn R d < 12
        · by_cases g2 : bn R d' < 12
          · rw [dq_s hI hd (cov_k c1) g1] at e1
            rw [dq_s hI hd' (cov_k c2) g2] at e2
            obtain ⟨-, -, -, a0, n0, r1, r2, r3⟩ := hW.2.2.1 d q a n hd hq c1
            obtain ⟨-, -, -, a0', n0', r1', r2', r3'⟩ := hW.2.2.1 d' q' a' n' hd' hq' c2
            have := ih (bn R d) 0 (bn R d') 0 a0 n0 a0' n0' g1 (by omega) g2 (by omega) (room_cov g1 r1).2 (room_cov g2 r1').2 (by omega) (by omega) (by omega) (by omega) (by omega) (by omega)
            exact absurd this.1 hb
          · have h12 : bn R d' = 12 := by have := (hI.bus hd' (cov_k c2)).1; omega
            rw [dq_0 h12] at e2; omega
        · have h12 : bn R d = 12 := by have := (hI.bus hd (cov_k c1)).1; omega
          rw [dq_0 h12] at e1; omega
theorem win_up {R : RV} {s : Nat} (hI : InvT R) (hW : InvW R s) (x m : Nat) : ∀ k d q a n, d < 12 → q < 3 → cov R s d q a n → a ≤ x → x < a + n → dq R d = m + (k + 1) → ∃ e a0 n0, e < 12 ∧ dq R e = m ∧ R 2 e = nI 2 ∧ cov R s e 0 a0 n0 ∧ a0 ≤ x ∧ x < a0 + n0 := by
  intro k
  induction k with
  | zero =>
    intro d q a n hd hq c x1 x2 e
    by_cases g : bn R d < 12
    · rw [dq_s hI hd (cov_k c) g] at e
      obtain ⟨-, -, -, a0, n0, r1, r2, r3⟩ := hW.2.2.1 d q a n hd hq c
      obtain ⟨r4, r5⟩ := room_cov g r1
      exact ⟨bn R d, a0, n0, g, by omega, r4, r5, by omega, by omega⟩
    · have h12 : bn R d = 12 := by have := (hI.bus hd (cov_k c)).1; omega
      rw [dq_0 h12] at e; omega
  | succ k ih =>
    intro d q a n hd hq c x1 x2 e
    by_cases g : bn R d < 12
    · rw [dq_s hI hd (cov_k c) g] at e
      obtain ⟨-, -, -, a0, n0, r1, r2, r3⟩ := hW.2.2.1 d q a n hd hq c
      obtain ⟨r4, r5⟩ := room_cov g r1
      exact ih (bn R d) 0 a0 n0 g (by omega) r5 (by omega) (by omega) (by omega)
    · have h12 : bn R d = 12 := by have := (hI.bus hd (cov_k c)).1; omega
      rw [dq_0 h12] at e; omega
/-- a card's region covers the address x -/
theorem reg_one {R : RV} {s : Nat} (hI : InvT R) (hW : InvW R s) {x d q d' q' a n a' n' : Nat} (hd : d < 12) (hq : q < 3) (hd' : d' < 12) (hq' : q' < 3) (k : R 2 d = nI 1) (k' : R 2 d' = nI 1) (c1 : cov R s d q a n) (c2 : cov R s d' q' a' n') (x1 : a ≤ x) (x2 : x < a + n) (x3 : a' ≤ x) (x4 : x < a' + n') : d = d' ∧ q = q' := by
  by_cases e : dq R d = dq R d'
  · exact win_lev hI hW x _ d q d' q' a n a' n' hd hq hd' hq' c1 c2 x1 x2 x3 x4 rfl e.symm
  · exfalso
    have aux : ∀ d q d' q' a n a' n', d < 12 → q < 3 → d' < 12 → q' < 3 → R 2 d' = nI 1 → cov R s d q a n → cov R s d' q' a' n' → a ≤ x → x < a + n → a' ≤ x → x < a' + n' → dq R d' < dq R d → False := by
      intro d q d' q' a n a' n' hd hq hd' hq' k' c1 c2 x1 x2 x3 x4 hlt
      obtain ⟨f, a0, n0, g1, g2, g3, g4, g5, g6⟩ := win_up hI hW x (dq R d') (dq R d - dq R d' - 1) d q a n hd hq c1 x1 x2 (by omega)
      have := win_lev hI hW x _ f 0 d' q' a0 n0 a' n' g1 (by omega) hd' hq' g4 c2 g5 g6 x3 x4 g2 rfl
      rw [this.1, k'] at g3
      exact absurd g3 (by decide)
    by_cases e2 : dq R d' < dq R d
    · exact aux d q d' q' a n a' n' hd hq hd' hq' k' c1 c2 x1 x2 x3 x4 e2
    · exact aux d' q' d q a' n' a n hd' hq' hd hq k c2 c1 x3 x4 x1 x2 (by omega)
