/-! looks: the devices of the bus -/
noncomputable def wP (P : Nat → Prop) : Nat → Int32 := fun t => if tb (P t) = true then nI 1 else nI 0
noncomputable def LF (mu : RV) (P : Nat → Prop) : RV := fiB mu (wP P) 256
theorem LF_o {mu : RV} {P : Nat → Prop} {r t : Nat} (h : ¬r = 114) : LF mu P r t = mu r t := by
  unfold LF fiB
  rw [if_neg (fun q => h q.1)]
theorem LF_y {mu : RV} {P : Nat → Prop} {t : Nat} (h : t < 256) (hP : P t) : LF mu P 114 t = nI 1 := by
  unfold LF fiB wP
  rw [if_pos ⟨rfl, h⟩, if_pos ((tb_iff _).mpr hP)]
theorem LF_n {mu : RV} {P : Nat → Prop} {t : Nat} (h : t < 256) (hP : ¬P t) : LF mu P 114 t = nI 0 := by
  unfold LF fiB wP
  rw [if_pos ⟨rfl, h⟩, if_neg (fun q => hP ((tb_iff _).mp q))]
theorem LF_fc {mu : RV} {P Q : Nat → Prop} {u k : Nat} (hu : u + k ≤ 256) (h : ∀ t, t < 256 → (Q t ↔ P t ∧ ¬(u ≤ t ∧ t < u + k))) : fcB (LF mu P) u k = LF mu Q := by
  funext r t
  unfold fcB
  by_cases hr : r = 114
  · subst hr
    by_cases ht : t < 256
    · by_cases hc : u ≤ t ∧ t < u + k
      · rw [if_pos ⟨rfl, hc⟩, LF_n ht (fun q => ((h t ht).mp q).2 hc)]
      · rw [if_neg (fun q => hc q.2)]
        by_cases hP : P t
        · rw [LF_y ht hP, LF_y ht ((h t ht).mpr ⟨hP, hc⟩)]
        · rw [LF_n ht hP, LF_n ht (fun q => hP ((h t ht).mp q).1)]
    · rw [if_neg (by omega)]
      unfold LF fiB
      rw [if_neg (fun q => ht q.2), if_neg (fun q => ht q.2)]
  · rw [if_neg (fun q => hr q.1), LF_o hr, LF_o hr]
theorem LF_fc0 {mu : RV} {P Q : Nat → Prop} (h : ∀ t, t < 256 → (Q t ↔ P t)) : LF mu P = LF mu Q := by
  have := LF_fc (mu := mu) (P := P) (Q := Q) (u := 0) (k := 0) (by omega) (fun t ht => by rw [h t ht]; exact ⟨fun q => ⟨q, by omega⟩, fun q => q.1⟩)
  rw [fcB_0] at this
  exact this
theorem adr_fac {s : Nat} : adr s ≤ grn s * 256 ∧ adr s ≤ 4096 ∧ 256 ≤ adr s ∧ adr s % grn s = 0 := by
  unfold adr grn
  split <;> decide
theorem room_adr {R : RV} {s : Nat} (hW : InvW R s) : ∀ k b a n, rt R k b → room R s b a n → a + n ≤ adr s := by
  have hb : ∀ a n, room R s 12 a n → a + n ≤ adr s := by
    rintro a n (⟨-, h2, h3⟩ | ⟨h1, -⟩)
    · omega
    · omega
  intro k
  induction k with
  | zero =>
    intro b a n hr h
    have : b = 12 := hr
    subst this
    exact hb a n h
  | succ k ih =>
    intro b a n hr h
    rcases hr with rfl | ⟨h1, h2, h3⟩
    · exact hb a n h
    · obtain ⟨-, -, -, a0, n0, r1, r2, r3⟩ := hW.2.2.1 b 0 a n h1 (by omega) (room_cov h1 h).2
      have := ih (bn R b) a0 n0 h3 r1
      omega
theorem cov_grn {R : RV} {s : Nat} (hI : InvT R) (hW : InvW R s) {d q a n : Nat} (hd : d < 12) (hq : q < 3) (hc : cov R s d q a n) : ∃ u c, a = grn s * u ∧ n = grn s * c ∧ u + c ≤ 256 ∧ 0 < c ∧ a + n ≤ adr s := by
  obtain ⟨h1, h2, h3, a0, n0, r1, r2, r3⟩ := hW.2.2.1 d q a n hd hq hc
  have h4 := room_adr hW 4 (bn R d) a0 n0 (hI.2.2.2 d hd (cov_k hc)) r1
  have hg := @grn_le s
  have ha := @adr_fac s
  have e1 := Nat.div_add_mod a (grn s)
  have e2 := Nat.div_add_mod n (grn s)
  rw [h2, Nat.add_zero] at e1
  rw [h3, Nat.add_zero] at e2
  refine ⟨a / grn s, n / grn s, e1.symm, e2.symm, ?_, ?_, by omega⟩
  · have : grn s * (a / grn s + n / grn s) ≤ grn s * 256 := by rw [Nat.mul_add]; omega
    exact Nat.le_of_mul_le_mul_left this (by omega)
  · exact Nat.div_pos (by
      rcases Nat.eq_zero_or_pos (n / grn s) with z | z
      · rw [z, Nat.mul_zero] at e2; omega
      · have : grn s * 1 ≤ grn s * (n / grn s) := Nat.mul_le_mul_left _ z
        omega) (by omega)
theorem cov_t {g u c t : Nat} (hg : 0 < g) : (g * u ≤ t * g ∧ t * g < g * u + g * c) ↔ (u ≤ t ∧ t < u + c) := by
  rw [Nat.mul_comm t g, ← Nat.mul_add]
  constructor
  · rintro ⟨h1, h2⟩
    exact ⟨Nat.le_of_mul_le_mul_left h1 hg, Nat.lt_of_mul_lt_mul_left h2⟩
  · rintro ⟨h1, h2⟩
    exact ⟨Nat.mul_le_mul_left _ h1, Nat.mul_lt_mul_of_pos_left h2 hg⟩
/-- the part (j, q) leaves the grain t alone -/
def nov (R : RV) (s j q t : Nat) : Prop := ∀ a n, cov R s j q a n → ¬(a ≤ t * grn s ∧ t * grn s < a + n)
theorem cov_one {R : RV} {s d q a n a' n' : Nat} (hc : cov R s d q a n) (hc' : cov R s d q a' n') : a' = a ∧ n' = n := by
  obtain ⟨c1, c2, c3⟩ := hc
  obtain ⟨c1', c2', c3'⟩ := hc'
  rcases c3 with ⟨x1, x2, x3, x4⟩ | ⟨x1, x2, x3, x4⟩ <;> rcases c3' with ⟨y1, y2, y3, y4⟩ | ⟨y1, y2, y3, y4⟩
  · rw [x3, nI_eqc (by omega) (by omega)] at y3
    rw [x4, nI_eqc (by omega) (by omega)] at y4
    exact ⟨y3.symm, y4.symm⟩
  · rw [x1] at y2; exact absurd y2 (by decide)
  · rw [x2] at y1; exact absurd y1 (by decide)
  · rw [x3, nI_eqc (by omega) (by omega)] at y3
    rw [x4, nI_eqc (by omega) (by omega)] at y4
    exact ⟨y3.symm, y4.symm⟩
/-- what (j, q) covers is taken out -/
theorem nov_y {R : RV} {s j q u c : Nat} (hc : cov R s j q (grn s * u) (grn s * c)) (t : Nat) : nov R s j q t ↔ ¬(u ≤ t ∧ t < u + c) := by
  have hg := @grn_le s
  constructor
  · intro h q
    exact h _ _ hc ((cov_t (by omega)).mpr q)
  · intro h a n hc' q
    obtain ⟨e1, e2⟩ := cov_one hc hc'
    rw [e1, e2] at q
    exact h ((cov_t (by omega)).mp q)
section
variable (d L : Nat) (mu : RV) (p : Nat → Nat) {R : RV}
/-- a grain of the room that is free -/
def fre (R : RV) (s b A E t : Nat) : Prop := inR s A E t ∧ ∀ i a n, i < 12 → CP R s b i a n → ¬(a ≤ t * grn s ∧ t * grn s < a + n)
theorem fre_iff {R : RV} (hO : OK R) {s b t : Nat} (hb : b < 13) : (∀ x q, 0 ≤ x → x < 12 → q < 3 → bn R x = b → nov R s x q t) ↔ ∀ i a n, i < 12 → CP R s b i a n → ¬(a ≤ t * grn s ∧ t * grn s < a + n) := by
  constructor
  · rintro g i a n hi ⟨j, c1, c2, c3⟩
    rcases hO.T.2.2.1 b (i / 3) hb (by omega) with hv | ⟨j', g1, g2, g3, g4, g5⟩
    · rw [hv, n5_ne (by omega)] at c2; exact c2.elim
    · rw [g2, nI_eqc (by omega) (by omega)] at c2
      subst c2
      exact g j' (i % 3) (by omega) c1 (by omega) (bn_of g4 hb) a n c3
  · intro g x q _ hx hq hbx a n hc
    obtain ⟨b', t', g1, g2, g3, g4, g5, -⟩ := hO.T.2.1 x hx (cov_k hc)
    have : b' = b := by rw [← hbx, bn_of g3 g1]
    subst this
    refine g (t' * 3 + q) a n (by omega) ⟨x, hx, ?_, ?_⟩
    · rw [show (t' * 3 + q) / 3 = t' by omega]; exact g5
    · rw [show (t' * 3 + q) % 3 = q by omega]; exact hc
end
