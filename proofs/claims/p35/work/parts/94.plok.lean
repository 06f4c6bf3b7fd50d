/-! placing keeps what every rack keeps -/
theorem gal_ge {sz al : Nat → Nat} {g : Nat} : ∀ n k, k < n → sz k ≠ 0 → al k ≤ gal sz al g n := by
  intro n
  induction n with
  | zero => intro k h; omega
  | succ n ih =>
    intro k hk hz
    rw [gal]
    by_cases q : sz n = 0
    · rw [if_pos q]
      exact ih k (by by_cases e : k = n; (subst e; exact absurd q hz); omega) hz
    · rw [if_neg q]
      by_cases e : k = n
      · subst e; omega
      · have := ih k (by omega) hz; omega
theorem stF_mem {R : RV} {s b0 x0 b k z : Nat} (h : stF R s b0 x0 b k = some z) : ∃ x, posB R s b0 x0 b = some x ∧ pst (SZ R s b) (AL R s b) (adr s) x (IT R s b) k = some z ∧ k < 12 ∧ SZ R s b k ≠ 0 := by
  unfold stF at h
  cases hp : posB R s b0 x0 b with
  | none => rw [hp] at h; cases h
  | some x =>
    rw [hp] at h
    have hm := (itl_mem 12).mp (pst_mem _ _ h)
    exact ⟨x, rfl, h, hm.1, hm.2⟩
theorem stF_none {R : RV} {s b0 x0 b k : Nat} (h : posB R s b0 x0 b = none) : stF R s b0 x0 b k = none := by
  unfold stF
  rw [h]
/-- what placing begins with: the bus b0 with its room from x0, nothing placed below -/
def PLr (R : RV) (s b0 x0 : Nat) : Prop := (b0 = 12 ∧ x0 = 0) ∨ (b0 < 12 ∧ x0 < 4096 ∧ fN R s b0 ≤ 4096 ∧ R 2 b0 = nI 2 ∧ R 10 (b0 * 2 + s) = nI x0 ∧ R 11 (b0 * 2 + s) = nI (fN R s b0) ∧ x0 % aN R s b0 = 0)
def PLf (R : RV) (s b0 x0 : Nat) : Prop := ∀ d, d < 12 → ¬R 2 d = nI 0 → posB R s b0 x0 (bn R d) ≠ none → (∀ q, q < 3 → R 2 d = nI 1 → R 6 (d * 3 + q) = nI s → R 8 (d * 3 + q) = -5) ∧ (R 2 d = nI 2 → R 10 (d * 2 + s) = -5 ∧ R 11 (d * 2 + s) = nI 0)
/-- lower buses with a place are deeper than b0 -/
theorem posB_dep {R : RV} (hI : InvT R) {s b0 x0 : Nat} (hb0 : b0 < 12) (hk0 : R 2 b0 = nI 2) : ∀ n b, b < 13 → (b < 12 → R 2 b = nI 2 ∧ dq R b < n) → posB R s b0 x0 b ≠ none → b = b0 ∨ (b < 12 ∧ dq R b0 < dq R b) := by
  intro n
  induction n with
  | zero =>
    intro b hb h1 h2
    by_cases h12 : b = 12
    · subst h12; exact absurd (posB_12 (by omega)) h2
    · have := (h1 (by omega)).2; omega
  | succ n ih =>
    intro b hb h1 h2
    by_cases h12 : b = 12
    · subst h12; exact absurd (posB_12 (by omega)) h2
    · have hb12 : b < 12 := by omega
      obtain ⟨k1, k2⟩ := h1 hb12
      by_cases e : b = b0
      · exact Or.inl e
      · rw [posB_eq hI hb12 k1 e] at h2
        have hp : posB R s b0 x0 (bn R b) ≠ none := fun q => h2 (stF_none q)
        obtain ⟨g1, g2, g3⟩ := hI.bus hb12 (k2_ne0 k1)
        have := ih (bn R b) g1 (fun q => ⟨g3 q, by have := dq_s hI hb12 (k2_ne0 k1) q; omega⟩) hp
        refine Or.inr ⟨hb12, ?_⟩
        by_cases g12 : bn R b < 12
        · have e3 := dq_s hI hb12 (k2_ne0 k1) g12
          rcases this with q | q
          · rw [q] at e3; omega
          · omega
        · have : bn R b = 12 := by omega
          rw [this] at hp
          exact absurd (posB_12 (by omega)) hp
theorem posB_up {R : RV} (hI : InvT R) {s b0 x0 : Nat} (hb0 : b0 < 12) (hk0 : R 2 b0 = nI 2) : posB R s b0 x0 (bn R b0) = none := by
  obtain ⟨g1, g2, g3⟩ := hI.bus hb0 (k2_ne0 hk0)
  cases h : posB R s b0 x0 (bn R b0) with
  | none => rfl
  | some x =>
    exfalso
    have hp : posB R s b0 x0 (bn R b0) ≠ none := by rw [h]; exact fun q => by cases q
    by_cases g12 : bn R b0 < 12
    · have e3 := dq_s hI hb0 (k2_ne0 hk0) g12
      have := posB_dep hI hb0 hk0 5 (bn R b0) g1 (fun q => ⟨g3 q, by have := dq_le hI q (k2_ne0 (g3 q)); omega⟩) hp
      rcases this with q | q
      · rw [q] at e3; omega
      · omega
    · have : bn R b0 = 12 := by omega
      rw [this] at hp
      exact hp (posB_12 (by omega))
theorem AL_pos {R : RV} (hO : OK R) {s b : Nat} (hs : s < 2) (hb : b < 13) : ∀ x, x ∈ IT R s b → 0 < AL R s b x := fun x hx => by
  obtain ⟨x1, x2⟩ := (itl_mem 12).mp hx
  obtain ⟨e, -, h⟩ := (part_ok hO hs hb).1 x x1 x2
  rw [h]
  exact Nat.mul_pos (by have := @grn_le s; omega) (Nat.pow_pos (by omega))
/-- where a bus with a place lies -/
def PosE (R R' : RV) (s b0 b x : Nat) : Prop := (b = 12 ∧ b0 = 12 ∧ x = 0) ∨ (b < 12 ∧ R 2 b = nI 2 ∧ R' 10 (b * 2 + s) = nI x ∧ R' 11 (b * 2 + s) = nI (fN R s b) ∧ x % aN R s b = 0 ∧ x + fN R s b ≤ adr s ∧ 0 < fN R s b)
/-- what is placed on it is in its room -/
theorem stF_room {R R' : RV} (hO : OK R) {s b0 x0 b x k z : Nat} (hs : s < 2) (hb : b < 13) (h2 : R' 2 = R 2) (hE : PosE R R' s b0 b x) (hx : posB R s b0 x0 b = some x) (h : stF R s b0 x0 b k = some z) : ∃ A E, room R' s b A E ∧ A ≤ z ∧ z + SZ R s b k ≤ A + E ∧ A + E ≤ adr s ∧ z % AL R s b k = 0 ∧ 0 < SZ R s b k := by
  obtain ⟨x', p1, p2, p3, p4⟩ := stF_mem h
  rw [hx] at p1
  cases p1
  obtain ⟨q1, q2, q3⟩ := pst_in (IT R s b) x (AL_pos hO hs hb) p2
  have ha := @adr_fac s
  rcases hE with ⟨rfl, -, rfl⟩ | ⟨e1, e2, e3, e4, e5, e6, e7⟩
  · have := pen_le (sz := SZ R s 12) (al := AL R s 12) (lim := adr s) (IT R s 12) 0 (by omega)
    exact ⟨0, adr s, Or.inl ⟨rfl, rfl, rfl⟩, by omega, by omega, by omega, q3, by omega⟩
  · obtain ⟨f1, f2⟩ := fN_eq hO.T (s := s) e1 e2
    obtain ⟨r1, -, -⟩ := part_ok hO hs hb
    have hdv : ∀ y, y ∈ IT R s b → 0 < AL R s b y ∧ x % AL R s b y = 0 := fun y hy => by
      obtain ⟨y1, y2⟩ := (itl_mem 12).mp hy
      refine ⟨AL_pos hO hs hb y hy, mod_dvd e5 ?_⟩
      obtain ⟨e, -, g1⟩ := r1 y y1 y2
      obtain ⟨e', -, g2⟩ := gal_ok (sz := SZ R s b) (al := AL R s b) (s := s) 12 r1
      have hle := gal_ge (sz := SZ R s b) (al := AL R s b) (g := grn s) 12 y y1 y2
      rw [f2, g2, g1]
      rw [g2, g1] at hle
      exact pow_dvd (pow_inv (by have := @grn_le s; omega) hle)
    have ht := pen_tr (sz := SZ R s b) (al := AL R s b) (lim := adr s) (x0 := x) (IT R s b) 0 hdv (by omega)
    rw [Nat.add_zero] at ht
    refine ⟨x, fN R s b, Or.inr ⟨e1, by omega, by omega, by rw [h2]; exact e2, e3, e4⟩, by omega, by omega, e6, q3, by omega⟩
theorem posE_ok {R : RV} (hO : OK R) {s b0 x0 : Nat} (hs : s < 2) (hr : PLr R s b0 x0) : ∀ n b x, b < 13 → (b < 12 → R 2 b = nI 2 ∧ dq R b < n) → posB R s b0 x0 b = some x → PosE R (ovl R s (stF R s b0 x0)) s b0 b x := by
  have ha := @adr_fac s
  have hL := ovl_L R s (stF R s b0 x0)
  have r2 := hL 2 (by omega) (by omega) (by omega)
  have base : ∀ x, posB R s b0 x0 b0 = some x → PosE R (ovl R s (stF R s b0 x0)) s b0 b0 x := by
    intro x hx
    rw [posB_0] at hx
    cases hx
    rcases hr with ⟨h1, h2⟩ | ⟨h1, h1a, h1b, h2, h3, h4, h5⟩
    · exact Or.inl ⟨h1, h1, h2⟩
    · have hst : stF R s b0 x0 (bn R b0) (sn R b0 * 3) = none := stF_none (posB_up hO.T h1 h2)
      obtain ⟨o1, o2⟩ := ovl_10 (st := stF R s b0 x0) h1 hs h2
      rw [hst] at o1 o2
      have hrm : room R s b0 x0 (fN R s b0) := Or.inr ⟨h1, h1a, h1b, h2, h3, h4⟩
      have c1 := cov_grn hO.T (hO.W hs) h1 (by omega) (room_cov h1 hrm).2
      obtain ⟨u, c, c1, c2, c3, c4, c5⟩ := c1
      refine Or.inr ⟨h1, h2, o1.trans h3, o2.trans h4, h5, c5, ?_⟩
      rw [c2]
      exact Nat.mul_pos (by have := @grn_le s; omega) c4
  intro n
  induction n with
  | zero =>
    intro b x hb h1 hx
    by_cases e : b = b0
    · subst e; exact base x hx
    · by_cases h12 : b = 12
      · subst h12; rw [posB_12 (fun q => e q.symm)] at hx; cases hx
      · have := (h1 (by omega)).2; omega
  | succ n ih =>
    intro b x hb h1 hx
    by_cases e : b = b0
    · subst e; exact base x hx
    · by_cases h12 : b = 12
      · subst h12; rw [posB_12 (fun q => e q.symm)] at hx; cases hx
      · have hb12 : b < 12 := by omega
        obtain ⟨k1, k2⟩ := h1 hb12
        rw [posB_eq hO.T hb12 k1 e] at hx
        obtain ⟨g1, g2, g3⟩ := hO.T.bus hb12 (k2_ne0 k1)
        obtain ⟨y, p1, p2, p3, p4⟩ := stF_mem hx
        have hp := ih (bn R b) y g1 (fun q => ⟨g3 q, by have := dq_s hO.T hb12 (k2_ne0 k1) q; omega⟩) p1
        obtain ⟨A, E, m1, m2, m3, m4, m5, m6⟩ := stF_room hO hs g1 r2 hp p1 hx
        obtain ⟨s1, s2⟩ := sn_ok hO.T hb12 (k2_ne0 k1)
        have hv : R 5 (bn R b * 4 + sn R b * 3 / 3) = nI b := by rw [show sn R b * 3 / 3 = sn R b by omega]; exact s2
        have ps : SZ R s (bn R b) (sn R b * 3) = if ¬R 12 b = -5 ∧ sn R b * 3 % 3 = 0 then fN R s b else 0 := psz_b p3 hb12 hv k1
        have hc : ¬R 12 b = -5 ∧ sn R b * 3 % 3 = 0 := by
          by_cases q : ¬R 12 b = -5 ∧ sn R b * 3 % 3 = 0
          · exact q
          · rw [if_neg q] at ps; exact absurd ps p4
        rw [if_pos hc] at ps
        have pl : AL R s (bn R b) (sn R b * 3) = aN R s b := pal_b hb12 hv k1 p4
        obtain ⟨o1, o2⟩ := ovl_10 (st := stF R s b0 x0) hb12 hs k1
        rw [hx, ps] at o2
        rw [hx] at o1
        rw [ps] at m3 m6
        rw [pl] at m5
        exact Or.inr ⟨hb12, k1, o1, o2, m5, by omega, m6⟩
/-- a cover of the new rack is new, or the old one -/
theorem cov_new {R : RV} (hO : OK R) {s d q a n : Nat} {st : Nat → Nat → Option Nat} (hs : s < 2) (hst : ∀ b k z, st b k = some z → SZ R s b k ≠ 0 ∧ k < 12 ∧ z < 4096) (hd : d < 12) (hq : q < 3) (h : cov (ovl R s st) s d q a n) :
    (¬R 2 d = nI 0 ∧ (st (bn R d) (sn R d * 3 + q) = some a ∧ n = SZ R s (bn R d) (sn R d * 3 + q))) ∨ (st (bn R d) (sn R d * 3 + q) = none ∧ cov R s d q a n) := by
  have hL := ovl_L R s st
  have r2 := hL 2 (by omega) (by omega) (by omega)
  have r6 := hL 6 (by omega) (by omega) (by omega)
  have r7 := hL 7 (by omega) (by omega) (by omega)
  obtain ⟨h1, h2, h3⟩ := h
  rw [r2, r6, r7] at h3
  rcases h3 with ⟨k1, k2, k3, k4⟩ | ⟨rfl, k1, k2, k3⟩
  · rw [ovl_8 hd hq k1] at k3
    obtain ⟨s1, s2⟩ := sn_ok hO.T hd (k1_ne0 k1)
    have hv : R 5 (bn R d * 4 + (sn R d * 3 + q) / 3) = nI d := by rw [show (sn R d * 3 + q) / 3 = sn R d by omega]; exact s2
    cases hz : st (bn R d) (sn R d * 3 + q) with
    | none =>
      rw [hz] at k3
      exact Or.inr ⟨rfl, h1, h2, Or.inl ⟨k1, k2, k3, k4⟩⟩
    | some z =>
      obtain ⟨g1, g2, g3⟩ := hst _ _ _ hz
      rw [hz] at k3
      have k3 : nI z = nI a := k3
      rw [nI_eqc (by omega) (by omega)] at k3
      subst k3
      refine Or.inl ⟨k1_ne0 k1, rfl, ?_⟩
      have ps : SZ R s (bn R d) (sn R d * 3 + q) = _ := psz_c (s := s) (f := fN R s) g2 hd hv k1
      rw [show (sn R d * 3 + q) % 3 = q by omega, if_pos k2, k4, vn_n (by omega)] at ps
      exact ps.symm
  · obtain ⟨o1, o2⟩ := ovl_10 (st := st) hd hs k1
    rw [o1] at k2
    rw [o2] at k3
    rw [Nat.add_zero]
    cases hz : st (bn R d) (sn R d * 3) with
    | none =>
      rw [hz] at k2 k3
      exact Or.inr ⟨rfl, h1, h2, Or.inr ⟨rfl, k1, k2, k3⟩⟩
    | some z =>
      obtain ⟨g1, g2, g3⟩ := hst _ _ _ hz
      rw [hz] at k2 k3
      have k2 : nI z = nI a := k2
      have k3 : nI (SZ R s (bn R d) (sn R d * 3)) = nI n := k3
      rw [nI_eqc (by omega) (by omega)] at k2
      subst k2
      refine Or.inl ⟨k2_ne0 k1, rfl, ?_⟩
      have := (part_ok hO hs (hO.T.bus hd (k2_ne0 k1)).1).2.2 (sn R d * 3)
      rw [nI_eqc (by omega) (by omega)] at k3
      exact k3.symm
/-- starts of the one space alone -/
theorem cov_other {R : RV} (hO : OK R) {s s' d q a n : Nat} {st : Nat → Nat → Option Nat} (hs : s < 2) (hs' : s' < 2) (hne : ¬s' = s) (hst : ∀ b k z, st b k = some z → SZ R s b k ≠ 0 ∧ k < 12) (hd : d < 12) (hq : q < 3) : cov (ovl R s st) s' d q a n ↔ cov R s' d q a n := by
  have hL := ovl_L R s st
  have r2 := hL 2 (by omega) (by omega) (by omega)
  have r6 := hL 6 (by omega) (by omega) (by omega)
  have r7 := hL 7 (by omega) (by omega) (by omega)
  obtain ⟨o1, o2⟩ := ovl_10n (R := R) (s := s) (i := d * 2 + s') (st := st) (by omega)
  unfold cov
  rw [r2, r6, r7, o1, o2]
  have e8 : R 2 d = nI 1 → R 6 (d * 3 + q) = nI s' → ovl R s st 8 (d * 3 + q) = R 8 (d * 3 + q) := fun k1 k2 => by
    rw [ovl_8 hd hq k1]
    obtain ⟨s1, s2⟩ := sn_ok hO.T hd (k1_ne0 k1)
    have hv : R 5 (bn R d * 4 + (sn R d * 3 + q) / 3) = nI d := by rw [show (sn R d * 3 + q) / 3 = sn R d by omega]; exact s2
    cases hz : st (bn R d) (sn R d * 3 + q) with
    | none => rfl
    | some z =>
      obtain ⟨g1, g2⟩ := hst _ _ _ hz
      have ps : SZ R s (bn R d) (sn R d * 3 + q) = _ := psz_c (s := s) (f := fN R s) g2 hd hv k1
      rw [show (sn R d * 3 + q) % 3 = q by omega, k2, if_neg (by rw [nI_eqc (by omega) (by omega)]; exact hne)] at ps
      exact absurd ps g1
  constructor
  · rintro ⟨h1, h2, ⟨k1, k2, k3, k4⟩ | k⟩
    · exact ⟨h1, h2, Or.inl ⟨k1, k2, by rw [← e8 k1 k2]; exact k3, k4⟩⟩
    · exact ⟨h1, h2, Or.inr k⟩
  · rintro ⟨h1, h2, ⟨k1, k2, k3, k4⟩ | k⟩
    · exact ⟨h1, h2, Or.inl ⟨k1, k2, by rw [e8 k1 k2]; exact k3, k4⟩⟩
    · exact ⟨h1, h2, Or.inr k⟩
theorem InvT.b13 {R : RV} (hI : InvT R) {d : Nat} (hd : d < 12) (hk : ¬R 2 d = nI 0) : bn R d < 13 := (hI.bus hd hk).1
/-- a placed part ends within the space -/
theorem stF_ok {R : RV} (hO : OK R) {s b0 x0 : Nat} (hs : s < 2) (hr : PLr R s b0 x0) (b k z : Nat) (hz : stF R s b0 x0 b k = some z) : SZ R s b k ≠ 0 ∧ k < 12 ∧ z < 4096 ∧ z + SZ R s b k ≤ 4096 := by
  have ha := @adr_fac s
  have hL := ovl_L R s (stF R s b0 x0)
  have r2 := hL 2 (by omega) (by omega) (by omega)
  obtain ⟨x, p1, p2, p3, p4⟩ := stF_mem hz
  have hb : b < 13 ∧ (b < 12 → R 2 b = nI 2) := by
    unfold posB at p1
    rw [PO] at p1
    by_cases e : b = b0
    · subst e
      rcases hr with ⟨q, -⟩ | ⟨q1, -, -, q2, -⟩
      · exact ⟨by omega, fun g => by omega⟩
      · exact ⟨by omega, fun _ => q2⟩
    · rw [if_neg e] at p1
      by_cases e2 : b < 12 ∧ R 2 b = nI 2
      · exact ⟨by omega, fun _ => e2.2⟩
      · rw [if_neg e2] at p1; cases p1
  obtain ⟨A, E, m1, m2, m3, m4, m5, m6⟩ := stF_room hO hs hb.1 r2 (posE_ok hO hs hr 5 _ x hb.1 (fun g => ⟨hb.2 g, by have := dq_le hO.T g (k2_ne0 (hb.2 g)); omega⟩) p1) p1 hz
  exact ⟨p4, p3, by omega, by omega⟩
/-- the new rack keeps all -/
theorem OK_ovl {R : RV} (hO : OK R) {s b0 x0 : Nat} (hs : s < 2) (hr : PLr R s b0 x0) (hf : PLf R s b0 x0) : OK (ovl R s (stF R s b0 x0)) := by
  have ha := @adr_fac s
  have hL := ovl_L R s (stF R s b0 x0)
  have r1 := hL 1 (by omega) (by omega) (by omega)
  have r2 := hL 2 (by omega) (by omega) (by omega)
  have r3 := hL 3 (by omega) (by omega) (by omega)
  have r4 := hL 4 (by omega) (by omega) (by omega)
  have r5 := hL 5 (by omega) (by omega) (by omega)
  have r6 := hL 6 (by omega) (by omega) (by omega)
  have r7 := hL 7 (by omega) (by omega) (by omega)
  have r9 := hL 9 (by omega) (by omega) (by omega)
  have r12 := hL 12 (by omega) (by omega) (by omega)
  have r13 := hL 13 (by omega) (by omega) (by omega)
  have hbn := bn_cong r3
  -- where a placed part lies
  have new : ∀ d q z, d < 12 → q < 3 → ¬R 2 d = nI 0 → stF R s b0 x0 (bn R d) (sn R d * 3 + q) = some z → ∃ A E, room (ovl R s (stF R s b0 x0)) s (bn R d) A E ∧ A ≤ z ∧ z + SZ R s (bn R d) (sn R d * 3 + q) ≤ A + E ∧ A + E ≤ adr s ∧ z % AL R s (bn R d) (sn R d * 3 + q) = 0 ∧ 0 < SZ R s (bn R d) (sn R d * 3 + q) := by
    intro d q z hd hq hk hz
    obtain ⟨x, p1, p2, p3, p4⟩ := stF_mem hz
    have hb := hO.T.b13 hd hk
    exact stF_room hO hs hb r2 (posE_ok hO hs hr 5 _ x hb (fun g => ⟨(hO.T.bus hd hk).2.2 g, by have := dq_le hO.T g (k2_ne0 ((hO.T.bus hd hk).2.2 g)); omega⟩) p1) p1 hz
  have hst : ∀ b k z, stF R s b0 x0 b k = some z → SZ R s b k ≠ 0 ∧ k < 12 ∧ z < 4096 ∧ z + SZ R s b k ≤ 4096 := stF_ok hO hs hr
  have old : ∀ d q a n, d < 12 → q < 3 → cov R s d q a n → posB R s b0 x0 (bn R d) = none := fun d q a n hd hq hc => by
    cases hp : posB R s b0 x0 (bn R d) with
    | none => rfl
    | some x =>
      exfalso
      obtain ⟨f1, f2⟩ := hf d hd (cov_k hc) (by rw [hp]; exact fun q => by cases q)
      have hc1 := hc.1
      rcases hc.2.2 with ⟨k1, k2, k3, -⟩ | ⟨-, k1, k2, -⟩
      · rw [f1 q hq k1 k2, n5_ne (by omega)] at k3; exact k3
      · rw [(f2 k1).1, n5_ne (by omega)] at k2; exact k2
  have W8 : ∀ d q, d < 12 → q < 3 → ovl R s (stF R s b0 x0) 8 (d * 3 + q) = -5 ∨ ∃ a, a < 4096 ∧ ovl R s (stF R s b0 x0) 8 (d * 3 + q) = nI a := fun d q hd hq => by
    by_cases k1 : R 2 d = nI 1
    · rw [ovl_8 hd hq k1]
      cases hz : stF R s b0 x0 (bn R d) (sn R d * 3 + q) with
      | none => exact (hO.W hs).1 d q hd hq
      | some z => exact Or.inr ⟨z, (hst _ _ _ hz).2.2.1, rfl⟩
    · rw [ovl_8n hd hq k1]; exact (hO.W hs).1 d q hd hq
  have WS : InvW (ovl R s (stF R s b0 x0)) s := by
    obtain ⟨w1, w2, w3, w4⟩ := hO.W hs
    refine ⟨W8, fun d hd => ?_, fun d q a n hd hq hc => ?_, fun d q d' q' a n a' n' hd hq hd' hq' hne hb hc hc' => ?_⟩
    · by_cases k1 : R 2 d = nI 2
      · obtain ⟨o1, o2⟩ := ovl_10 (st := stF R s b0 x0) hd hs k1
        rw [o1, o2]
        cases hz : stF R s b0 x0 (bn R d) (sn R d * 3) with
        | none => exact w2 d hd
        | some z =>
          obtain ⟨g1, g2, g3, g4⟩ := hst _ _ _ hz
          exact Or.inr ⟨z, _, g3, by omega, rfl, rfl⟩
      · obtain ⟨o1, o2⟩ := ovl_10n (R := R) (s := s) (i := d * 2 + s) (st := stF R s b0 x0) (by rw [show (d * 2 + s) / 2 = d by omega]; exact fun q => k1 q.2)
        rw [o1, o2]; exact w2 d hd
    · rw [hbn]
      rcases cov_new hO hs (fun b k z hz => ⟨(hst b k z hz).1, (hst b k z hz).2.1, (hst b k z hz).2.2.1⟩) hd hq hc with ⟨k0, z1, z2⟩ | ⟨z1, z2⟩
      · obtain ⟨A, E, m1, m2, m3, m4, m5, m6⟩ := new d q a hd hq k0 z1
        obtain ⟨p1, p2, p3⟩ := part_ok hO (s := s) hs (hO.T.b13 hd k0)
        obtain ⟨e, -, e2⟩ := p1 _ (hst _ _ _ z1).2.1 (hst _ _ _ z1).1
        rw [z2]
        exact ⟨m6, mod_dvd m5 ⟨2 ^ e, e2⟩, p2 _, A, E, m1, m2, m3⟩
      · obtain ⟨v1, v2, v3, a0, n0, v4, v5, v6⟩ := w3 d q a n hd hq z2
        refine ⟨v1, v2, v3, a0, n0, ?_, v5, v6⟩
        have hp := old d q a n hd hq z2
        rcases v4 with v4 | ⟨b1, b2, b3, b4, b5, b6⟩
        · exact Or.inl v4
        · have hb0 : ¬bn R d = b0 := fun g => by rw [g, posB_0] at hp; cases hp
          rw [posB_eq hO.T b1 b4 hb0] at hp
          obtain ⟨o1, o2⟩ := ovl_10 (st := stF R s b0 x0) b1 hs b4
          rw [hp] at o1 o2
          exact Or.inr ⟨b1, b2, b3, by rw [r2]; exact b4, o1.trans b5, o2.trans b6⟩
    · rw [hbn] at hb
      have hcn := fun b k z hz => (⟨(hst b k z hz).1, (hst b k z hz).2.1, (hst b k z hz).2.2.1⟩ : SZ R s b k ≠ 0 ∧ k < 12 ∧ z < 4096)
      rcases cov_new hO hs hcn hd hq hc with ⟨k0, z1, z2⟩ | ⟨z1, z2⟩ <;> rcases cov_new hO hs hcn hd' hq' hc' with ⟨k0', y1, y2⟩ | ⟨y1, y2⟩
      · obtain ⟨x, p1, p2, p3, p4⟩ := stF_mem z1
        obtain ⟨x', p1', p2', p3', p4'⟩ := stF_mem y1
        rw [hb, p1'] at p1
        have hxx := Option.some.inj p1
        rw [hxx] at p2'
        rw [z2, y2]
        rw [← hb] at p2' y2
        rw [← hb]
        refine pst_apart (fun g => hne ?_) (IT R s (bn R d)) x (AL_pos hO hs (hO.T.b13 hd k0)) p2 p2'
        obtain ⟨s1, s2⟩ := sn_ok hO.T hd k0
        obtain ⟨s1', s2'⟩ := sn_ok hO.T hd' k0'
        have e1 : sn R d = sn R d' := by omega
        have e2 : q = q' := by omega
        rw [hb, e1, s2', nI_eqc (by omega) (by omega)] at s2
        exact ⟨s2.symm, e2⟩
      · exfalso
        have hp := old d' q' a' n' hd' hq' y2
        rw [← hb] at hp
        obtain ⟨x, p1, -⟩ := stF_mem z1
        rw [hp] at p1; cases p1
      · exfalso
        have hp := old d q a n hd hq z2
        rw [hb] at hp
        obtain ⟨x, p1, -⟩ := stF_mem y1
        rw [hp] at p1; cases p1
      · exact w4 d q d' q' a n a' n' hd hq hd' hq' hne hb z2 y2
  have WO : ∀ s', s' < 2 → ¬s' = s → InvW (ovl R s (stF R s b0 x0)) s' := fun s' hs' hne => by
    obtain ⟨w1, w2, w3, w4⟩ := hO.W hs'
    have hco : ∀ d q a n, d < 12 → q < 3 → (cov (ovl R s (stF R s b0 x0)) s' d q a n ↔ cov R s' d q a n) := fun d q a n hd hq => cov_other hO hs hs' hne (fun b k z hz => ⟨(hst b k z hz).1, (hst b k z hz).2.1⟩) hd hq
    have h10 : ∀ j, ovl R s (stF R s b0 x0) 10 (j * 2 + s') = R 10 (j * 2 + s') ∧ ovl R s (stF R s b0 x0) 11 (j * 2 + s') = R 11 (j * 2 + s') := fun j => ovl_10n (by omega)
    refine ⟨W8, fun d hd => by rw [(h10 d).1, (h10 d).2]; exact w2 d hd, fun d q a n hd hq hc => ?_, fun d q d' q' a n a' n' hd hq hd' hq' hne hb hc hc' => ?_⟩
    · obtain ⟨v1, v2, v3, a0, n0, v4, v5, v6⟩ := w3 d q a n hd hq ((hco d q a n hd hq).mp hc)
      refine ⟨v1, v2, v3, a0, n0, ?_, v5, v6⟩
      rw [hbn]
      unfold room
      rw [r2, (h10 _).1, (h10 _).2]
      exact v4
    · rw [hbn] at hb
      exact w4 d q d' q' a n a' n' hd hq hd' hq' hne hb ((hco d q a n hd hq).mp hc) ((hco d' q' a' n' hd' hq').mp hc')
  have WA : ∀ s', s' < 2 → InvW (ovl R s (stF R s b0 x0)) s' := fun s' hs' => by
    by_cases e : s' = s
    · rw [e]; exact WS
    · exact WO s' hs' e
  obtain ⟨i1, i2, i3, i4, i5, i6, -, -⟩ := hO
  refine ⟨InvT_cong r2 r3 r4 r5 i1, ⟨fun d hd hk q hq => ?_, fun d hd hk => ?_⟩, InvG_cong r1 i3, fun d q hd hq => ?_, InvR_cong r9 i5, InvN_cong r3 r12 r13 i6, WA 0 (by omega), WA 1 (by omega)⟩
  · rw [r2] at hk
    rw [r7, ovl_8n hd hq hk]
    exact i2.1 d hd hk q hq
  · rw [r2] at hk
    obtain ⟨a1, a2, a3⟩ := i2.2 d hd hk
    rw [r12, r13]
    refine ⟨a1, a2, fun s' hs' => ?_⟩
    obtain ⟨o1, o2⟩ := ovl_10n (R := R) (s := s) (i := d * 2 + s') (st := stF R s b0 x0) (by rw [show (d * 2 + s') / 2 = d by omega]; exact fun q => hk q.2)
    rw [o1, o2, r9]
    exact a3 s' hs'
  · rw [r6, r7]
    obtain ⟨sp, s1, s2, s3⟩ := i4 d q hd hq
    refine ⟨sp, s1, s2, s3.imp (fun g => ⟨g.1, ?_⟩) id⟩
    by_cases k1 : R 2 d = nI 1
    · rw [ovl_8 hd hq k1]
      cases hz : stF R s b0 x0 (bn R d) (sn R d * 3 + q) with
      | none => exact g.2
      | some z =>
        exfalso
        obtain ⟨g1, g2, -⟩ := hst _ _ _ hz
        obtain ⟨t1, t2⟩ := sn_ok i1 hd (k1_ne0 k1)
        have hv : R 5 (bn R d * 4 + (sn R d * 3 + q) / 3) = nI d := by rw [show (sn R d * 3 + q) / 3 = sn R d by omega]; exact t2
        have ps : SZ R s (bn R d) (sn R d * 3 + q) = _ := psz_c (s := s) (f := fN R s) g2 hd hv k1
        rw [show (sn R d * 3 + q) % 3 = q by omega, g.1] at ps
        apply g1
        rw [ps]
        split <;> rfl
    · rw [ovl_8n hd hq k1]; exact g.2
