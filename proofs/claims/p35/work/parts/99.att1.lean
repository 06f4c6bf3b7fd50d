/-! attaching: what becomes of a rack -/
theorem psz_L {R R' : RV} (h : SameL R R') (s : Nat) (f : Nat → Nat) (b : Nat) : psz R' s f b = psz R s f b := by
  funext k
  unfold psz
  rw [h 5 (by omega) (by omega) (by omega), h 2 (by omega) (by omega) (by omega), h 6 (by omega) (by omega) (by omega), h 7 (by omega) (by omega) (by omega), h 12 (by omega) (by omega) (by omega)]
theorem pal_L {R R' : RV} (h : SameL R R') (s : Nat) (f a : Nat → Nat) (b : Nat) : pal R' s f a b = pal R s f a b := by
  funext k
  unfold pal
  rw [psz_L h, h 5 (by omega) (by omega) (by omega), h 2 (by omega) (by omega) (by omega), h 7 (by omega) (by omega) (by omega)]
theorem nda_L {R R' : RV} (h : SameL R R') (s : Nat) : ∀ n b, nda R' s n b = nda R s n b := by
  intro n
  induction n with
  | zero => intro b; rfl
  | succ n ih =>
    intro b
    have e : nda R' s n = nda R s n := funext ih
    rw [nda, nda, e, psz_L h, pal_L h, h 9 (by omega) (by omega) (by omega)]
theorem fN_L {R R' : RV} (h : SameL R R') (s : Nat) : fN R' s = fN R s ∧ aN R' s = aN R s := by
  have hq : ∀ j, dq R' j = dq R j := fun j => by
    unfold dq
    rw [dpt_cong (h 2 (by omega) (by omega) (by omega)) (h 3 (by omega) (by omega) (by omega)), bn_cong (h 3 (by omega) (by omega) (by omega))]
  constructor
  · funext j
    unfold fN
    rw [hq, nda_L h]
  · funext j
    unfold aN
    rw [hq, nda_L h]
theorem u2_same {R : RV} {a i : Nat} {x : Int32} (h : R a i = x) : u2 R a i x = R := by
  funext a' i'
  by_cases q : a' = a ∧ i' = i
  · obtain ⟨rfl, rfl⟩ := q
    rw [u2_s, h]
  · rw [u2_o _ _ q]
theorem cov_CP {R : RV} (hI : InvT R) {s d q a n : Nat} (hd : d < 12) (hq : q < 3) (hc : cov R s d q a n) : CP R s (bn R d) (sn R d * 3 + q) a n ∧ sn R d * 3 + q < 12 := by
  obtain ⟨s1, s2⟩ := sn_ok hI hd (cov_k hc)
  refine ⟨⟨d, hd, ?_, ?_⟩, by omega⟩
  · rw [show (sn R d * 3 + q) / 3 = sn R d by omega]; exact s2
  · rw [show (sn R d * 3 + q) % 3 = q by omega]; exact hc
/-- a region gets its first fit -/
theorem OK_u8 {R : RV} (hO : OK R) {j q s n : Nat} {v : Int32} (hj : j < 12) (hq : q < 3) (hs : s < 2) (h2 : R 2 j = nI 1) (h6 : R 6 (j * 3 + q) = nI s) (h7 : R 7 (j * 3 + q) = nI n) (hn : n ≤ 1024) (h8 : R 8 (j * 3 + q) = -5) (hn0 : n ≠ 0) (hv : FSp R s (bn R j) n n v) : OK (u2 R 8 (j * 3 + q) v) := by
  rcases hv with ⟨y, A, E, hr, y1, y2, y3, y4, -, rfl⟩ | ⟨-, rfl⟩
  case inr => rw [u2_same h8]; exact hO
  have hb := hO.T.b13 hj (k1_ne0 h2)
  have ha := @adr_fac s
  have hAE := room_adr (hO.W hs) 4 (bn R j) A E (hO.T.2.2.2 j hj (k1_ne0 h2)) hr
  obtain ⟨e, he, h7e⟩ : ∃ e, e ≤ lex s ∧ n = grn s * 2 ^ e := by
    obtain ⟨sp, s1, s2, s3⟩ := hO.2.2.2.1 j q hj hq
    rw [h6, nI_eqc (by omega) (by omega)] at s2
    subst s2
    rcases s3 with ⟨s4, -⟩ | ⟨e, he, s4⟩
    · rw [h7, nI_eqc (by omega) (by omega)] at s4; exact absurd s4 hn0
    · have := sz_lt he
      rw [h7, nI_eqc (by omega) (by omega)] at s4
      exact ⟨e, he, s4⟩
  have row : ∀ a, ¬a = 8 → u2 R 8 (j * 3 + q) (nI y) a = R a := fun a h => u2_row h
  have hbn := bn_cong (row 3 (by omega))
  have oth : ∀ d q', q' < 3 → ¬(d = j ∧ q' = q) → u2 R 8 (j * 3 + q) (nI y) 8 (d * 3 + q') = R 8 (d * 3 + q') := fun d q' hq' h => u2_o _ _ (by omega)
  have cv : ∀ s' d q' a n', q' < 3 → ¬(d = j ∧ q' = q ∧ s' = s) → s' < 2 → (cov (u2 R 8 (j * 3 + q) (nI y)) s' d q' a n' ↔ cov R s' d q' a n') := fun s' d q' a n' hq' h hs' => by
    unfold cov
    rw [row 2 (by omega), row 6 (by omega), row 7 (by omega), row 10 (by omega), row 11 (by omega)]
    by_cases g : d = j ∧ q' = q
    · obtain ⟨rfl, rfl⟩ := g
      have hss : ¬s' = s := fun z => h ⟨rfl, rfl, z⟩
      have h6' : ¬R 6 (d * 3 + q') = nI s' := by rw [h6, nI_eqc (by omega) (by omega)]; exact fun z => hss z.symm
      constructor
      · rintro ⟨a1, a2, ⟨-, z, -⟩ | z⟩
        · exact absurd z h6'
        · exact ⟨a1, a2, Or.inr z⟩
      · rintro ⟨a1, a2, ⟨-, z, -⟩ | z⟩
        · exact absurd z h6'
        · exact ⟨a1, a2, Or.inr z⟩
    · rw [oth d q' hq' g]
  have cvj : ∀ a n', cov (u2 R 8 (j * 3 + q) (nI y)) s j q a n' → a = y ∧ n' = n := fun a n' ⟨a1, a2, a3⟩ => by
    rw [row 2 (by omega), row 7 (by omega), u2_s] at a3
    rcases a3 with ⟨-, -, z1, z2⟩ | ⟨-, z, -⟩
    · rw [nI_eqc (by omega) (by omega)] at z1
      rw [h7, nI_eqc (by omega) (by omega)] at z2
      exact ⟨z1.symm, z2.symm⟩
    · rw [h2] at z; exact absurd z (by decide)
  have rm : ∀ s' b A E, room (u2 R 8 (j * 3 + q) (nI y)) s' b A E ↔ room R s' b A E := fun s' b A E => by
    unfold room
    rw [row 2 (by omega), row 10 (by omega), row 11 (by omega)]
  have W : ∀ s', s' < 2 → InvW (u2 R 8 (j * 3 + q) (nI y)) s' := fun s' hs' => by
    obtain ⟨w1, w2, w3, w4⟩ := hO.W hs'
    refine ⟨fun d q' hd hq' => ?_, fun d hd => ?_, fun d q' a n' hd hq' hc => ?_, fun d q' d' q'' a n' a' n'' hd hq' hd' hq'' hne hbb hc hc' => ?_⟩
    · by_cases g : d = j ∧ q' = q
      · obtain ⟨rfl, rfl⟩ := g
        rw [u2_s]
        exact Or.inr ⟨y, by omega, rfl⟩
      · rw [oth d q' hq' g]; exact w1 d q' hd hq'
    · rw [row 10 (by omega), row 11 (by omega)]; exact w2 d hd
    · rw [hbn]
      by_cases g : d = j ∧ q' = q ∧ s' = s
      · obtain ⟨rfl, rfl, rfl⟩ := g
        obtain ⟨rfl, rfl⟩ := cvj a n' hc
        refine ⟨by omega, ?_, ?_, A, E, (rm _ _ _ _).mpr hr, y2, y3⟩
        · exact mod_dvd y1 ⟨2 ^ e, h7e⟩
        · rw [h7e]; exact Nat.mul_mod_right _ _
      · obtain ⟨v1, v2, v3, a0, n0, v4, v5, v6⟩ := w3 d q' a n' hd hq' ((cv s' d q' a n' hq' g hs').mp hc)
        exact ⟨v1, v2, v3, a0, n0, (rm _ _ _ _).mpr v4, v5, v6⟩
    · rw [hbn] at hbb
      by_cases g : d = j ∧ q' = q ∧ s' = s
      · obtain ⟨rfl, rfl, rfl⟩ := g
        obtain ⟨rfl, rfl⟩ := cvj a n' hc
        have hc' := (cv s' d' q'' a' n'' hq'' (fun z => hne ⟨z.1.symm, z.2.1.symm⟩) hs').mp hc'
        obtain ⟨c1, c2⟩ := cov_CP hO.T hd' hq'' hc'
        rw [← hbb] at c1
        have := y4 _ a' n'' c2 c1
        omega
      · by_cases g' : d' = j ∧ q'' = q ∧ s' = s
        · obtain ⟨rfl, rfl, rfl⟩ := g'
          obtain ⟨rfl, rfl⟩ := cvj a' n'' hc'
          have hc := (cv s' d q' a n' hq' g hs').mp hc
          obtain ⟨c1, c2⟩ := cov_CP hO.T hd hq' hc
          rw [hbb] at c1
          have := y4 _ a n' c2 c1
          omega
        · exact w4 d q' d' q'' a n' a' n'' hd hq' hd' hq'' hne hbb ((cv s' d q' a n' hq' g hs').mp hc) ((cv s' d' q'' a' n'' hq'' g' hs').mp hc')
  obtain ⟨i1, i2, i3, i4, i5, i6, -, -⟩ := hO
  refine ⟨InvT_cong (row 2 (by omega)) (row 3 (by omega)) (row 4 (by omega)) (row 5 (by omega)) i1, ⟨fun d hd hk q' hq' => ?_, ?_⟩, InvG_cong (row 1 (by omega)) i3, fun d q' hd hq' => ?_, InvR_cong (row 9 (by omega)) i5, InvN_cong (row 3 (by omega)) (row 12 (by omega)) (row 13 (by omega)) i6, W 0 (by omega), W 1 (by omega)⟩
  · rw [row 2 (by omega)] at hk
    rw [row 7 (by omega), oth d q' hq' (fun z => hk (by rw [z.1]; exact h2))]
    exact i2.1 d hd hk q' hq'
  · rw [row 2 (by omega), row 12 (by omega), row 13 (by omega), row 10 (by omega), row 11 (by omega), row 9 (by omega)]
    exact i2.2
  · rw [row 6 (by omega), row 7 (by omega)]
    by_cases g : d = j ∧ q' = q
    · obtain ⟨rfl, rfl⟩ := g
      exact ⟨s, hs, h6, Or.inr ⟨e, he, by rw [h7, h7e]⟩⟩
    · rw [oth d q' hq' g]; exact i4 d q' hd hq'
/-- v is the least number that a bridge can get -/
def fnum (R : RV) (j n : Nat) : Prop := ∀ d x y, d < 12 → bn R d = bn R j → numd R d x y → ¬(x ≤ n ∧ n ≤ y)
def numb (R : RV) (b nb la : Nat) : Prop := (b = 12 ∧ nb = 0 ∧ la = 15) ∨ (b < 12 ∧ numd R b nb la)
def NSp (R : RV) (j : Nat) (v : Int32) : Prop := ∃ nb la, numb R (bn R j) nb la ∧ ((∃ n, nb < n ∧ n ≤ la ∧ fnum R j n ∧ (∀ m, nb < m → m < n → ¬fnum R j m) ∧ v = nI n) ∨ ((∀ n, nb < n → n ≤ la → ¬fnum R j n) ∧ v = -5))
theorem numb_one {R : RV} {b nb la nb' la' : Nat} (h : numb R b nb la) (h' : numb R b nb' la') : nb' = nb ∧ la' = la := by
  rcases h with ⟨h1, h2, h3⟩ | ⟨h1, h2, h3, h4, h5, h6⟩ <;> rcases h' with ⟨g1, g2, g3⟩ | ⟨g1, g2, g3, g4, g5, g6⟩
  · omega
  · omega
  · omega
  · rw [h2, nI_eqc (by omega) (by omega)] at g2
    rw [h3, nI_eqc (by omega) (by omega)] at g3
    exact ⟨g2.symm, g3.symm⟩
theorem NSp_one {R : RV} {j : Nat} {v v' : Int32} (h : NSp R j v) (h' : NSp R j v') : v' = v := by
  obtain ⟨nb, la, h1, h2⟩ := h
  obtain ⟨nb', la', g1, g2⟩ := h'
  obtain ⟨rfl, rfl⟩ := numb_one h1 g1
  rcases h2 with ⟨n, a1, a2, a3, a4, rfl⟩ | ⟨a1, rfl⟩ <;> rcases g2 with ⟨m, b1, b2, b3, b4, rfl⟩ | ⟨b1, rfl⟩
  · have n1 : ¬m < n := fun q => a4 m b1 q b3
    have n2 : ¬n < m := fun q => b4 n a1 q a3
    rw [show m = n by omega]
  · exact absurd a3 (b1 n a1 a2)
  · exact absurd b3 (a1 m b1 b2)
  · rfl
/-- a bridge gets a number -/
theorem OK_num {R : RV} (hO : OK R) {j n : Nat} (hj : j < 12) (h2 : R 2 j = nI 2) (h12 : R 12 j = -5) (hv : NSp R j (nI n)) (hn : n < 2147483648) : OK (u2 (u2 R 12 j (nI n)) 13 j (nI n)) := by
  obtain ⟨nb, la, h1, hh⟩ := hv
  have hla : 0 ≤ nb ∧ la ≤ 15 := by
    rcases h1 with ⟨-, q1, q2⟩ | ⟨-, q⟩
    · omega
    · exact ⟨Nat.zero_le _, q.2.2.2.2⟩
  rcases hh with ⟨n', a1, a2, a3, a4, e⟩ | ⟨-, e⟩
  case inr => rw [nI_ne5 hn] at e; exact e.elim
  rw [nI_eqc hn (by omega)] at e
  subst e
  have row : ∀ a, ¬a = 12 → ¬a = 13 → u2 (u2 R 12 j (nI n)) 13 j (nI n) a = R a := fun a h h' => by rw [u2_row h', u2_row h]
  have hbn := bn_cong (row 3 (by omega) (by omega))
  have oth : ∀ d, ¬d = j → u2 (u2 R 12 j (nI n)) 13 j (nI n) 12 d = R 12 d ∧ u2 (u2 R 12 j (nI n)) 13 j (nI n) 13 d = R 13 d := fun d h => ⟨by rw [u2_row (by omega), u2_o _ _ (by omega)], by rw [u2_o _ _ (by omega), u2_row (by omega)]⟩
  have at12 : u2 (u2 R 12 j (nI n)) 13 j (nI n) 12 j = nI n := by rw [u2_row (by omega), u2_s]
  have nd : ∀ d x y, ¬d = j → (numd (u2 (u2 R 12 j (nI n)) 13 j (nI n)) d x y ↔ numd R d x y) := fun d x y h => by
    unfold numd
    rw [(oth d h).1, (oth d h).2]
  have ndj : ∀ x y, numd (u2 (u2 R 12 j (nI n)) 13 j (nI n)) j x y → x = n ∧ y = n := fun x y ⟨q1, q2, q3, q4, q5⟩ => by
    rw [at12, nI_eqc (by omega) (by omega)] at q1
    rw [u2_s, nI_eqc (by omega) (by omega)] at q2
    exact ⟨q1.symm, q2.symm⟩
  have hbj := hO.T.bus hj (k2_ne0 h2)
  obtain ⟨i1, i2, i3, i4, i5, i6, i7, i8⟩ := hO
  have hW : ∀ s', InvW R s' → InvW (u2 (u2 R 12 j (nI n)) 13 j (nI n)) s' := fun s' h => InvW_cong (row 2 (by omega) (by omega)) (row 3 (by omega) (by omega)) (row 6 (by omega) (by omega)) (row 7 (by omega) (by omega)) (row 8 (by omega) (by omega)) (row 10 (by omega) (by omega)) (row 11 (by omega) (by omega)) h
  refine ⟨InvT_cong (row 2 (by omega) (by omega)) (row 3 (by omega) (by omega)) (row 4 (by omega) (by omega)) (row 5 (by omega) (by omega)) i1, ⟨?_, fun d hd hk => ?_⟩, InvG_cong (row 1 (by omega) (by omega)) i3, InvS_cong (row 6 (by omega) (by omega)) (row 7 (by omega) (by omega)) (row 8 (by omega) (by omega)) i4, InvR_cong (row 9 (by omega) (by omega)) i5, ⟨fun d hd => ?_, fun d x y hd hn => ?_, fun d d' x y x' y' hd hd' hne hb hn hn' => ?_⟩, hW 0 i7, hW 1 i8⟩
  · rw [row 2 (by omega) (by omega), row 7 (by omega) (by omega), row 8 (by omega) (by omega)]
    exact i2.1
  · rw [row 2 (by omega) (by omega)] at hk
    have hdj : ¬d = j := fun q => hk (by rw [q]; exact h2)
    rw [(oth d hdj).1, (oth d hdj).2, row 10 (by omega) (by omega), row 11 (by omega) (by omega), row 9 (by omega) (by omega)]
    exact i2.2 d hd hk
  · by_cases q : d = j
    · subst q
      exact Or.inr ⟨n, n, at12, u2_s _ _ _ _, by omega, by omega, by omega⟩
    · rw [(oth d q).1, (oth d q).2]
      rcases i6.1 d hd with g | ⟨a, b, g⟩
      · exact Or.inl g
      · exact Or.inr ⟨a, b, (nd d a b q).mpr g⟩
  · rw [hbn]
    by_cases q : d = j
    · subst q
      obtain ⟨rfl, rfl⟩ := ndj x y hn
      rcases h1 with ⟨q1, q2, q3⟩ | ⟨q1, q2⟩
      · exact Or.inl q1
      · refine Or.inr ⟨nb, la, (nd _ nb la (fun z => ?_)).mpr q2, by omega, by omega⟩
        have := q2.1
        rw [z, h12, n5_ne (by have := q2.2.2.2; omega)] at this
        exact this
    · rcases i6.2.1 d x y hd ((nd d x y q).mp hn) with g | ⟨a', b', g1, g2, g3⟩
      · exact Or.inl g
      · refine Or.inr ⟨a', b', (nd _ a' b' (fun z => ?_)).mpr g1, g2, g3⟩
        have := g1.1
        rw [z, h12, n5_ne (by have := g1.2.2.2; omega)] at this
        exact this
  · rw [hbn] at hb
    by_cases q : d = j
    · subst q
      obtain ⟨rfl, rfl⟩ := ndj x y hn
      have g := (nd d' x' y' (fun z => hne z.symm)).mp hn'
      have := a3 d' x' y' hd' hb.symm g
      omega
    · by_cases q' : d' = j
      · subst q'
        obtain ⟨rfl, rfl⟩ := ndj x' y' hn'
        have g := (nd d x y q).mp hn
        have := a3 d x y hd hb g
        omega
      · exact i6.2.2 d d' x y x' y' hd hd' hne hb ((nd d x y q).mp hn) ((nd d' x' y' q').mp hn')
/-- the window of a bridge opened -/
def opn (R : RV) (s j y : Nat) : RV := u2 (u2 R 10 (j * 2 + s) (nI y)) 11 (j * 2 + s) (nI (fN R s j))
theorem opn_L (R : RV) (s j y : Nat) : SameL R (opn R s j y) := fun a _ h2 h3 => by
  unfold opn
  rw [u2_row h3, u2_row h2]
/-- without a room nothing below has a place -/
theorem no_cov {R : RV} (hO : OK R) {s b : Nat} (hs : s < 2) (h : ∀ A E, ¬room R s b A E) {d q a n : Nat} (hd : d < 12) (hq : q < 3) (hb : bn R d = b) : ¬cov R s d q a n := fun hc => by
  obtain ⟨-, -, -, a0, n0, r, -⟩ := (hO.W hs).2.2.1 d q a n hd hq hc
  rw [hb] at r
  exact h a0 n0 r
theorem no_win {R : RV} (hO : OK R) {s d : Nat} (hs : s < 2) (hd : d < 12) (hk : R 2 d = nI 2) (h : ∀ A E, ¬room R s (bn R d) A E) : R 10 (d * 2 + s) = -5 ∧ R 11 (d * 2 + s) = nI 0 ∧ ∀ A E, ¬room R s d A E := by
  rcases (hO.W hs).2.1 d hd with ⟨g1, g2⟩ | ⟨a, n, g1, g2, g3, g4⟩
  · refine ⟨g1, g2, ?_⟩
    rintro A E (⟨q, -⟩ | ⟨q1, q2, q3, q4, q5, q6⟩)
    · omega
    · rw [g1, n5_ne (by omega)] at q5; exact q5
  · exact absurd (⟨g1, g2, Or.inr ⟨rfl, hk, g3, g4⟩⟩ : cov R s d 0 a n) (no_cov hO hs h hd (by omega) rfl)
theorem no_bel {R : RV} (hO : OK R) {s j : Nat} (hs : s < 2) (hj : j < 12) (hk : R 2 j = nI 2) (h0 : ∀ A E, ¬room R s j A E) : ∀ n b, b < 12 → R 2 b = nI 2 → dq R b < n → (b = j ∨ bel R j b) → ∀ A E, ¬room R s b A E := by
  intro n
  induction n with
  | zero => intro b _ _ h; omega
  | succ n ih =>
    intro b hb h2 hd hbl
    by_cases q : b = j
    · rw [q]; exact h0
    · have hbl := hbl.resolve_left q
      have : ∀ A E, ¬room R s (bn R b) A E := by
        rcases bel_up hO.T hb h2 hbl with g | ⟨g1, g2, g3⟩
        · rw [g]; exact h0
        · have := dq_s hO.T hb (k2_ne0 h2) g1
          exact ih (bn R b) g1 g2 (by omega) (Or.inr g3)
      exact (no_win hO hs hb h2 this).2.2
/-- a bridge gets a window at its first fit -/
theorem OK_opn {R : RV} (hO : OK R) {s j y : Nat} (hs : s < 2) (hj : j < 12) (h2 : R 2 j = nI 2) (h10 : R 10 (j * 2 + s) = -5) (hv : FSp R s (bn R j) (fN R s j) (aN R s j) (nI y)) (hy : y < 2147483648) (hf0 : fN R s j ≠ 0) : OK (opn R s j y) ∧ PLr (opn R s j y) s j y ∧ PLf (opn R s j y) s j y ∧ PLg (opn R s j y) s j := by
  rcases hv with ⟨y', A, E, hr, y1, y2, y3, y4, -, e⟩ | ⟨-, e⟩
  case inr => rw [nI_ne5 hy] at e; exact e.elim
  have ha := @adr_fac s
  have hAE := room_adr (hO.W hs) 4 (bn R j) A E (hO.T.2.2.2 j hj (k2_ne0 h2)) hr
  rw [nI_eqc hy (by omega)] at e
  subst e
  obtain ⟨n1, n2, ⟨e, e1, e2⟩, -⟩ := need_ok hO hs hj h2
  have hL := opn_L R s j y
  have row : ∀ a, ¬a = 10 → ¬a = 11 → opn R s j y a = R a := fun a h h' => by unfold opn; rw [u2_row h', u2_row h]
  have hbn := bn_cong (row 3 (by omega) (by omega))
  have at10 : opn R s j y 10 (j * 2 + s) = nI y := by unfold opn; rw [u2_row (by omega), u2_s]
  have at11 : opn R s j y 11 (j * 2 + s) = nI (fN R s j) := by unfold opn; rw [u2_s]
  have oth : ∀ i, ¬i = j * 2 + s → opn R s j y 10 i = R 10 i ∧ opn R s j y 11 i = R 11 i := fun i h => by
    unfold opn
    exact ⟨by rw [u2_row (by omega), u2_o _ _ (by omega)], by rw [u2_o _ _ (by omega), u2_row (by omega)]⟩
  have h0 : ∀ A E, ¬room R s j A E := by
    rintro A E (⟨q, -⟩ | ⟨q1, q2, q3, q4, q5, q6⟩)
    · omega
    · rw [h10, n5_ne (by omega)] at q5; exact q5
  have cv : ∀ s' d q a n, s' < 2 → ¬(d = j ∧ s' = s) → (cov (opn R s j y) s' d q a n ↔ cov R s' d q a n) := fun s' d q a n hs' h => by
    unfold cov
    rw [row 2 (by omega) (by omega), row 6 (by omega) (by omega), row 7 (by omega) (by omega), row 8 (by omega) (by omega), (oth (d * 2 + s') (by omega)).1, (oth (d * 2 + s') (by omega)).2]
  have cvj : ∀ q a n, cov (opn R s j y) s j q a n → q = 0 ∧ a = y ∧ n = fN R s j := fun q a n ⟨a1, a2, a3⟩ => by
    rw [row 2 (by omega) (by omega), at10, at11] at a3
    rcases a3 with ⟨z, -⟩ | ⟨z0, -, z1, z2⟩
    · rw [h2] at z; exact absurd z (by decide)
    · rw [nI_eqc (by omega) (by omega)] at z1 z2
      exact ⟨z0, z1.symm, z2.symm⟩
  have rm : ∀ s' b A E, s' < 2 → room R s' b A E → room (opn R s j y) s' b A E := fun s' b A E hs' h => by
    rcases h with h | ⟨q1, q2, q3, q4, q5, q6⟩
    · exact Or.inl h
    · have hne : ¬b * 2 + s' = j * 2 + s := fun z => by
        rw [z, h10, n5_ne (by omega)] at q5; exact q5
      exact Or.inr ⟨q1, q2, q3, by rw [row 2 (by omega) (by omega)]; exact q4, by rw [(oth _ hne).1]; exact q5, by rw [(oth _ hne).2]; exact q6⟩
  have W : ∀ s', s' < 2 → InvW (opn R s j y) s' := fun s' hs' => by
    obtain ⟨w1, w2, w3, w4⟩ := hO.W hs'
    refine ⟨fun d q hd hq => by rw [row 8 (by omega) (by omega)]; exact w1 d q hd hq, fun d hd => ?_, fun d q a n hd hq hc => ?_, fun d q d' q' a n a' n' hd hq hd' hq' hne hbb hc hc' => ?_⟩
    · by_cases g : d * 2 + s' = j * 2 + s
      · rw [g, at10, at11]
        exact Or.inr ⟨y, fN R s j, by omega, by omega, rfl, rfl⟩
      · rw [(oth _ g).1, (oth _ g).2]; exact w2 d hd
    · rw [hbn]
      by_cases g : d = j ∧ s' = s
      · obtain ⟨rfl, rfl⟩ := g
        obtain ⟨rfl, rfl, rfl⟩ := cvj q a n hc
        exact ⟨by omega, mod_dvd y1 ⟨2 ^ e, e2⟩, n2, A, E, rm _ _ _ _ hs hr, y2, y3⟩
      · obtain ⟨v1, v2, v3, a0, n0, v4, v5, v6⟩ := w3 d q a n hd hq ((cv s' d q a n hs' g).mp hc)
        exact ⟨v1, v2, v3, a0, n0, rm _ _ _ _ hs' v4, v5, v6⟩
    · rw [hbn] at hbb
      by_cases g : d = j ∧ s' = s
      · obtain ⟨rfl, rfl⟩ := g
        obtain ⟨rfl, rfl, rfl⟩ := cvj q a n hc
        have hdd : ¬(d' = d ∧ s' = s') := fun z => by
          have h3 := hc'
          rw [z.1] at h3
          have := (cvj q' a' n' h3).1
          exact hne ⟨z.1.symm, this.symm⟩
        have hc' := (cv s' d' q' a' n' hs' hdd).mp hc'
        obtain ⟨c1, c2⟩ := cov_CP hO.T hd' hq' hc'
        rw [← hbb] at c1
        have := y4 _ a' n' c2 c1
        omega
      · by_cases g' : d' = j ∧ s' = s
        · obtain ⟨rfl, rfl⟩ := g'
          obtain ⟨rfl, rfl, rfl⟩ := cvj q' a' n' hc'
          have hc := (cv s' d q a n hs' g).mp hc
          obtain ⟨c1, c2⟩ := cov_CP hO.T hd hq hc
          rw [hbb] at c1
          have := y4 _ a n c2 c1
          omega
        · exact w4 d q d' q' a n a' n' hd hq hd' hq' hne hbb ((cv s' d q a n hs' g).mp hc) ((cv s' d' q' a' n' hs' g').mp hc')
  have hfL := fN_L hL s
  have hbelL : ∀ b, bel (opn R s j y) j b ↔ bel R j b := fun b => by
    unfold bel
    rw [hbn, anc_cong (row 3 (by omega) (by omega))]
  have hO' : OK (opn R s j y) := by
    obtain ⟨i1, i2, i3, i4, i5, i6, -, -⟩ := hO
    refine ⟨InvT_cong (row 2 (by omega) (by omega)) (row 3 (by omega) (by omega)) (row 4 (by omega) (by omega)) (row 5 (by omega) (by omega)) i1, ⟨?_, fun d hd hk => ?_⟩, InvG_cong (row 1 (by omega) (by omega)) i3, InvS_cong (row 6 (by omega) (by omega)) (row 7 (by omega) (by omega)) (row 8 (by omega) (by omega)) i4, InvR_cong (row 9 (by omega) (by omega)) i5, InvN_cong (row 3 (by omega) (by omega)) (row 12 (by omega) (by omega)) (row 13 (by omega) (by omega)) i6, W 0 (by omega), W 1 (by omega)⟩
    · rw [row 2 (by omega) (by omega), row 7 (by omega) (by omega), row 8 (by omega) (by omega)]
      exact i2.1
    · rw [row 2 (by omega) (by omega)] at hk
      have hdj : ¬d = j := fun q => hk (by rw [q]; exact h2)
      rw [row 12 (by omega) (by omega), row 13 (by omega) (by omega), row 9 (by omega) (by omega)]
      obtain ⟨a1, a2, a3⟩ := i2.2 d hd hk
      refine ⟨a1, a2, fun s' hs' => ?_⟩
      rw [(oth (d * 2 + s') (by omega)).1, (oth (d * 2 + s') (by omega)).2]
      exact a3 s' hs'
  refine ⟨hO', Or.inr ⟨hj, by omega, by rw [hfL.1]; omega, by rw [row 2 (by omega) (by omega)]; exact h2, at10, by rw [hfL.1]; exact at11, by rw [hfL.2]; exact y1⟩, fun d hd hk hp => ?_, fun b hb hk hbl => ?_⟩
  · have hk' : ¬R 2 d = nI 0 := by rw [row 2 (by omega) (by omega)] at hk; exact hk
    have hbb := hO'.T.b13 hd hk
    rw [hbn] at hp hbb
    have hno : ∀ A E, ¬room R s (bn R d) A E := by
      rcases posB_bel hO'.T 5 (bn R d) hbb (fun g g2 => by have := dq_le hO'.T g (k2_ne0 g2); omega) hp with q | ⟨q1, q2, q3⟩
      · rw [q]; exact h0
      · rw [row 2 (by omega) (by omega)] at q2
        exact no_bel hO hs hj h2 h0 5 (bn R d) q1 q2 (by have := dq_le hO.T q1 (k2_ne0 q2); omega) (Or.inr ((hbelL _).mp q3))
    refine ⟨fun q hq k1 k6 => ?_, fun k2 => ?_⟩
    · rw [row 2 (by omega) (by omega)] at k1
      rw [row 6 (by omega) (by omega)] at k6
      rw [row 8 (by omega) (by omega)]
      rcases hO.rv hd hq with g | ⟨-, sp, a, n, v1, v2, v3, v4, v5, v6, v7⟩
      · exact g
      · exact absurd (⟨v2, by omega, Or.inl ⟨k1, k6, v6, v7⟩⟩ : cov R s d q a n) (no_cov hO hs hno hd hq rfl)
    · rw [row 2 (by omega) (by omega)] at k2
      have hdj : ¬d * 2 + s = j * 2 + s := fun z => by
        have : d = j := by omega
        rw [this] at hno
        exact hno A E hr
      rw [(oth _ hdj).1, (oth _ hdj).2]
      have := no_win hO hs hd k2 hno
      exact ⟨this.1, this.2.1⟩
  · rw [row 2 (by omega) (by omega)] at hk
    have hbl := (hbelL b).mp hbl
    have hne : ¬b = j := fun z => by
      rw [z] at hbl
      have := bel_dq hO.T hj hj h2 hbl
      omega
    rw [(oth (b * 2 + s) (by omega)).1]
    have hno : ∀ A E, ¬room R s (bn R b) A E := by
      rcases bel_up hO.T hb hk hbl with q | ⟨q1, q2, q3⟩
      · rw [q]; exact h0
      · exact no_bel hO hs hj h2 h0 5 (bn R b) q1 q2 (by have := dq_le hO.T q1 (k2_ne0 q2); omega) (Or.inr q3)
    exact (no_win hO hs hb hk hno).1
