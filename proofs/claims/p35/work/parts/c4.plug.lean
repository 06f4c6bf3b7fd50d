/-! unplugging a card, and plugging it in again -/
theorem anc_no {R : RV} (hI : InvT R) {e : Nat} (hk : R 2 e = nI 1) : ∀ n b, (b < 12 → R 2 b = nI 2) → ¬anc R n b e := by
  intro n
  induction n with
  | zero => intro b _ h; exact h
  | succ n ih =>
    intro b hb h
    obtain ⟨h1, h2⟩ := h
    rcases h2 with rfl | h2
    · rw [hb h1] at hk
      exact absurd hk (by decide)
    · exact ih _ (hI.bus h1 (k2_ne0 (hb h1))).2.2 h2
theorem fam_card {R : RV} (hI : InvT R) {e : Nat} (hk : R 2 e = nI 1) (i : Nat) (hi : i < 12) : famB R e i = true ↔ i = e := by
  unfold famB
  rw [tb_iff]
  constructor
  · rintro ⟨h1, h2⟩
    rcases h2 with h2 | h2
    · exact h2
    · exact absurd h2 (anc_no hI hk 4 _ (hI.bus hi h1).2.2)
  · rintro rfl
    exact ⟨k1_ne0 hk, Or.inl rfl⟩
theorem lostS_one {R : RV} {f : Nat → Bool} {e : Nat} (hf : ∀ i, i < 12 → (f i = true ↔ i = e)) : ∀ n, n ≤ 12 → lostS R f n = if e < n then lost R e else 0 := by
  intro n
  induction n with
  | zero => intro _; rw [if_neg (by omega)]; rfl
  | succ n ih =>
    intro hn
    show lostS R f n + (if f n = true then lost R n else 0) = _
    rw [ih (by omega)]
    by_cases h : n = e
    · subst h
      rw [if_neg (by omega), if_pos ((hf n (by omega)).mpr rfl), if_pos (by omega)]
      omega
    · rw [if_neg (fun q => h ((hf n (by omega)).mp q))]
      by_cases h2 : e < n
      · rw [if_pos h2, if_pos (by omega)]; rfl
      · rw [if_neg h2, if_neg (by omega)]
theorem cnt_lost (R : RV) (e : Nat) : ∀ n, cntP (fun i => i / 3 = e ∧ ¬R 8 i = -5) (3 * n) = if e < n then lost R e else 0 := by
  intro n
  induction n with
  | zero => rw [if_neg (by omega)]; rfl
  | succ n ih =>
    rw [cnt3, ih]
    have h0 : (3 * n) / 3 = n := by omega
    have h1 : (3 * n + 1) / 3 = n := by omega
    have h2 : (3 * n + 2) / 3 = n := by omega
    by_cases h : n = e
    · subst h
      have a1 : (if n < n then lost R n else 0) = 0 := if_neg (by omega)
      have a2 : (if n < n + 1 then lost R n else 0) = lost R n := if_pos (by omega)
      rw [a1, a2]
      unfold lost
      rw [show n * 3 + 0 = 3 * n by omega, show n * 3 + 1 = 3 * n + 1 by omega, show n * 3 + 2 = 3 * n + 2 by omega]
      have t : ∀ x, x / 3 = n → (if x / 3 = n ∧ ¬R 8 x = -5 then 1 else 0) = if R 8 x = -5 then 0 else 1 := fun x hx => by
        by_cases g : R 8 x = -5
        · rw [if_neg (fun q => q.2 g), if_pos g]
        · rw [if_pos ⟨hx, g⟩, if_neg g]
      rw [t _ h0, t _ h1, t _ h2]
      omega
    · have b : ∀ x, x / 3 = n → (if x / 3 = e ∧ ¬R 8 x = -5 then 1 else 0) = 0 := fun x hx => if_neg (fun q => h (by rw [← hx]; exact q.1))
      rw [b _ h0, b _ h1, b _ h2]
      by_cases h4 : e < n
      · have a1 : (if e < n then lost R e else 0) = lost R e := if_pos h4
        have a2 : (if e < n + 1 then lost R e else 0) = lost R e := if_pos (by omega)
        rw [a1, a2]
        rfl
      · have a1 : (if e < n then lost R e else 0) = 0 := if_neg h4
        have a2 : (if e < n + 1 then lost R e else 0) = 0 := if_neg (by omega)
        rw [a1, a2]
theorem lost_le (R : RV) (e : Nat) : lost R e ≤ 3 := by
  unfold lost
  split <;> split <;> split <;> omega
/-- what is unplaced when a card is unplugged -/
theorem upF_rel {R : RV} (hO : OK R) {f : Nat → Bool} {e : Nat} (he : e < 12) (hf : ∀ i, i < 12 → (f i = true ↔ i = e)) : upF (relS R f 12) = upF R + lost R e := by
  have h7 : relS R f 12 7 = R 7 := relS_row (by omega)
  have h := cnt_split (fun i => nI 0 < relS R f 12 7 i ∧ relS R f 12 8 i = -5) (fun i => nI 0 < R 7 i ∧ R 8 i = -5) (fun i => i / 3 = e ∧ ¬R 8 i = -5) (fun i => by
    refine ⟨?_, fun q => q.2.2 q.1.2⟩
    rw [h7]
    by_cases hi : i / 3 = e
    · have hfi : f (i / 3) = true := (hf _ (by omega)).mpr hi
      rw [relS_y (Or.inr (Or.inr (Or.inr ⟨rfl, by omega, hfi⟩)))]
      by_cases g : R 8 i = -5
      · exact ⟨fun q => Or.inl ⟨q.1, g⟩, fun q => ⟨(q.resolve_right (fun q => q.2 g)).1, rfl⟩⟩
      · refine ⟨fun q => Or.inr ⟨hi, g⟩, fun _ => ⟨?_, rfl⟩⟩
        have hi2 : i = i / 3 * 3 + i % 3 := by omega
        rcases hO.rv (j := i / 3) (q := i % 3) (by omega) (by omega) with q | ⟨-, sp, a, n, q1, q2, q3, q4, q5, q6, q7⟩
        · rw [← hi2] at q
          exact absurd q g
        · rw [← hi2] at q7
          rw [q7, nI_ltc (by omega) (by omega)]
          exact q4
    · have e8 : relS R f 12 8 i = R 8 i := by
        unfold relS
        rw [if_neg (by
          rintro (⟨q, -⟩ | ⟨q, -⟩ | ⟨q, -⟩ | ⟨-, q1, q2⟩)
          · omega
          · omega
          · omega
          · exact hi ((hf _ q1).mp q2)), if_neg (by omega)]
      rw [e8]
      exact ⟨fun q => Or.inl q, fun q => q.resolve_right (fun g => hi g.1)⟩) 36
  have h2 := cnt_lost R e 12
  rw [if_pos he] at h2
  unfold upF
  rw [h, show (36 : Nat) = 3 * 12 from rfl, h2]
/-- a step of plugging in -/
theorem upF_CStep {R R' : RV} {j q c : Nat} (hO : OK R) (hj : j < 12) (hq : q < 3) (hs : CStep R j q R' c) : upF R' + c = upF R := by
  rcases hs with ⟨-, rfl, rfl⟩ | ⟨s, n, v, g1, g2, g3, g4, g5, g6, g7, rfl, rfl⟩
  · rfl
  · rcases FSp_v g7 with rfl | ⟨y, hy, rfl⟩
    · rw [u2_same g6, if_pos rfl]
      rfl
    · rw [if_neg (fun q => by rw [nI_ne5 (by omega)] at q; exact q)]
      have h := cnt_split (fun i => nI 0 < R 7 i ∧ R 8 i = -5) (fun i => nI 0 < u2 R 8 (j * 3 + q) (nI y) 7 i ∧ u2 R 8 (j * 3 + q) (nI y) 8 i = -5) (fun i => i = j * 3 + q) (fun i => by
        rw [u2_row (by omega)]
        by_cases hi : i = j * 3 + q
        · subst hi
          rw [u2_s]
          refine ⟨⟨fun _ => Or.inr rfl, fun _ => ⟨by rw [g5, nI_ltc (by omega) (by omega)]; omega, g6⟩⟩, fun g => ?_⟩
          have := g.1.2
          rw [nI_ne5 (by omega)] at this
          exact this
        · rw [u2_o _ _ (fun g => hi g.2)]
          exact ⟨⟨fun g => Or.inl g, fun g => g.resolve_right hi⟩, fun g => hi g.2⟩) 36
      rw [cnt_eq1 (j * 3 + q) 36 (by omega)] at h
      exact h.symm
/-- bases are added alone -/
def Ext (R R' : RV) : Prop := (∀ a, ¬a = 8 → R' a = R a) ∧ ∀ i, ¬R 8 i = -5 → R' 8 i = R 8 i
theorem Ext.r (R : RV) : Ext R R := ⟨fun _ _ => rfl, fun _ _ => rfl⟩
theorem Ext.t {R R' R'' : RV} (h : Ext R R') (h' : Ext R' R'') : Ext R R'' := ⟨fun a ha => (h'.1 a ha).trans (h.1 a ha), fun i hi => (h'.2 i (by rw [h.2 i hi]; exact hi)).trans (h.2 i hi)⟩
theorem CStep_ext {R R' : RV} {j q c : Nat} (hs : CStep R j q R' c) : Ext R R' := by
  rcases hs with ⟨-, rfl, -⟩ | ⟨s, n, v, g1, g2, g3, g4, g5, g6, g7, rfl, -⟩
  · exact Ext.r _
  · exact ⟨fun a ha => u2_row ha, fun i hi => u2_o _ _ (fun g => hi (by rw [g.2]; exact g6))⟩
theorem FSp_no {R : RV} {s b n m : Nat} (h : FSp R s b n m (-5)) : ∀ A E, room R s b A E → ∀ y, y % m = 0 → A ≤ y → y + n ≤ A + E → ¬FR R s b n y := by
  rcases h with ⟨y, A, E, g1, g2, g3, g4, g5, g6, g7⟩ | ⟨h, -⟩
  · have : A + E ≤ 8192 := by
      rcases g1 with ⟨-, q1, q2⟩ | ⟨-, q1, q2, -⟩
      · have := @adr_le s
        omega
      · omega
    rw [n5_ne (by omega)] at g7
    exact g7.elim
  · exact h
theorem FSp_ext {R R' : RV} (hx : Ext R R') {s b n m : Nat} (h : FSp R s b n m (-5)) : FSp R' s b n m (-5) := by
  have h0 := FSp_no h
  refine Or.inr ⟨fun A E hr y h1 h2 h3 hF => ?_, rfl⟩
  have hr0 : room R s b A E := by
    rcases hr with q | ⟨q1, q2, q3, q4, q5, q6⟩
    · exact Or.inl q
    · rw [hx.1 2 (by omega)] at q4
      rw [hx.1 10 (by omega)] at q5
      rw [hx.1 11 (by omega)] at q6
      exact Or.inr ⟨q1, q2, q3, q4, q5, q6⟩
  refine h0 A E hr0 y h1 h2 h3 (fun i a c hi hc => hF i a c hi ?_)
  obtain ⟨j, j1, j2, j3, j4, j5⟩ := hc
  refine ⟨j, j1, by rw [hx.1 5 (by omega)]; exact j2, j3, j4, ?_⟩
  rcases j5 with ⟨k1, k2, k3, k4⟩ | ⟨k1, k2, k3, k4⟩
  · refine Or.inl ⟨by rw [hx.1 2 (by omega)]; exact k1, by rw [hx.1 6 (by omega)]; exact k2, ?_, by rw [hx.1 7 (by omega)]; exact k4⟩
    rw [hx.2 _ (by rw [k3, nI_ne5 (by omega)]; exact id)]
    exact k3
  · exact Or.inr ⟨k1, by rw [hx.1 2 (by omega)]; exact k2, by rw [hx.1 10 (by omega)]; exact k3, by rw [hx.1 11 (by omega)]; exact k4⟩
theorem bn_ext {R R' : RV} (hx : Ext R R') : bn R' = bn R := bn_cong (hx.1 3 (by omega))
theorem CStep_done {R R' : RV} {j q c : Nat} (hs : CStep R j q R' c) : CStep R' j q R' 0 := by
  rcases hs with ⟨h, rfl, -⟩ | ⟨s, n, v, g1, g2, g3, g4, g5, g6, g7, rfl, -⟩
  · exact Or.inl ⟨h, rfl, rfl⟩
  · rcases FSp_v g7 with rfl | ⟨y, hy, rfl⟩
    · rw [u2_same g6]
      exact Or.inr ⟨s, n, -5, g1, g2, g3, g4, g5, g6, g7, (u2_same g6).symm, by rw [if_pos rfl]⟩
    · refine Or.inl ⟨fun q => ?_, rfl, rfl⟩
      have := q.2
      rw [u2_s, nI_ne5 (by omega)] at this
      exact this
theorem CStep_stay {R R' : RV} {j q : Nat} (hx : Ext R R') (hs : CStep R j q R 0) : CStep R' j q R' 0 := by
  by_cases hc : ¬R' 7 (j * 3 + q) = nI 0 ∧ R' 8 (j * 3 + q) = -5
  · have h8 : R 8 (j * 3 + q) = -5 := by
      by_cases g : R 8 (j * 3 + q) = -5
      · exact g
      · have := hx.2 _ g
        rw [hc.2] at this
        exact absurd this.symm g
    rcases hs with ⟨h, -, -⟩ | ⟨s, n, v, g1, g2, g3, g4, g5, g6, g7, g8, -⟩
    · exact absurd ⟨by rw [← hx.1 7 (by omega)]; exact hc.1, h8⟩ h
    · have hv : v = -5 := by
        have := congrFun (congrFun g8 8) (j * 3 + q)
        rw [u2_s, h8] at this
        exact this.symm
      subst hv
      refine Or.inr ⟨s, n, -5, g1, g2, g3, by rw [hx.1 6 (by omega)]; exact g4, by rw [hx.1 7 (by omega)]; exact g5, hc.2, ?_, (u2_same hc.2).symm, by rw [if_pos rfl]⟩
      rw [bn_ext hx]
      exact FSp_ext hx g7
  · exact Or.inl ⟨hc, rfl, rfl⟩
theorem numb_ext {R R' : RV} (hx : Ext R R') {b nb la : Nat} (h : numb R b nb la) : numb R' b nb la := by
  rcases h with q | ⟨q1, q2⟩
  · exact Or.inl q
  · refine Or.inr ⟨q1, ?_⟩
    unfold numd at *
    rw [hx.1 12 (by omega), hx.1 13 (by omega)]
    exact q2
/-- nothing has a base on a bus without a number -/
theorem no_base {R : RV} (hO : OK R) (hX : OX R) {e : Nat} (he : e < 12) (b1 : bn R e < 12) (b3 : R 12 (bn R e) = -5) : lost R e = 0 := by
  have h : ∀ q, q < 3 → R 8 (e * 3 + q) = -5 := fun q hq => by
    rcases hO.rv he hq with g | ⟨g1, s, a, n, g2, g3, g4, g5, g6, g7, g8⟩
    · exact g
    · obtain ⟨-, -, -, a0, n0, r, -⟩ := (hO.W g2).2.2.1 e q a n he hq ⟨g3, by omega, Or.inl ⟨g1, g6, g7, g8⟩⟩
      rcases r with ⟨r, -⟩ | ⟨-, r1, -, -, r2, -⟩
      · omega
      · exact absurd b3 (hX.2 _ s b1 g2 (by rw [r2, nI_ne5 (by omega)]; exact id))
  unfold lost
  rw [if_pos (h 0 (by omega)), if_pos (h 1 (by omega)), if_pos (h 2 (by omega))]
