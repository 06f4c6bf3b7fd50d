/-! placing: reference -/
theorem RelB_u8 {R mu : RV} (h : RelB R (fun t => mu 106 t)) {j q : Nat} (hj : j < 12) (hq : q < 3) (x : Int32) : RelB (u2 R 8 (j * 3 + q) x) (fun t => u2 mu 106 (20 * j + 3 + 3 * q + 2) x 106 t) := by
  refine RelB_of ?_ (fun d hd => ?_)
  · show u2 mu 106 (20 * j + 3 + 3 * q + 2) x 106 240 = _
    rw [u2_o _ _ (by omega), u2_row (by omega)]
    exact h.1
  · by_cases e : d = j
    · subst e
      obtain ⟨h0, h1⟩ := h.dv hd
      refine ⟨?_, fun hk => ?_⟩
      · show u2 mu 106 (20 * d + 3 + 3 * q + 2) x 106 (20 * d) = _
        rw [u2_o _ _ (by omega), u2_row (by omega)]
        exact h0
      · rw [u2_row (by omega)] at hk
        obtain ⟨a1, a2, a3, a4, a5, a6⟩ := h1 hk
        refine ⟨?_, ?_, fun q' hq' => ⟨?_, ?_, fun hz => ?_⟩, ?_, ?_, fun s hs => ⟨?_, ?_, ?_⟩⟩
        · show u2 mu 106 (20 * d + 3 + 3 * q + 2) x 106 (20 * d + 1) = _
          rw [u2_o _ _ (by omega), u2_row (by omega)]; exact a1
        · show u2 mu 106 (20 * d + 3 + 3 * q + 2) x 106 (20 * d + 2) = _
          rw [u2_o _ _ (by omega), u2_row (by omega)]; exact a2
        · show u2 mu 106 (20 * d + 3 + 3 * q + 2) x 106 (20 * d + 3 + 3 * q' + 1) = _
          rw [u2_o _ _ (by omega), u2_row (by omega)]; exact (a3 q' hq').1
        · show u2 mu 106 (20 * d + 3 + 3 * q + 2) x 106 (20 * d + 3 + 3 * q' + 2) = _
          by_cases hqq : q' = q
          · subst hqq
            rw [u2_s, u2_s]
          · rw [u2_o _ _ (by omega), u2_o _ _ (by omega)]; exact (a3 q' hq').2.1
        · show u2 mu 106 (20 * d + 3 + 3 * q + 2) x 106 (20 * d + 3 + 3 * q') = _
          rw [u2_row (by omega)] at hz
          rw [u2_o _ _ (by omega), u2_row (by omega)]; exact (a3 q' hq').2.2 hz
        · show u2 mu 106 (20 * d + 3 + 3 * q + 2) x 106 (20 * d + 12) = _
          rw [u2_o _ _ (by omega), u2_row (by omega)]; exact a4
        · show u2 mu 106 (20 * d + 3 + 3 * q + 2) x 106 (20 * d + 13) = _
          rw [u2_o _ _ (by omega), u2_row (by omega)]; exact a5
        · show u2 mu 106 (20 * d + 3 + 3 * q + 2) x 106 (20 * d + 14 + s) = _
          rw [u2_o _ _ (by omega), u2_row (by omega)]; exact (a6 s hs).1
        · show u2 mu 106 (20 * d + 3 + 3 * q + 2) x 106 (20 * d + 16 + s) = _
          rw [u2_o _ _ (by omega), u2_row (by omega)]; exact (a6 s hs).2.1
        · show u2 mu 106 (20 * d + 3 + 3 * q + 2) x 106 (20 * d + 18 + s) = _
          rw [u2_o _ _ (by omega), u2_row (by omega)]; exact (a6 s hs).2.2
    · exact RelD_cong (h.dv hd) (fun k hk => u2_o _ _ (by omega)) (fun a ha => by rw [u2_row (by omega)]) (fun a q' ha hq' => u2_o _ _ (by omega)) (fun a s ha hs => by rw [u2_row (by omega)])
theorem RelB_u10 {R mu : RV} (h : RelB R (fun t => mu 106 t)) {j s : Nat} (hj : j < 12) (hs : s < 2) (x y : Int32) : RelB (u2 (u2 R 10 (j * 2 + s) x) 11 (j * 2 + s) y) (fun t => u2 (u2 mu 106 (20 * j + 14 + s) x) 106 (20 * j + 16 + s) y 106 t) := by
  refine RelB_of ?_ (fun d hd => ?_)
  · show u2 (u2 mu 106 (20 * j + 14 + s) x) 106 (20 * j + 16 + s) y 106 240 = _
    rw [u2_o _ _ (by omega), u2_o _ _ (by omega), u2_row (by omega), u2_row (by omega)]
    exact h.1
  · by_cases e : d = j
    · subst e
      obtain ⟨h0, h1⟩ := h.dv hd
      have B : ∀ t, ¬t = 20 * d + 14 + s → ¬t = 20 * d + 16 + s → u2 (u2 mu 106 (20 * d + 14 + s) x) 106 (20 * d + 16 + s) y 106 t = mu 106 t := fun t h1 h2 => by rw [u2_o _ _ (by omega), u2_o _ _ (by omega)]
      have RR : ∀ a, ¬a = 10 → ¬a = 11 → u2 (u2 R 10 (d * 2 + s) x) 11 (d * 2 + s) y a = R a := fun a h1 h2 => by rw [u2_row h2, u2_row h1]
      refine ⟨?_, fun hk => ?_⟩
      · show u2 (u2 mu 106 (20 * d + 14 + s) x) 106 (20 * d + 16 + s) y 106 (20 * d) = _
        rw [B _ (by omega) (by omega), RR 2 (by omega) (by omega)]
        exact h0
      · rw [RR 2 (by omega) (by omega)] at hk
        obtain ⟨a1, a2, a3, a4, a5, a6⟩ := h1 hk
        refine ⟨?_, ?_, fun q' hq' => ⟨?_, ?_, fun hz => ?_⟩, ?_, ?_, fun s' hs' => ⟨?_, ?_, ?_⟩⟩
        · show u2 (u2 mu 106 (20 * d + 14 + s) x) 106 (20 * d + 16 + s) y 106 (20 * d + 1) = _
          rw [B _ (by omega) (by omega), RR 3 (by omega) (by omega)]; exact a1
        · show u2 (u2 mu 106 (20 * d + 14 + s) x) 106 (20 * d + 16 + s) y 106 (20 * d + 2) = _
          rw [B _ (by omega) (by omega), RR 4 (by omega) (by omega)]; exact a2
        · show u2 (u2 mu 106 (20 * d + 14 + s) x) 106 (20 * d + 16 + s) y 106 (20 * d + 3 + 3 * q' + 1) = _
          rw [B _ (by omega) (by omega), RR 7 (by omega) (by omega)]; exact (a3 q' hq').1
        · show u2 (u2 mu 106 (20 * d + 14 + s) x) 106 (20 * d + 16 + s) y 106 (20 * d + 3 + 3 * q' + 2) = _
          rw [B _ (by omega) (by omega), RR 8 (by omega) (by omega)]; exact (a3 q' hq').2.1
        · show u2 (u2 mu 106 (20 * d + 14 + s) x) 106 (20 * d + 16 + s) y 106 (20 * d + 3 + 3 * q') = _
          rw [RR 7 (by omega) (by omega)] at hz
          rw [B _ (by omega) (by omega), RR 6 (by omega) (by omega)]; exact (a3 q' hq').2.2 hz
        · show u2 (u2 mu 106 (20 * d + 14 + s) x) 106 (20 * d + 16 + s) y 106 (20 * d + 12) = _
          rw [B _ (by omega) (by omega), RR 12 (by omega) (by omega)]; exact a4
        · show u2 (u2 mu 106 (20 * d + 14 + s) x) 106 (20 * d + 16 + s) y 106 (20 * d + 13) = _
          rw [B _ (by omega) (by omega), RR 13 (by omega) (by omega)]; exact a5
        · show u2 (u2 mu 106 (20 * d + 14 + s) x) 106 (20 * d + 16 + s) y 106 (20 * d + 14 + s') = _
          by_cases hss : s' = s
          · subst hss
            rw [u2_o _ _ (by omega), u2_s, u2_row (by omega), u2_s]
          · rw [B _ (by omega) (by omega), u2_row (by omega), u2_o _ _ (by omega)]; exact (a6 s' hs').1
        · show u2 (u2 mu 106 (20 * d + 14 + s) x) 106 (20 * d + 16 + s) y 106 (20 * d + 16 + s') = _
          by_cases hss : s' = s
          · subst hss
            rw [u2_s, u2_s]
          · rw [B _ (by omega) (by omega), u2_o _ _ (by omega), u2_row (by omega)]; exact (a6 s' hs').2.1
        · show u2 (u2 mu 106 (20 * d + 14 + s) x) 106 (20 * d + 16 + s) y 106 (20 * d + 18 + s') = _
          rw [B _ (by omega) (by omega), RR 9 (by omega) (by omega)]; exact (a6 s' hs').2.2
    · exact RelD_cong (h.dv hd) (fun k hk => by
        show u2 (u2 mu 106 (20 * j + 14 + s) x) 106 (20 * j + 16 + s) y 106 (20 * d + k) = _
        rw [u2_o _ _ (by omega), u2_o _ _ (by omega)]) (fun a ha => by rw [u2_row (by omega), u2_row (by omega)]) (fun a q' ha hq' => by rw [u2_row (by omega), u2_row (by omega)]) (fun a s' ha hs' => by
        rw [u2_o _ _ (by omega), u2_o _ _ (by omega)])
/-- starts of bus b out of f, else as before -/
def stP (st : Nat → Nat → Option Nat) (b : Nat) (f : Nat → Option Nat) : Nat → Nat → Option Nat := fun b' k => if b' = b then (match f k with
  | some z => some z
  | none => st b k) else st b' k
theorem stP_y {st : Nat → Nat → Option Nat} {sz al : Nat → Nat} {lim pos b x : Nat} {l : List Nat} (h : up pos (al x) + sz x ≤ lim) : stP st b (pst sz al lim pos (x :: l)) = stP (st1 st b x (up pos (al x))) b (pst sz al lim (up pos (al x) + sz x) l) := by
  funext b' k
  unfold stP
  by_cases hb : b' = b
  · subst hb
    rw [if_pos rfl, if_pos rfl, pst, if_pos h]
    cases pst sz al lim (up pos (al x) + sz x) l k with
    | some z => rfl
    | none =>
      show (match (if k = x then some (up pos (al x)) else none) with | some z => some z | none => st b' k) = st1 st b' x (up pos (al x)) b' k
      by_cases hk : k = x
      · subst hk
        rw [if_pos rfl, st1_s]
      · rw [if_neg hk, st1_o (fun q => hk q.2)]
  · rw [if_neg hb, if_neg hb, st1_o (fun q => hb q.1)]
theorem stP_n {st : Nat → Nat → Option Nat} {sz al : Nat → Nat} {lim pos b x : Nat} {l : List Nat} (h : ¬up pos (al x) + sz x ≤ lim) : stP st b (pst sz al lim pos (x :: l)) = stP st b (pst sz al lim pos l) := by
  have : pst sz al lim pos (x :: l) = pst sz al lim pos l := by
    funext k
    rw [pst, if_neg h]
  rw [this]
theorem stP_0 {st : Nat → Nat → Option Nat} {sz al : Nat → Nat} {lim pos b : Nat} : stP st b (pst sz al lim pos []) = st := by
  funext b' k
  unfold stP
  by_cases hb : b' = b
  · subst hb; rw [if_pos rfl]; rfl
  · rw [if_neg hb]
/-- only the current rack, the items and the count of gained bases differ -/
def FrR (mu mu' : RV) : Prop := (∀ r, ¬r = 105 → ¬r = 106 → (r < 110 ∨ 113 < r) → mu' r = mu r) ∧ (∀ i, ¬i = 7 → ¬i = 13 → mu' 105 i = mu 105 i) ∧ ∀ t, 240 ≤ t → mu' 106 t = mu 106 t
theorem FrR.tr {mu mu1 mu2 : RV} (h : FrR mu mu1) (h' : FrR mu1 mu2) : FrR mu mu2 := ⟨fun r g1 g2 g3 => by rw [h'.1 r g1 g2 g3, h.1 r g1 g2 g3], fun i g1 g2 => by rw [h'.2.1 i g1 g2, h.2.1 i g1 g2], fun t ht => by rw [h'.2.2 t ht, h.2.2 t ht]⟩
theorem FrR.rfl' (mu : RV) : FrR mu mu := ⟨fun _ _ _ _ => rfl, fun _ _ _ => rfl, fun _ _ => rfl⟩
theorem FrI.R {mu mu' : RV} (h : FrI mu mu') : FrR mu mu' := ⟨fun r g1 _ g3 => h.1 r g1 g3, fun i g1 _ => h.2 i g1, fun t _ => by rw [h.1 106 (by omega) (by omega)]⟩
section
variable (d L : Nat) (p : Nat → Nat)
theorem m_placesI {R : RV} (hO : OK R) {s b lim : Nat} (hs : s < 2) (hb : b < 13) (hlim : lim ≤ 4096) (a3 : Int32) (N : Nat) (hN : N ≤ 12) : ∀ l i pos mu st g (w7 w8 : AV), i + l.length = N → Rep (pv R s b) i l mu → (∀ x, x ∈ l → x < 12 ∧ SZ R s b x ≠ 0) → ndp l → (∀ y, y ∈ l → st b y = none) → RelB (ovl R s st) (fun t => mu 106 t) → mu 105 7 = nI N → mu 105 13 = nI g → pos ≤ lim →
    ∃ mu' g', zsem (d + 1) 151 12 [.inr (some 105), .inl (nI b), .inl (nI s), .inl a3, .inl (nI lim), .inl (nI pos), .inl (nI i), w7, w8] [] (HH L mu p) = some (none, HH L mu' p) ∧ RelB (ovl R s (stP st b (pst (SZ R s b) (AL R s b) lim pos l))) (fun t => mu' 106 t) ∧ mu' 105 13 = nI g' ∧ g' + TC R st = g + TC R (stP st b (pst (SZ R s b) (AL R s b) lim pos l)) ∧ FrR mu mu' := by
  obtain ⟨p1, p2, p3⟩ := part_ok hO (s := s) (b := b) hs hb
  intro l
  induction l with
  | nil =>
    intro i pos mu st g w7 w8 hi hR hx hn hst hB h7 h13 hpos
    have : i = N := by simpa using hi
    subst this
    refine ⟨mu, g, ?_, by rw [stP_0]; exact hB, h13, by rw [stP_0], FrR.rfl' mu⟩
    rw [h151_12]
    simp (disch := first | omega | assumption) only [h151_0, h151_1, h151_2, h151_3, h151_6, h151_7, h151_9, h151_10, h151_14, h151_15, h151_18, h151_21, h151_23, h151_24, h151_27, h151_29, h151_30, h151_33, h151_35, h151_36, h151_39, h151_41, h151_42, h151_44, h151_46, h151_47, h151_50, h151_52, h151_53, h151_54, h151_56, h151_59, h151_62, h151_64, h151_65, h151_68, h151_70, h151_71, h151_72, h151_74, h151_75, h151_78, h151_80, h151_81, h151_83, h151_86, h151_87, h151_90, h151_92, h151_95, h151_97, h151_98, h151_99, h151_100, h151_102, h151_103, h151_104, h151_107, h151_109, h151_112, h151_114, h151_115, h151_116, h151_117, h151_118, h151_121, h151_123, h151_124, h151_125, h151_128, h151_129, h151_132, h151_134, h151_135, h151_138, h151_140, h151_141, h151_144, h151_145, h151_146, h151_148, h151_149, h151_150, h151_151, h151_154, h151_155, h151_156, h151_159, h151_162, h151_165, Option.bind_some, Option.toList_some, Option.toList_none, List.cons_append, List.nil_append, nI_ltc, nI_lec, nI_eqc, nI_ne5, n5_ne, n5_lt, bI_0, bI_1, nI_add, pk_mul, if_pos, if_neg, ite_not, if_true, if_false, not_true_eq_false, not_false_eq_true, true_and, false_and, and_true, and_false, Nat.reduceAdd, Nat.reduceMul, h7]
  | cons x l ih =>
    intro i pos mu st g w7 w8 hi hR hx hn hst hB h7 h13 hpos
    rw [List.length_cons] at hi
    obtain ⟨x1, x2⟩ := hx x (List.mem_cons_self ..)
    obtain ⟨e, e1, e2⟩ := p1 x x1 x2
    have hal := sz_lt e1
    have hszx := p3 x
    obtain ⟨b0, b1, b2, b3⟩ := hR 0 x rfl
    have b0 : mu 110 i = R 5 (b * 4 + x / 3) := b0
    have b1 : mu 111 i = if R 2 (vn (R 5 (b * 4 + x / 3))) = nI 1 then nI (x % 3) else -5 := b1
    have b2 : mu 112 i = nI (SZ R s b x) := b2
    have b3 : mu 113 i = nI (AL R s b x) := b3
    have hR' : ∀ mu1 : RV, (∀ r, 110 ≤ r → r ≤ 113 → mu1 r = mu r) → Rep (pv R s b) (i + 1) l mu1 := fun mu1 h t y hy => by
      have := hR (t + 1) y hy
      rw [h 110 (by omega) (by omega), h 111 (by omega) (by omega), h 112 (by omega) (by omega), h 113 (by omega) (by omega), show i + 1 + t = i + (t + 1) by omega]
      exact this
    have hl : ∀ y, y ∈ l → y < 12 ∧ SZ R s b y ≠ 0 := fun y hy => hx y (List.mem_cons_of_mem _ hy)
    have hal1 := fun mu => m_aligned d L p mu pos (AL R s b x) (by omega) (by omega)
    have hul := @up_lt pos (AL R s b x) (by omega)
    rcases slot_of hO.T hb x1 with hv | ⟨j, hj, hv, hbj, h1⟩
    · exact absurd (psz_n hv) x2
    rw [hv] at b0 b1
    rw [vn_n (by omega)] at b1
    by_cases hfit : up pos (AL R s b x) + SZ R s b x ≤ lim
    · rw [stP_y hfit]
      have hst1 : ∀ y, y ∈ l → st1 st b x (up pos (AL R s b x)) b y = none := fun y hy => by
        rw [st1_o (fun q => hn.1 (by rw [← q.2]; exact hy))]
        exact hst y (List.mem_cons_of_mem _ hy)
      rcases h1 with h1 | h1
      · rw [if_pos h1] at b1
        have hB1 : RelB (ovl R s (st1 st b x (up pos (AL R s b x)))) (fun t => u2 (u2 mu 106 (20 * j + 3 + 3 * (x % 3) + 2) (nI (up pos (AL R s b x)))) 105 13 (nI (g + 1)) 106 t) := by
          rw [ovl_c hO.T hb x1 hj hv h1]
          refine RelB_cong (RelB_u8 hB hj (show x % 3 < 3 by omega) (nI (up pos (AL R s b x)))) (fun t _ => ?_)
          rw [u2_row (by omega)]
        obtain ⟨mu', g', g1, g2, g3, g4, g5⟩ := ih (i + 1) (up pos (AL R s b x) + SZ R s b x) (u2 (u2 mu 106 (20 * j + 3 + 3 * (x % 3) + 2) (nI (up pos (AL R s b x)))) 105 13 (nI (g + 1))) (st1 st b x (up pos (AL R s b x))) (g + 1) (.inl (nI (up pos (AL R s b x)))) (.inl (nI j)) (by omega) (hR' _ (fun r q1 q2 => by rw [u2_row (by omega), u2_row (by omega)])) hl hn.2 hst1 hB1 (by rw [u2_o _ _ (by omega), u2_row (by omega)]; exact h7) (u2_s _ _ _ _) hfit
        have hT := TC_c hO.T (z := up pos (AL R s b x)) hb x1 hj hv h1 (hst x (List.mem_cons_self ..))
        refine ⟨mu', g', ?_, g2, g3, by omega, FrR.tr ⟨fun r q1 q2 _ => by rw [u2_row q1, u2_row q2], fun t q1 q2 => by rw [u2_o _ _ (by omega), u2_row (by omega)], fun t ht => by rw [u2_row (by omega), u2_o _ _ (by omega)]⟩ g5⟩
        have ok5 : ¬nI (x % 3) = -5 := fun q => by rw [nI_ne5 (by omega)] at q; exact q
        rw [← g1, h151_12]
        simp (disch := first | omega | assumption) only [h151_0, h151_1, h151_2, h151_3, h151_6, h151_7, h151_9, h151_10, h151_14, h151_15, h151_18, h151_21, h151_23, h151_24, h151_27, h151_29, h151_30, h151_33, h151_35, h151_36, h151_39, h151_41, h151_42, h151_44, h151_46, h151_47, h151_50, h151_52, h151_53, h151_54, h151_56, h151_59, h151_62, h151_64, h151_65, h151_68, h151_70, h151_71, h151_72, h151_74, h151_75, h151_78, h151_80, h151_81, h151_83, h151_86, h151_87, h151_90, h151_92, h151_95, h151_97, h151_98, h151_99, h151_100, h151_102, h151_103, h151_104, h151_107, h151_109, h151_112, h151_114, h151_115, h151_116, h151_117, h151_118, h151_121, h151_123, h151_124, h151_125, h151_128, h151_129, h151_132, h151_134, h151_135, h151_138, h151_140, h151_141, h151_144, h151_145, h151_146, h151_148, h151_149, h151_150, h151_151, h151_154, h151_155, h151_156, h151_159, h151_162, h151_165, Option.bind_some, Option.toList_some, Option.toList_none, List.cons_append, List.nil_append, nI_ltc, nI_lec, nI_eqc, nI_ne5, n5_ne, n5_lt, bI_0, bI_1, nI_add, pk_mul, if_pos, if_neg, ite_not, if_true, if_false, not_true_eq_false, not_false_eq_true, true_and, false_and, and_true, and_false, Nat.reduceAdd, Nat.reduceMul, h7, b3, hal1, b0, b2, b1, ok5, m_regionAt, u2_oa, h13]
      · rw [if_neg (by rw [h1]; decide)] at b1
        have hk0 : x % 3 = 0 := by
          have ps : SZ R s b x = _ := psz_b (s := s) (f := fN R s) x1 hj hv h1
          by_cases q : ¬R 12 j = -5 ∧ x % 3 = 0
          · exact q.2
          · rw [if_neg q] at ps; exact absurd ps x2
        have hB1 : RelB (ovl R s (st1 st b x (up pos (AL R s b x)))) (fun t => u2 (u2 mu 106 (20 * j + 14 + s) (nI (up pos (AL R s b x)))) 106 (20 * j + 16 + s) (nI (SZ R s b x)) 106 t) := by
          rw [ovl_b hO.T hs hb x1 hj hk0 hv h1]
          exact RelB_u10 hB hj hs _ _
        obtain ⟨mu', g', g1, g2, g3, g4, g5⟩ := ih (i + 1) (up pos (AL R s b x) + SZ R s b x) (u2 (u2 mu 106 (20 * j + 14 + s) (nI (up pos (AL R s b x)))) 106 (20 * j + 16 + s) (nI (SZ R s b x))) (st1 st b x (up pos (AL R s b x))) g (.inl (nI (up pos (AL R s b x)))) (.inl (nI j)) (by omega) (hR' _ (fun r q1 q2 => by rw [u2_row (by omega), u2_row (by omega)])) hl hn.2 hst1 hB1 (by rw [u2_row (by omega), u2_row (by omega)]; exact h7) (by rw [u2_row (by omega), u2_row (by omega)]; exact h13) hfit
        have hT := TC_b hO.T (st := st) (z := up pos (AL R s b x)) hb x1 hj hv h1
        refine ⟨mu', g', ?_, g2, g3, by omega, FrR.tr ⟨fun r q1 q2 _ => by rw [u2_row q2, u2_row q2], fun t q1 q2 => by rw [u2_row (by omega), u2_row (by omega)], fun t ht => by rw [u2_o _ _ (by omega), u2_o _ _ (by omega)]⟩ g5⟩
        rw [← g1, h151_12]
        simp (disch := first | omega | assumption) only [h151_0, h151_1, h151_2, h151_3, h151_6, h151_7, h151_9, h151_10, h151_14, h151_15, h151_18, h151_21, h151_23, h151_24, h151_27, h151_29, h151_30, h151_33, h151_35, h151_36, h151_39, h151_41, h151_42, h151_44, h151_46, h151_47, h151_50, h151_52, h151_53, h151_54, h151_56, h151_59, h151_62, h151_64, h151_65, h151_68, h151_70, h151_71, h151_72, h151_74, h151_75, h151_78, h151_80, h151_81, h151_83, h151_86, h151_87, h151_90, h151_92, h151_95, h151_97, h151_98, h151_99, h151_100, h151_102, h151_103, h151_104, h151_107, h151_109, h151_112, h151_114, h151_115, h151_116, h151_117, h151_118, h151_121, h151_123, h151_124, h151_125, h151_128, h151_129, h151_132, h151_134, h151_135, h151_138, h151_140, h151_141, h151_144, h151_145, h151_146, h151_148, h151_149, h151_150, h151_151, h151_154, h151_155, h151_156, h151_159, h151_162, h151_165, Option.bind_some, Option.toList_some, Option.toList_none, List.cons_append, List.nil_append, nI_ltc, nI_lec, nI_eqc, nI_ne5, n5_ne, n5_lt, bI_0, bI_1, nI_add, pk_mul, if_pos, if_neg, ite_not, if_true, if_false, not_true_eq_false, not_false_eq_true, true_and, false_and, and_true, and_false, Nat.reduceAdd, Nat.reduceMul, h7, b3, hal1, b0, b2, b1, m_at, u2_oa]
    · rw [stP_n hfit]
      obtain ⟨mu', g', g1, g2, g3, g4, g5⟩ := ih (i + 1) pos mu st g (.inl (nI (up pos (AL R s b x)))) (.inl (nI j)) (by omega) (hR' mu (fun r _ _ => rfl)) hl hn.2 (fun y hy => hst y (List.mem_cons_of_mem _ hy)) hB h7 h13 hpos
      refine ⟨mu', g', ?_, g2, g3, g4, g5⟩
      rw [← g1, h151_12]
      simp (disch := first | omega | assumption) only [h151_0, h151_1, h151_2, h151_3, h151_6, h151_7, h151_9, h151_10, h151_14, h151_15, h151_18, h151_21, h151_23, h151_24, h151_27, h151_29, h151_30, h151_33, h151_35, h151_36, h151_39, h151_41, h151_42, h151_44, h151_46, h151_47, h151_50, h151_52, h151_53, h151_54, h151_56, h151_59, h151_62, h151_64, h151_65, h151_68, h151_70, h151_71, h151_72, h151_74, h151_75, h151_78, h151_80, h151_81, h151_83, h151_86, h151_87, h151_90, h151_92, h151_95, h151_97, h151_98, h151_99, h151_100, h151_102, h151_103, h151_104, h151_107, h151_109, h151_112, h151_114, h151_115, h151_116, h151_117, h151_118, h151_121, h151_123, h151_124, h151_125, h151_128, h151_129, h151_132, h151_134, h151_135, h151_138, h151_140, h151_141, h151_144, h151_145, h151_146, h151_148, h151_149, h151_150, h151_151, h151_154, h151_155, h151_156, h151_159, h151_162, h151_165, Option.bind_some, Option.toList_some, Option.toList_none, List.cons_append, List.nil_append, nI_ltc, nI_lec, nI_eqc, nI_ne5, n5_ne, n5_lt, bI_0, bI_1, nI_add, pk_mul, if_pos, if_neg, ite_not, if_true, if_false, not_true_eq_false, not_false_eq_true, true_and, false_and, and_true, and_false, Nat.reduceAdd, Nat.reduceMul, h7, b3, hal1, b0, b2]
/-- the items of one bus are placed -/
theorem m_places {R : RV} (hO : OK R) {s b : Nat} (hs : s < 2) (hb : b < 13) (x : Nat) (hx : x ≤ adr s) (mu : RV) (st : Nat → Nat → Option Nat) (g : Nat) (hst : ∀ k, st b k = none) (hB : RelB (ovl R s st) (fun t => mu 106 t)) (hM : LayM R s b mu) (h13 : mu 105 13 = nI g) :
    ∃ mu' g', zsem (d + 4) 151 0 [.inr (some 105), .inl (nI b), .inl (nI s), .inl (nI x), .inl (nI (adr s)), .inr none, .inr none, .inr none, .inr none] [] (HH L mu p) = some (none, HH L mu' p) ∧ RelB (ovl R s (stP st b (pst (SZ R s b) (AL R s b) (adr s) x (IT R s b)))) (fun t => mu' 106 t) ∧ mu' 105 13 = nI g' ∧ g' + TC R st = g + TC R (stP st b (pst (SZ R s b) (AL R s b) (adr s) x (IT R s b))) ∧ FrR mu mu' := by
  have ha := @adr_fac s
  obtain ⟨mu1, e1, e2, e3, e4⟩ := m_lists d L p hO hs hb mu (RelL_of hO.T (ovl_L R s st) hB) hM
  obtain ⟨mu', g', g1, g2, g3, g4, g5⟩ := m_placesI (d + 3) L p hO hs hb (by omega) (nI x) (IT R s b).length (itl_len 12) (IT R s b) 0 x mu1 st g (.inr none) (.inr none) (by omega) e2 (fun y hy => (itl_mem 12).mp hy) (ndp_itl 12) (fun y _ => hst y) (RelB_cong hB (fun t _ => by rw [e4.1 106 (by omega) (by omega)])) e3 (by rw [e4.2 13 (by omega)]; exact h13) hx
  refine ⟨mu', g', ?_, g2, g3, g4, FrR.tr e4.R g5⟩
  rw [← g1]
  simp (disch := first | omega | assumption) only [h151_0, h151_1, h151_2, h151_3, h151_6, h151_7, h151_9, h151_10, h151_14, h151_15, h151_18, h151_21, h151_23, h151_24, h151_27, h151_29, h151_30, h151_33, h151_35, h151_36, h151_39, h151_41, h151_42, h151_44, h151_46, h151_47, h151_50, h151_52, h151_53, h151_54, h151_56, h151_59, h151_62, h151_64, h151_65, h151_68, h151_70, h151_71, h151_72, h151_74, h151_75, h151_78, h151_80, h151_81, h151_83, h151_86, h151_87, h151_90, h151_92, h151_95, h151_97, h151_98, h151_99, h151_100, h151_102, h151_103, h151_104, h151_107, h151_109, h151_112, h151_114, h151_115, h151_116, h151_117, h151_118, h151_121, h151_123, h151_124, h151_125, h151_128, h151_129, h151_132, h151_134, h151_135, h151_138, h151_140, h151_141, h151_144, h151_145, h151_146, h151_148, h151_149, h151_150, h151_151, h151_154, h151_155, h151_156, h151_159, h151_162, h151_165, Option.bind_some, Option.toList_some, Option.toList_none, List.cons_append, List.nil_append, nI_ltc, nI_lec, nI_eqc, nI_ne5, n5_ne, n5_lt, bI_0, bI_1, nI_add, pk_mul, if_pos, if_neg, ite_not, if_true, if_false, not_true_eq_false, not_false_eq_true, true_and, false_and, and_true, and_false, Nat.reduceAdd, Nat.reduceMul, e1]
end
