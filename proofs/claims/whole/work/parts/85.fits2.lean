/-! the first fit: both sides -/
theorem gle {g a b : Nat} (h : 0 < g) : g * a ≤ g * b ↔ a ≤ b := Nat.mul_le_mul_left_iff h
theorem glt {g a b : Nat} (h : 0 < g) : g * a < g * b ↔ a < b := Nat.mul_lt_mul_left h
/-- v is the first fit on bus b for the size and the alignment -/
def FSp (R : RV) (s b size al : Nat) (v : Int32) : Prop :=
  (∃ y A E, room R s b A E ∧ y % al = 0 ∧ A ≤ y ∧ y + size ≤ A + E ∧ FR R s b size y ∧ (∀ y', y' % al = 0 → A ≤ y' → y' < y → ¬FR R s b size y') ∧ v = nI y) ∨
  ((∀ A E, room R s b A E → ∀ y, y % al = 0 → A ≤ y → y + size ≤ A + E → ¬FR R s b size y) ∧ v = -5)
theorem room_one {R : RV} {s b A E A' E' : Nat} (h : room R s b A E) (h' : room R s b A' E') : A' = A ∧ E' = E := by
  rcases h with ⟨h1, h2, h3⟩ | ⟨h1, h2, h3, h4, h5, h6⟩ <;> rcases h' with ⟨g1, g2, g3⟩ | ⟨g1, g2, g3, g4, g5, g6⟩
  · omega
  · omega
  · omega
  · rw [h5, nI_eqc (by omega) (by omega)] at g5
    rw [h6, nI_eqc (by omega) (by omega)] at g6
    exact ⟨g5.symm, g6.symm⟩
theorem FSp_one {R : RV} {s b size al : Nat} {v v' : Int32} (h : FSp R s b size al v) (h' : FSp R s b size al v') : v' = v := by
  rcases h with ⟨y, A, E, h1, h2, h3, h4, h5, h6, rfl⟩ | ⟨h1, rfl⟩ <;> rcases h' with ⟨y', A', E', g1, g2, g3, g4, g5, g6, rfl⟩ | ⟨g1, rfl⟩
  · obtain ⟨e1, e2⟩ := room_one h1 g1
    rw [e1] at g3 g6
    have n1 : ¬y' < y := fun q => h6 y' g2 g3 q g5
    have n2 : ¬y < y' := fun q => g6 y h2 h3 q h5
    rw [show y' = y by omega]
  · exact absurd h5 (g1 A E h1 y h2 h3 h4)
  · exact absurd g5 (h1 A' E' g1 y' g2 g3 g4)
  · rfl
theorem fre_all {R : RV} {s b A' E' u c : Nat} (hO : OK R) (hs : s < 2) (hc : 0 < c) : (∀ t, t < c → fre R s b (grn s * A') (grn s * E') (u + t)) ↔ (grn s * A' ≤ grn s * u ∧ grn s * u + grn s * c ≤ grn s * A' + grn s * E' ∧ FR R s b (grn s * c) (grn s * u)) := by
  have hg := @grn_le s
  have hg0 : 0 < grn s := by omega
  have cp : ∀ i a n, i < 12 → CP R s b i a n → ∃ u1 c1, a = grn s * u1 ∧ n = grn s * c1 ∧ 0 < c1 := fun i a n hi hcp => by
    obtain ⟨j, j1, j2, j3⟩ := hcp
    obtain ⟨u1, c1, e1, e2, -, e3, -⟩ := cov_grn hO.T (hO.W hs) j1 (by omega) j3
    exact ⟨u1, c1, e1, e2, e3⟩
  rw [← Nat.mul_add, ← Nat.mul_add, gle hg0, gle hg0]
  constructor
  · intro h
    have h0 := (h 0 hc).1
    have h1 := (h (c - 1) (by omega)).1
    unfold inR at h0 h1
    rw [Nat.mul_comm (u + 0), Nat.mul_comm (u + (c - 1)), ← Nat.mul_add, gle hg0, glt hg0] at *
    refine ⟨by omega, by omega, fun i a n hi hcp q => ?_⟩
    obtain ⟨u1, c1, rfl, rfl, hc1⟩ := cp i a n hi hcp
    rw [← Nat.mul_add, ← Nat.mul_add, glt hg0, glt hg0] at q
    have := (h (max u u1 - u) (by omega)).2 i _ _ hi hcp
    rw [show u + (max u u1 - u) = max u u1 by omega, Nat.mul_comm (max u u1), ← Nat.mul_add, gle hg0, glt hg0] at this
    omega
  · rintro ⟨h1, h2, h3⟩ t ht
    refine ⟨?_, fun i a n hi hcp q => h3 i a n hi hcp ?_⟩
    · unfold inR
      rw [Nat.mul_comm (u + t), ← Nat.mul_add, gle hg0, glt hg0]
      omega
    · obtain ⟨u1, c1, rfl, rfl, hc1⟩ := cp i a n hi hcp
      rw [Nat.mul_comm (u + t), ← Nat.mul_add, gle hg0, glt hg0] at q
      rw [← Nat.mul_add, ← Nat.mul_add, glt hg0, glt hg0]
      omega
section
variable (d L : Nat) (mu : RV) (p : Nat → Nat) {R : RV}
theorem m_fitsL (b : Int32) (s m c : Nat) (hs : s < 2) (hm : 0 < m) (hal : grn s * m ≤ 4096) (hc : 0 < c) (hc2 : grn s * c ≤ 1000000) : ∀ fuel u (w w' : AV), adr s ≤ grn s * u + fuel → grn s * u ≤ 10000 → u % m = 0 →
    ∃ v, zsem (d + 1) 159 9 [.inr (some 105), .inl b, .inl (nI s), .inl (nI (grn s * c)), .inl (nI (grn s * m)), .inl (nI (grn s * u)), w, w'] [] (HH L mu p) = some (some (.inl v), HH L mu p) ∧
      ((∃ y, y % m = 0 ∧ u ≤ y ∧ grn s * y + grn s * c ≤ adr s ∧ (∀ t, t < c → mu 114 (y + t) = nI 1) ∧ (∀ y', y' % m = 0 → u ≤ y' → y' < y → ¬∀ t, t < c → mu 114 (y' + t) = nI 1) ∧ v = nI (grn s * y)) ∨
       ((∀ y, y % m = 0 → u ≤ y → grn s * y + grn s * c ≤ adr s → ¬∀ t, t < c → mu 114 (y + t) = nI 1) ∧ v = -5)) := by
  have hg := @grn_le s
  have ha := @adr_fac s
  have hg0 : 0 < grn s := by omega
  have hcg : grn s * 1 ≤ grn s * c := (gle hg0).mpr hc
  have stop : ∀ u (w w' : AV), grn s * u ≤ 10000 → ¬grn s * u + grn s * c ≤ adr s → ∃ v, zsem (d + 1) 159 9 [.inr (some 105), .inl b, .inl (nI s), .inl (nI (grn s * c)), .inl (nI (grn s * m)), .inl (nI (grn s * u)), w, w'] [] (HH L mu p) = some (some (.inl v), HH L mu p) ∧
      ((∃ y, y % m = 0 ∧ u ≤ y ∧ grn s * y + grn s * c ≤ adr s ∧ (∀ t, t < c → mu 114 (y + t) = nI 1) ∧ (∀ y', y' % m = 0 → u ≤ y' → y' < y → ¬∀ t, t < c → mu 114 (y' + t) = nI 1) ∧ v = nI (grn s * y)) ∨
       ((∀ y, y % m = 0 → u ≤ y → grn s * y + grn s * c ≤ adr s → ¬∀ t, t < c → mu 114 (y + t) = nI 1) ∧ v = -5)) := by
    intro u w w' hu hn
    refine ⟨-5, ?_, Or.inr ⟨fun y hy hy2 hy3 => ?_, rfl⟩⟩
    · rw [h159_9]
      simp (disch := first | omega | assumption) only [h159_0, h159_1, h159_2, h159_3, h159_6, h159_7, h159_11, h159_12, h159_13, h159_14, h159_17, h159_20, h159_21, h159_23, h159_25, h159_29, h159_31, h159_32, h159_33, h159_36, h159_38, h159_41, h159_42, h159_45, h159_47, h159_48, h159_51, h159_52, h159_53, h159_54, h159_57, h159_58, h159_61, h159_62, h159_64, h159_66, h159_67, h159_70, h159_71, h159_73, h159_76, h159_78, h159_81, h159_83, h159_84, h159_86, h159_88, h159_89, h159_91, h159_94, h159_96, Option.bind_some, Option.toList_some, Option.toList_none, List.cons_append, List.nil_append, nI_ltc, nI_lec, nI_eqc, nI_ne5, n5_ne, n5_lt, bI_0, bI_1, nI_add, pk_mul, if_pos, if_neg, ite_not, if_true, if_false, not_true_eq_false, not_false_eq_true, true_and, false_and, and_true, and_false, Nat.reduceAdd, Nat.reduceMul, m_addresses]
    · have := (gle (g := grn s) hg0).mpr hy2
      omega
  intro fuel
  induction fuel with
  | zero =>
    intro u w w' hf hu2 hu
    exact stop u w w' hu2 (by omega)
  | succ fuel ih =>
    intro u w w' hf hu2 hu
    by_cases hfit : grn s * u + grn s * c ≤ adr s
    · have huc : u + c ≤ 256 := by
        rw [← gle (g := grn s) hg0, Nat.mul_add]
        omega
      have e0 : zsem (d + 1) 159 9 [.inr (some 105), .inl b, .inl (nI s), .inl (nI (grn s * c)), .inl (nI (grn s * m)), .inl (nI (grn s * u)), w, w'] [] (HH L mu p) = zsem (d + 1) 159 27 [.inr (some 105), .inl b, .inl (nI s), .inl (nI (grn s * c)), .inl (nI (grn s * m)), .inl (nI (grn s * u)), .inl (nI 1), .inl (nI (grn s * u + grn s * 0))] [] (HH L mu p) := by
        rw [h159_9]
        simp (disch := first | omega | assumption) only [h159_0, h159_1, h159_2, h159_3, h159_6, h159_7, h159_11, h159_12, h159_13, h159_14, h159_17, h159_20, h159_21, h159_23, h159_25, h159_29, h159_31, h159_32, h159_33, h159_36, h159_38, h159_41, h159_42, h159_45, h159_47, h159_48, h159_51, h159_52, h159_53, h159_54, h159_57, h159_58, h159_61, h159_62, h159_64, h159_66, h159_67, h159_70, h159_71, h159_73, h159_76, h159_78, h159_81, h159_83, h159_84, h159_86, h159_88, h159_89, h159_91, h159_94, h159_96, Option.bind_some, Option.toList_some, Option.toList_none, List.cons_append, List.nil_append, nI_ltc, nI_lec, nI_eqc, nI_ne5, n5_ne, n5_lt, bI_0, bI_1, nI_add, pk_mul, if_pos, if_neg, ite_not, if_true, if_false, not_true_eq_false, not_false_eq_true, true_and, false_and, and_true, and_false, Nat.reduceAdd, Nat.reduceMul, m_addresses, Nat.mul_zero, Nat.add_zero]
      rcases m_fitsI d L mu p b s (grn s * m) u c hs huc hal c 0 (by omega) (fun t ht => by omega) with ⟨f1, f2⟩ | ⟨⟨t0, f1, f1'⟩, a, a', f2⟩
      · exact ⟨_, e0.trans f2, Or.inl ⟨u, hu, Nat.le_refl _, hfit, f1, fun y' g1 g2 g3 => by omega, rfl⟩⟩
      · have e1 : grn s * (u + m) = grn s * u + grn s * m := Nat.mul_add _ _ _
        have hm4 : grn s * 1 ≤ grn s * m := (gle hg0).mpr hm
        obtain ⟨v, e2, e3⟩ := ih (u + m) a a' (by omega) (by omega) (by rw [Nat.add_mod_right]; exact hu)
        rw [e1] at e2
        refine ⟨v, (e0.trans f2).trans e2, ?_⟩
        have skip : ∀ y, y % m = 0 → u ≤ y → ¬u + m ≤ y → ¬∀ t, t < c → mu 114 (y + t) = nI 1 := fun y q1 q2 q3 q4 => by
          have : y = u := by
            have h1 := Nat.div_add_mod y m
            have h2 := Nat.div_add_mod u m
            rw [q1] at h1
            rw [hu] at h2
            have h3 : m * (y / m) < m * (u / m + 1) := by rw [Nat.mul_add]; omega
            rw [glt hm] at h3
            have h4 : m * (u / m) ≤ m * (y / m) := by omega
            rw [gle hm] at h4
            have : y / m = u / m := by omega
            rw [this] at h1
            omega
          subst this
          exact f1' (q4 t0 f1)
        rcases e3 with ⟨y, y1, y2, y3, y4, y5, y6⟩ | ⟨y1, y2⟩
        · refine Or.inl ⟨y, y1, by omega, y3, y4, fun y' q1 q2 q3 => ?_, y6⟩
          by_cases hq : u + m ≤ y'
          · exact y5 y' q1 hq q3
          · exact skip y' q1 q2 hq
        · refine Or.inr ⟨fun y q1 q2 q3 => ?_, y2⟩
          by_cases hq : u + m ≤ y
          · exact y1 y q1 hq q3
          · exact skip y q1 q2 hq
    · exact stop u w w' hu2 hfit
theorem gmod {g y m : Nat} (hg : 0 < g) : (g * y) % (g * m) = 0 ↔ y % m = 0 := by
  rw [Nat.mul_mod_mul_left]
  constructor
  · intro h
    rcases Nat.mul_eq_zero.mp h with q | q
    · omega
    · exact q
  · intro h; rw [h, Nat.mul_zero]
theorem gdvd {g m y : Nat} (h : y % (g * m) = 0) : ∃ u, y = g * u := by
  have h1 := Nat.div_add_mod y (g * m)
  rw [h, Nat.add_zero, Nat.mul_assoc] at h1
  exact ⟨_, h1.symm⟩
/-- a bus's room in grains -/
theorem room_grn {R : RV} {s b A E : Nat} (hO : OK R) (hs : s < 2) (h : room R s b A E) (hb : b = 12 ∨ ¬R 2 b = nI 0) : ∃ A' E', A = grn s * A' ∧ E = grn s * E' ∧ 0 < E ∧ A + E ≤ adr s := by
  rcases h with ⟨h1, rfl, rfl⟩ | ⟨h1, h2, h3, h4, h5, h6⟩
  · have := @adr_fac s
    have e := Nat.div_add_mod (adr s) (grn s)
    rw [this.2.2.2, Nat.add_zero] at e
    exact ⟨0, _, rfl, e.symm, by omega, by omega⟩
  · have hr : room R s b A E := Or.inr ⟨h1, h2, h3, h4, h5, h6⟩
    obtain ⟨u, c, e1, e2, e3, e4, e5⟩ := cov_grn hO.T (hO.W hs) h1 (by omega) (room_cov h1 hr).2
    refine ⟨u, c, e1, e2, ?_, e5⟩
    rw [e2]
    exact Nat.mul_pos (by have := @grn_le s; omega) e4
/-- the reference's first fit -/
theorem m_fits (hO : OK R) (hB : RelB R (fun t => mu 106 t)) (b s m c : Nat) (hs : s < 2) (hb : b = 12 ∨ (b < 12 ∧ R 2 b = nI 2)) (hm : 0 < m) (hal : grn s * m ≤ 4096) (hc : 0 < c) (hc2 : grn s * c ≤ 1000000) : ∃ v P, zsem (d + 4) 159 0 [.inr (some 105), .inl (nI b), .inl (nI s), .inl (nI (grn s * c)), .inl (nI (grn s * m)), .inr none, .inr none, .inr none] [] (HH L mu p) = some (some (.inl v), HH L (LF mu P) p) ∧ FSp R s b (grn s * c) (grn s * m) v := by
  have hg := @grn_le s
  have ha := @adr_fac s
  have hg0 : 0 < grn s := by omega
  have hcg : grn s * 1 ≤ grn s * c := (gle hg0).mpr hc
  have hb13 : b < 13 := by omega
  by_cases hr : ∃ A E, room R s b A E
  · obtain ⟨A, E, hr⟩ := hr
    obtain ⟨A', E', eA, eE, e3, e4⟩ := room_grn hO hs hr (hb.imp_right (fun q => k2_ne0 q.2))
    obtain ⟨P, l1, l2⟩ := m_looksF d L mu p hO hB b s A E hb13 hs (by omega) e3 (by
      rcases hr with q | ⟨q1, q2, q3, q4, q5, q6⟩
      · exact Or.inl q
      · exact Or.inr ⟨q1, q4, q5, q6⟩)
    obtain ⟨v, f1, f2⟩ := m_fitsL (d + 3) L (LF mu P) p (nI b) s m c hs hm hal hc hc2 (adr s) 0 (.inr none) (.inr none) (by omega) (by omega) (Nat.zero_mod _)
    have al : ∀ y, y + c ≤ 256 → ((∀ t, t < c → LF mu P 114 (y + t) = nI 1) ↔ (A ≤ grn s * y ∧ grn s * y + grn s * c ≤ A + E ∧ FR R s b (grn s * c) (grn s * y))) := fun y hy => by
      rw [eA, eE, ← fre_all hO hs hc]
      constructor
      · intro q t ht
        have := q t ht
        rw [← eA, ← eE, ← l2 _ (by omega)]
        by_cases hP : P (y + t)
        · exact hP
        · rw [LF_n (by omega) hP] at this; exact absurd this (by decide)
      · intro q t ht
        have := q t ht
        rw [← eA, ← eE, ← l2 _ (by omega)] at this
        exact LF_y (by omega) this
    have lim : ∀ y, grn s * y + grn s * c ≤ adr s → y + c ≤ 256 := fun y hy => by
      rw [← gle (g := grn s) hg0, Nat.mul_add]
      omega
    refine ⟨v, P, ?_, ?_⟩
    · rw [Nat.mul_zero] at f1
      simp (disch := first | omega | assumption) only [h159_0, h159_1, h159_2, h159_3, h159_6, h159_7, h159_11, h159_12, h159_13, h159_14, h159_17, h159_20, h159_21, h159_23, h159_25, h159_29, h159_31, h159_32, h159_33, h159_36, h159_38, h159_41, h159_42, h159_45, h159_47, h159_48, h159_51, h159_52, h159_53, h159_54, h159_57, h159_58, h159_61, h159_62, h159_64, h159_66, h159_67, h159_70, h159_71, h159_73, h159_76, h159_78, h159_81, h159_83, h159_84, h159_86, h159_88, h159_89, h159_91, h159_94, h159_96, Option.bind_some, Option.toList_some, Option.toList_none, List.cons_append, List.nil_append, nI_ltc, nI_lec, nI_eqc, nI_ne5, n5_ne, n5_lt, bI_0, bI_1, nI_add, pk_mul, if_pos, if_neg, ite_not, if_true, if_false, not_true_eq_false, not_false_eq_true, true_and, false_and, and_true, and_false, Nat.reduceAdd, Nat.reduceMul, l1, f1]
    · rcases f2 with ⟨y, y1, y2, y3, y4, y5, y6⟩ | ⟨y1, y2⟩
      · obtain ⟨a1, a2, a3⟩ := (al y (lim y y3)).mp y4
        refine Or.inl ⟨grn s * y, A, E, hr, (gmod hg0).mpr y1, a1, a2, a3, fun y' q1 q2 q3 q4 => ?_, y6⟩
        obtain ⟨u, rfl⟩ := gdvd q1
        rw [gmod hg0] at q1
        rw [glt hg0] at q3
        exact y5 u q1 (by omega) q3 ((al u (by have := lim y y3; omega)).mpr ⟨q2, by have := (glt (g := grn s) hg0).mpr q3; omega, q4⟩)
      · refine Or.inr ⟨fun A1 E1 hr1 y q1 q2 q3 q4 => ?_, y2⟩
        obtain ⟨g1, g2⟩ := room_one hr hr1
        rw [g1] at q2
        rw [g1, g2] at q3
        obtain ⟨u, rfl⟩ := gdvd q1
        rw [gmod hg0] at q1
        have hl := lim u (by omega)
        exact y1 u q1 (by omega) (by omega) ((al u hl).mpr ⟨q2, q3, q4⟩)
  · have hb2 : b < 12 ∧ R 2 b = nI 2 := by
      rcases hb with rfl | q
      · exact absurd ⟨0, adr s, Or.inl ⟨rfl, rfl, rfl⟩⟩ hr
      · exact q
    rcases (hO.W hs).2.1 b hb2.1 with ⟨g1, g2⟩ | ⟨a, n, g1, g2, g3, g4⟩
    · obtain ⟨P, l1, l2⟩ := m_looksZ d L mu p hO hB b s hb2.1 hs hb2.2 g1 g2
      obtain ⟨v, f1, f2⟩ := m_fitsL (d + 3) L (LF mu P) p (nI b) s m c hs hm hal hc hc2 (adr s) 0 (.inr none) (.inr none) (by omega) (by omega) (Nat.zero_mod _)
      refine ⟨v, P, ?_, Or.inr ⟨fun A E q => absurd ⟨A, E, q⟩ hr, ?_⟩⟩
      · rw [Nat.mul_zero] at f1
        simp (disch := first | omega | assumption) only [h159_0, h159_1, h159_2, h159_3, h159_6, h159_7, h159_11, h159_12, h159_13, h159_14, h159_17, h159_20, h159_21, h159_23, h159_25, h159_29, h159_31, h159_32, h159_33, h159_36, h159_38, h159_41, h159_42, h159_45, h159_47, h159_48, h159_51, h159_52, h159_53, h159_54, h159_57, h159_58, h159_61, h159_62, h159_64, h159_66, h159_67, h159_70, h159_71, h159_73, h159_76, h159_78, h159_81, h159_83, h159_84, h159_86, h159_88, h159_89, h159_91, h159_94, h159_96, Option.bind_some, Option.toList_some, Option.toList_none, List.cons_append, List.nil_append, nI_ltc, nI_lec, nI_eqc, nI_ne5, n5_ne, n5_lt, bI_0, bI_1, nI_add, pk_mul, if_pos, if_neg, ite_not, if_true, if_false, not_true_eq_false, not_false_eq_true, true_and, false_and, and_true, and_false, Nat.reduceAdd, Nat.reduceMul, l1, f1]
      · rcases f2 with ⟨y, y1, y2, y3, y4, y5, y6⟩ | ⟨y1, y2⟩
        · have hl : y + c ≤ 256 := by
            rw [← gle (g := grn s) hg0, Nat.mul_add]
            omega
          have := y4 0 hc
          rw [LF_n (by omega) (l2 _ (by omega))] at this
          exact absurd this (by decide)
        · exact y2
    · exact absurd ⟨a, n, Or.inr ⟨hb2.1, g1, g2, hb2.2, g3, g4⟩⟩ hr
/-- the class's first fit -/
theorem z_fit (hO : OK (rk mu 1)) (b s m c kk : Nat) (hs : s < 2) (hb : b = 12 ∨ (b < 12 ∧ mu 2 b = nI 2)) (hal : grn s * m = 2 ^ kk) (hkk : kk = 2 ∨ kk = 3 ∨ kk = 4 ∨ kk = 5 ∨ kk = 6 ∨ kk = 7 ∨ kk = 8 ∨ kk = 9 ∨ kk = 10) (hc : 0 < c) (hc2 : grn s * c ≤ 1000000) : ∃ v, zsem (d + 3) 64 0 [.inr (some 1), .inl (nI b), .inl (nI s), .inl (nI (grn s * c)), .inl (nI (grn s * m)), .inr none, .inr none, .inr none, .inr none] [] (HH L mu p) = some (some (.inl v), HH L mu p) ∧ FSp (rk mu 1) s b (grn s * c) (grn s * m) v := by
  have hg := @grn_le s
  have ha := @adr_fac s
  have hg0 : 0 < grn s := by omega
  have hcg : grn s * 1 ≤ grn s * c := (gle hg0).mpr hc
  have go : ∀ A0 E, A0 + E ≤ 4096 → room (rk mu 1) s b A0 E → zsem (d + 2) 57 0 [.inr (some 1), .inl (nI b), .inl (nI s)] [] (HH L mu p) = some (some (.inl (nI A0)), HH L mu p) → zsem (d + 2) 65 0 [.inr (some 1), .inl (nI b), .inl (nI s)] [] (HH L mu p) = some (some (.inl (nI E)), HH L mu p) → ∃ v, zsem (d + 3) 64 0 [.inr (some 1), .inl (nI b), .inl (nI s), .inl (nI (grn s * c)), .inl (nI (grn s * m)), .inr none, .inr none, .inr none, .inr none] [] (HH L mu p) = some (some (.inl v), HH L mu p) ∧ FSp (rk mu 1) s b (grn s * c) (grn s * m) v := by
    intro A0 E hAE hr h1 h2
    obtain ⟨v, e1, e2⟩ := z_fitIn d L mu p hO b s (grn s * c) (grn s * m) kk A0 E (by omega) hs hal (by omega) hc2 (by omega) (by omega) (by omega) h1 h2
    refine ⟨v, e1, ?_⟩
    rcases e2 with ⟨y, y1, y2, y3, y4, y5, y6⟩ | ⟨y1, y2⟩
    · exact Or.inl ⟨y, A0, E, hr, y1, y2, y3, y4, y5, y6⟩
    · refine Or.inr ⟨fun A1 E1 hr1 y q1 q2 q3 => ?_, y2⟩
      obtain ⟨g1, g2⟩ := room_one hr hr1
      rw [g1] at q2
      rw [g1, g2] at q3
      exact y1 y q1 q2 q3
  rcases hb with rfl | ⟨hb1, hb2⟩
  · exact go 0 (adr s) (by omega) (Or.inl ⟨rfl, rfl, rfl⟩) (z_startOf_r (d + 1) L mu p s) (z_extentOf_r (d + 1) L mu p s hs)
  · have e1 := z_startOf_b (d + 1) L mu p b s hb1 hs hb2
    have e2 := z_extentOf_b (d + 1) L mu p b s hb1 hs hb2
    have hk : rk mu 1 2 b = nI 2 := by rw [rk_2 hb1]; exact hb2
    rcases (hO.W hs).2.1 b hb1 with ⟨g1, g2⟩ | ⟨a, n, g1, g2, g3, g4⟩
    · have g1' := g1
      have g2' := g2
      rw [rk_10 (by omega)] at g1
      rw [rk_11 (by omega)] at g2
      refine ⟨-5, ?_, Or.inr ⟨fun A E q => ?_, rfl⟩⟩
      · rw [hal]
        exact z_fitIn_n d L mu p b s (grn s * c) kk hb1 hs hkk hc2 (by omega) hb2 g1 g2
      · rcases q with ⟨q1, -⟩ | ⟨q1, q2, q3, q4, q5, q6⟩
        · omega
        · rw [g1', n5_ne (by omega)] at q5; exact q5.elim
    · have hr : room (rk mu 1) s b a n := Or.inr ⟨hb1, g1, g2, hk, g3, g4⟩
      obtain ⟨A', E', -, -, -, q⟩ := room_grn hO hs hr (Or.inr (k2_ne0 hk))
      rw [rk_10 (by omega)] at g3
      rw [rk_11 (by omega)] at g4
      rw [g3] at e1
      rw [g4] at e2
      exact go a n (by omega) hr e1 e2
end
