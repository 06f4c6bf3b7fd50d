/-! enumerate, undo, and what stands behind an action -/
/-- behind an action -/
def Post (mu : RV) (p : Nat → Nat) (R : RV) (mu' : RV) (p' : Nat → Nat) : Prop := Rel mu' p' ∧ rk mu' 1 = R ∧ ∃ c, c < 4 ∧ mu' 27 1 = nI (c + 1) ∧ rk mu' (p' c) = rk mu 1
theorem post_of {mu mu1 mu' : RV} {p p1 : Nat → Nat} {R : RV} (h : Rel mu p) (hr : Rec mu p mu1 p1) (hf : ∀ a, (14 ≤ a ∧ a ≤ 80) → mu' a = mu1 a) (hk : rk mu' 1 = R) (hO : OK R) (hX : OX R) : Post mu p R mu' p1 := by
  obtain ⟨hp, ⟨c0, hc0, h27, hh⟩, hO0, hX0⟩ := h
  obtain ⟨hp1, hf1, c, c', k1, k2, k3, k4, k5, k6⟩ := hr
  have ec : c = c0 := by
    rw [h27, nI_eqc (by omega) (by omega)] at k2
    exact k2.symm
  subst ec
  have rks : ∀ i, i < 4 → rk mu' (p1 i) = rk mu1 (p1 i) := fun i hi => rk_cong (fun a ha hb => hf a (by rcases hp1.1 i hi with q | q | q | q <;> omega))
  refine ⟨⟨hp1, ⟨c' + 1, by omega, by rw [hf 27 (by omega)]; exact k3, fun i hi => ?_⟩, by rw [hk]; exact hO, by rw [hk]; exact hX⟩, hk, c', k4, by rw [hf 27 (by omega)]; exact k3, by rw [rks c' k4]; exact k6⟩
  rw [rks i (by omega)]
  by_cases hik : i = c'
  · subst hik
    rw [k6]
    exact ⟨hO0, hX0⟩
  · rcases k5 with ⟨a1, a2, a3⟩ | ⟨a1, a2, a3⟩
    · rw [a3 i (by omega)]
      exact hh i (by omega)
    · rw [a3 i (by omega)]
      exact hh (i + 1) (by omega)
/-- an action's outcome in a state -/
theorem Op.go {k : Nat} {ls : List AV} {R R' : RV} {v : Int32} (h : Op k ls R v R') (hO : OK R') (hX : OX R') (d L : Nat) {mu : RV} {p : Nat → Nat} (hR : Rel mu p) (hm : rk mu 1 = R) :
    (v < nI 0 ∧ R' = R ∧ ∃ mu', FrS mu mu' ∧ zsem (d + 8) k 0 ls [] (HH L mu p) = some (some (.inl v), HH L mu' p)) ∨
    (nI 0 ≤ v ∧ ∃ mu' p', Post mu p R' mu' p' ∧ zsem (d + 8) k 0 ls [] (HH L mu p) = some (some (.inl v), HH L mu' p')) := by
  rcases h d L mu p hR hm with h | ⟨h1, mu1, p1, mu', h2, h3, h4, h5⟩
  · exact Or.inl h
  · exact Or.inr ⟨h1, mu', p1, post_of hR h2 h3 h4 hO hX, h5⟩
/-- undo behind an action, with scratch between -/
theorem y_undo (d L : Nat) {mu mu1 : RV} {p : Nat → Nat} (hR : Rel mu1 p) {c : Nat} (hc : c < 4) (h27 : mu1 27 1 = nI (c + 1)) (hk : rk mu1 (p c) = rk mu 1) : ∃ mu', Rel mu' p ∧ rk mu' 1 = rk mu 1 ∧ zsem (d + 2) 21 0 [.inr (.inl (some 0))] [] (HH L mu1 p) = some (some (.inl (nI c)), HH L mu' p) := by
  obtain ⟨hp, ⟨c0, hc0, g27, hh⟩, hO0, hX0⟩ := hR
  have ec : c0 = c + 1 := by
    rw [g27, nI_eqc (by omega) (by omega)] at h27
    exact h27
  subst ec
  obtain ⟨mu', e1, e2, e3, e4⟩ := z_take d L mu1 p hp c hc h27
  have rks : ∀ i, i < 4 → rk mu' (p i) = rk mu1 (p i) := fun i hi => rk_cong (fun a ha hb => e4 a (by rcases hp.1 i hi with q | q | q | q <;> omega) (by rcases hp.1 i hi with q | q | q | q <;> omega))
  have h0 := hh c (by omega)
  rw [hk] at h0
  refine ⟨mu', ⟨hp, ⟨c, by omega, e2, fun i hi => ?_⟩, by rw [e3, hk]; exact h0.1, by rw [e3, hk]; exact h0.2⟩, by rw [e3, hk], ?_⟩
  · rw [rks i (by omega)]
    exact hh i (by omega)
  · simp (disch := first | omega | assumption) only [h21_0, h21_1, h21_4, h21_5, h21_8, h21_11, Option.bind_some, Option.toList_some, Option.toList_none, List.cons_append, List.nil_append, nI_ltc, nI_lec, nI_eqc, nI_ne5, n5_ne, n5_lt, bI_0, bI_1, nI_add, pk_mul, if_pos, if_neg, ite_not, if_true, if_false, not_true_eq_false, not_false_eq_true, true_and, false_and, and_true, and_false, Nat.reduceAdd, Nat.reduceMul, e1]
/-- enumerate -/
def enA (R : RV) : RV := (nbB 5 (relS R (fun _ => true) 12) 12 1).1
def enB (R : RV) : RV := ovl (enA R) 0 (stF (enA R) 0 12 0)
def enR (R : RV) : RV := ovl (enB R) 1 (stF (enB R) 1 12 0)
def upF (R : RV) : Nat := cntP (fun i => nI 0 < R 7 i ∧ R 8 i = -5) 36
theorem upF_rk (mu : RV) : cntP (fun i => nI 0 < mu 7 i ∧ mu 8 i = -5) 36 = upF (rk mu 1) := cnt_cong _ _ 36 (fun i hi => by rw [rk_7 hi, rk_8 hi])
theorem upF_le (R : RV) : upF R ≤ 36 := cnt_le _ _
theorem nb_OX {R : RV} (hX : OX R) (h10 : ∀ d s, d < 12 → s < 2 → R 10 (d * 2 + s) = -5) (n b x : Nat) : OX (nbB n R b x).1 := by
  have hN := nb_N n R b x
  refine ⟨fun d q a n hd hq k2 k7 k8 ha hn => ?_, fun d s hd hs k => ?_⟩
  · rw [hN 2 (by omega) (by omega)] at k2
    rw [hN 7 (by omega) (by omega)] at k7
    rw [hN 8 (by omega) (by omega)] at k8
    exact hX.1 d q a n hd hq k2 k7 k8 ha hn
  · rw [hN 10 (by omega) (by omega)] at k
    exact absurd (h10 d s hd hs) k
theorem op_enum {R : RV} (hO : OK R) (hX : OX R) : OK (enR R) ∧ OX (enR R) ∧ Op 105 [.inr (.inl (some 0)), .inr (.inl none)] R (nI (upF (enR R))) (enR R) := by
  have hO0 : OK (relS R (fun _ => true) 12) := OK_rel hO (fun _ _ _ _ _ => rfl)
  have hl := fun d (hd : d < 12) => relS_l (R := R) (f := fun _ => true) (n := 12) (d := d) ⟨hd, rfl⟩
  have hU : ∀ d, d < 12 → relS R (fun _ => true) 12 12 d = -5 ∧ relS R (fun _ => true) 12 13 d = -5 := fun d hd => ⟨(hl d hd).1, (hl d hd).2.1⟩
  have hO1 : OK (enA R) := OK_nb hO0 hU
  have hN1 := nb_N 5 (relS R (fun _ => true) 12) 12 1
  have hP : ∀ s, s < 2 → PL12 (enA R) s := fun s hs => by
    refine ⟨fun d q hd hq _ _ => ?_, fun d hd => ?_⟩
    · unfold enA
      rw [hN1 8 (by omega) (by omega)]; exact (hl d hd).2.2.2 q hq
    · unfold enA
      rw [hN1 10 (by omega) (by omega), hN1 11 (by omega) (by omega)]; exact (hl d hd).2.2.1 s hs
  obtain ⟨g, hg, hgp⟩ := hO0.2.2.1
  have hX1 : OX (enA R) := nb_OX (OX_rel hX) (fun d s hd hs => ((hl d hd).2.2.1 s hs).1) 5 12 1
  have hO2 : OK (enB R) := OK_ovl hO1 (by omega) (Or.inl ⟨rfl, rfl⟩) (PL12_f (hP 0 (by omega))).1
  have hX2 : OX (enB R) := OX_ovl hO1 hX1 (by omega) (Or.inl ⟨rfl, rfl⟩)
  have hP1 : PL12 (enB R) 1 := PL12_1 hO1 (hP 0 (by omega)) (hP 1 (by omega))
  have hO3 : OK (enR R) := OK_ovl hO2 (by omega) (Or.inl ⟨rfl, rfl⟩) (PL12_f hP1).1
  have hX3 : OX (enR R) := OX_ovl hO2 hX2 (by omega) (Or.inl ⟨rfl, rfl⟩)
  refine ⟨hO3, hX3, fun d L mu p hR hm => ?_⟩
  obtain ⟨mu1, p1, e1, hr⟩ := z_rec (d + 6) L mu p hR
  have hr0 : rk (relS mu1 (fun _ => true) 12) 1 = relS R (fun _ => true) 12 := by rw [rk_relS (by omega), hr.rk, hm]
  have z1 := z_enL (d + 6) L mu1 p1 12 0 rfl
  rw [relS_0] at z1
  obtain ⟨mu2, z2, z3, z4⟩ := z_nbB d L p1 hg 5 (by omega) (relS mu1 (fun _ => true) 12) _ 12 1 hr0 hO0.T hgp (by omega) (by omega)
  have z2' : zsem (d + 7) 106 0 [.inr (.inl (some 1))] [] (HH L (relS mu1 (fun _ => true) 12) p1) = some (none, HH L mu2 p1) := by
    have h65 : 6 - 5 = 1 := rfl
    rw [h65] at z2
    simp (disch := first | omega | assumption) only [h106_0, h106_1, h106_3, h106_4, h106_5, h106_8, h106_9, Option.bind_some, Option.toList_some, Option.toList_none, List.cons_append, List.nil_append, nI_ltc, nI_lec, nI_eqc, nI_ne5, n5_ne, n5_lt, bI_0, bI_1, nI_add, pk_mul, if_pos, if_neg, ite_not, if_true, if_false, not_true_eq_false, not_false_eq_true, true_and, false_and, and_true, and_false, Nat.reduceAdd, Nat.reduceMul, z2]
  obtain ⟨mu3, z5, z6, z7, z8⟩ := z_enS (d + 4) L mu2 p1 hO1 (s := 0) (by omega) (hP 0 (by omega)) z3
  obtain ⟨mu4, z9, z10, z11, z12⟩ := z_enS (d + 4) L mu3 p1 hO2 (s := 1) (by omega) hP1 z6
  have zc := z_countUnplaced (d + 7) L mu4 p1
  rw [upF_rk, show rk mu4 1 = enR R from z10] at zc
  refine Or.inr ⟨pos_nI (by have := upF_le (enR R); omega), mu1, p1, mu4, hr, fun a ha => ?_, z10, ?_⟩
  · rw [z12 a (by omega) (by omega) (by omega) (by omega), z8 a (by omega) (by omega) (by omega) (by omega), z4 a (by omega) (by omega), relS_row (by omega)]
  · have ze : zsem (d + 8) 105 13 [.inr (.inl (some 0)), .inl (nI 0)] [] (HH L mu1 p1) = some (some (.inl (nI (upF (enR R)))), HH L mu4 p1) := by
      rw [z1, h105_13]
      simp (disch := first | omega | assumption) only [h105_0, h105_1, h105_4, h105_5, h105_8, h105_11, h105_12, h105_14, h105_16, h105_19, h105_20, h105_23, h105_24, h105_27, h105_28, h105_31, h105_34, h105_35, h105_38, h105_41, h105_42, h105_44, h105_45, h105_48, h105_49, h105_52, h105_53, h105_56, h105_57, h105_60, h105_61, h105_64, h105_65, h105_68, h105_70, h105_71, h105_74, h105_75, h105_78, h105_81, h105_82, h105_85, h105_88, Option.bind_some, Option.toList_some, Option.toList_none, List.cons_append, List.nil_append, nI_ltc, nI_lec, nI_eqc, nI_ne5, n5_ne, n5_lt, bI_0, bI_1, nI_add, pk_mul, if_pos, if_neg, ite_not, if_true, if_false, not_true_eq_false, not_false_eq_true, true_and, false_and, and_true, and_false, Nat.reduceAdd, Nat.reduceMul, z2']
      rw [z5, z9, h105_43]
      simp (disch := first | omega | assumption) only [h105_0, h105_1, h105_4, h105_5, h105_8, h105_11, h105_12, h105_14, h105_16, h105_19, h105_20, h105_23, h105_24, h105_27, h105_28, h105_31, h105_34, h105_35, h105_38, h105_41, h105_42, h105_44, h105_45, h105_48, h105_49, h105_52, h105_53, h105_56, h105_57, h105_60, h105_61, h105_64, h105_65, h105_68, h105_70, h105_71, h105_74, h105_75, h105_78, h105_81, h105_82, h105_85, h105_88, Option.bind_some, Option.toList_some, Option.toList_none, List.cons_append, List.nil_append, nI_ltc, nI_lec, nI_eqc, nI_ne5, n5_ne, n5_lt, bI_0, bI_1, nI_add, pk_mul, if_pos, if_neg, ite_not, if_true, if_false, not_true_eq_false, not_false_eq_true, true_and, false_and, and_true, and_false, Nat.reduceAdd, Nat.reduceMul, zc]
    simp (disch := first | omega | assumption) only [h105_0, h105_1, h105_4, h105_5, h105_8, h105_11, h105_12, h105_14, h105_16, h105_19, h105_20, h105_23, h105_24, h105_27, h105_28, h105_31, h105_34, h105_35, h105_38, h105_41, h105_42, h105_44, h105_45, h105_48, h105_49, h105_52, h105_53, h105_56, h105_57, h105_60, h105_61, h105_64, h105_65, h105_68, h105_70, h105_71, h105_74, h105_75, h105_78, h105_81, h105_82, h105_85, h105_88, Option.bind_some, Option.toList_some, Option.toList_none, List.cons_append, List.nil_append, nI_ltc, nI_lec, nI_eqc, nI_ne5, n5_ne, n5_lt, bI_0, bI_1, nI_add, pk_mul, if_pos, if_neg, ite_not, if_true, if_false, not_true_eq_false, not_false_eq_true, true_and, false_and, and_true, and_false, Nat.reduceAdd, Nat.reduceMul, e1, ze]
theorem en_row (R : RV) {a : Nat} (h : ¬a = 8 ∧ ¬a = 10 ∧ ¬a = 11 ∧ ¬a = 12 ∧ ¬a = 13) : enR R a = R a := by
  unfold enR
  rw [ovl_L (enB R) 1 _ a (by omega) (by omega) (by omega)]
  unfold enB
  rw [ovl_L (enA R) 0 _ a (by omega) (by omega) (by omega)]
  unfold enA
  rw [nb_N 5 _ 12 1 a (by omega) (by omega), relS_row (by omega)]
theorem rk_out (mu : RV) {a i : Nat} (h : 2 ≤ a) (hi : ¬i < rlen a) : rk mu 1 a i = nI 0 := by
  unfold rk
  rw [if_neg (fun q => hi q.2), if_neg (fun q => by omega)]
theorem relT_out (R : RV) {a i : Nat} (h0 : a = 8 ∨ a = 10 ∨ a = 11 ∨ a = 12 ∨ a = 13) : (i < rlen a ∧ ∀ R' : RV, relS R' (fun _ => true) 12 a i = relS R (fun _ => true) 12 a i) ∨ (¬i < rlen a ∧ ∀ R' : RV, relS R' (fun _ => true) 12 a i = R' a i) := by
  have l8 : rlen 8 = 36 := rfl
  have l10 : rlen 10 = 24 := rfl
  have l11 : rlen 11 = 24 := rfl
  have l12 : rlen 12 = 12 := rfl
  have l13 : rlen 13 = 12 := rfl
  by_cases hi : i < rlen a
  · refine Or.inl ⟨hi, fun R' => ?_⟩
    rcases h0 with rfl | rfl | rfl | rfl | rfl
    · rw [relS_y (R := R') (Or.inr (Or.inr (Or.inr ⟨rfl, by omega, rfl⟩))), relS_y (R := R) (Or.inr (Or.inr (Or.inr ⟨rfl, by omega, rfl⟩)))]
    · rw [relS_y (R := R') (Or.inr (Or.inr (Or.inl ⟨rfl, by omega, rfl⟩))), relS_y (R := R) (Or.inr (Or.inr (Or.inl ⟨rfl, by omega, rfl⟩)))]
    · rw [relS_z (R := R') ⟨by omega, rfl⟩, relS_z (R := R) ⟨by omega, rfl⟩]
    · rw [relS_y (R := R') (Or.inl ⟨rfl, by omega, rfl⟩), relS_y (R := R) (Or.inl ⟨rfl, by omega, rfl⟩)]
    · rw [relS_y (R := R') (Or.inr (Or.inl ⟨rfl, by omega, rfl⟩)), relS_y (R := R) (Or.inr (Or.inl ⟨rfl, by omega, rfl⟩))]
  · refine Or.inr ⟨hi, fun R' => ?_⟩
    unfold relS
    rw [if_neg (by
      rintro (⟨rfl, q, -⟩ | ⟨rfl, q, -⟩ | ⟨rfl, q, -⟩ | ⟨rfl, q, -⟩) <;> omega), if_neg (by
      rintro ⟨rfl, q, -⟩
      omega)]
theorem rel_idem {mu mu' : RV} (h : ∀ a, ¬a = 8 ∧ ¬a = 10 ∧ ¬a = 11 ∧ ¬a = 12 ∧ ¬a = 13 → rk mu' 1 a = rk mu 1 a) : relS (rk mu' 1) (fun _ => true) 12 = relS (rk mu 1) (fun _ => true) 12 := by
  funext a i
  by_cases h0 : ¬a = 8 ∧ ¬a = 10 ∧ ¬a = 11 ∧ ¬a = 12 ∧ ¬a = 13
  · rw [relS_row ⟨h0.2.2.2.1, h0.2.2.2.2, h0.2.1, h0.1, h0.2.2.1⟩, relS_row ⟨h0.2.2.2.1, h0.2.2.2.2, h0.2.1, h0.1, h0.2.2.1⟩, h a h0]
  · have ha : a = 8 ∨ a = 10 ∨ a = 11 ∨ a = 12 ∨ a = 13 := by
      clear h
      omega
    rcases relT_out (rk mu 1) (i := i) ha with ⟨g1, g2⟩ | ⟨g1, g2⟩
    · exact g2 _
    · rw [g2, g2, rk_out mu (by clear h; omega) g1, rk_out mu' (by clear h; omega) g1]
/-- enumerating again brings the same -/
theorem en_idem {mu mu' : RV} (h : rk mu' 1 = enR (rk mu 1)) : enR (rk mu' 1) = enR (rk mu 1) := by
  have e : relS (rk mu' 1) (fun _ => true) 12 = relS (rk mu 1) (fun _ => true) 12 := rel_idem (fun a ha => by rw [h, en_row _ ha])
  have e2 : enA (rk mu' 1) = enA (rk mu 1) := congrArg (fun x => (nbB 5 x 12 1).1) e
  have e3 : enB (rk mu' 1) = enB (rk mu 1) := congrArg (fun x => ovl x 0 (stF x 0 12 0)) e2
  exact congrArg (fun x => ovl x 1 (stF x 1 12 0)) e3
