/-! enumerate -/
theorem ex_nI (x : Int32) : ∃ g, x = nI g := by
  refine ⟨x.toBitVec.toNat, Int32.toBitVec_inj.1 ?_⟩
  show x.toBitVec = BitVec.ofNat 32 x.toBitVec.toNat
  simp
/-- no places in a space -/
def PL12 (R : RV) (s : Nat) : Prop := (∀ d q, d < 12 → q < 3 → R 2 d = nI 1 → R 6 (d * 3 + q) = nI s → R 8 (d * 3 + q) = -5) ∧ ∀ d, d < 12 → R 10 (d * 2 + s) = -5 ∧ R 11 (d * 2 + s) = nI 0
theorem PL12_f {R : RV} {s : Nat} (h : PL12 R s) : PLf R s 12 0 ∧ PLg R s 12 :=
  ⟨fun d hd _ _ => ⟨fun q hq k1 k6 => h.1 d q hd hq k1 k6, fun _ => h.2 d hd⟩, fun j hj _ _ => (h.2 j hj).1⟩
theorem PL12_1 {R : RV} (hO : OK R) (h0 : PL12 R 0) (h1 : PL12 R 1) : PL12 (ovl R 0 (stF R 0 12 0)) 1 := by
  have hL := ovl_L R 0 (stF R 0 12 0)
  have hr : PLr R 0 12 0 := Or.inl ⟨rfl, rfl⟩
  refine ⟨fun d q hd hq k1 k6 => ?_, fun d hd => ?_⟩
  · rw [hL 2 (by omega) (by omega) (by omega)] at k1
    rw [hL 6 (by omega) (by omega) (by omega)] at k6
    rw [ovl_8 hd hq k1]
    cases hz : stF R 0 12 0 (bn R d) (sn R d * 3 + q) with
    | none => exact h1.1 d q hd hq k1 k6
    | some z =>
      exfalso
      obtain ⟨g1, g2, -⟩ := stF_ok hO (by omega) hr _ _ _ hz
      obtain ⟨t1, t2⟩ := sn_ok hO.T hd (k1_ne0 k1)
      have hv : R 5 (bn R d * 4 + (sn R d * 3 + q) / 3) = nI d := by rw [show (sn R d * 3 + q) / 3 = sn R d by omega]; exact t2
      have ps : SZ R 0 (bn R d) (sn R d * 3 + q) = _ := psz_c (s := 0) (f := fN R 0) g2 hd hv k1
      rw [show (sn R d * 3 + q) % 3 = q by omega, k6, if_neg (by rw [nI_eqc (by omega) (by omega)]; omega)] at ps
      exact g1 ps
  · obtain ⟨o1, o2⟩ := ovl_10n (R := R) (s := 0) (i := d * 2 + 1) (st := stF R 0 12 0) (by omega)
    rw [o1, o2]
    exact h1.2 d hd
theorem upl_eq {mu : RV} {p : Nat → Nat} (h : Rel mu p) : cntP (fun i => nI 0 < mu 7 i ∧ mu 8 i = -5) 36 = cntP (fun i => upB mu i = true) 36 := cnt_cong _ _ 36 (fun i hi => by
    have hi3 : i = 3 * (i / 3) + i % 3 := by omega
    have hu := up_iff mu (i / 3) (i % 3) (by omega)
    rw [← hi3] at hu
    rw [hu]
    have hj : i / 3 < 12 := by omega
    have e3 : i / 3 * 3 + i % 3 = i := by omega
    rw [h.kind hj]
    by_cases hk : mu 2 (i / 3) = nI 1
    · obtain ⟨a1, a2, -⟩ := h.reg hj (k1_ne0 hk) (q := i % 3) (by omega)
      rw [e3] at a1 a2
      rw [a1, a2]
      exact ⟨fun q => ⟨hk, q⟩, fun q => q.2⟩
    · have a := (h.2.2.1.2.1.1 (i / 3) hj (by rw [rk_2 hj]; exact hk) (i % 3) (by omega)).1
      rw [e3, rk_7 hi] at a
      rw [a]
      exact ⟨fun q => absurd q.1 (by decide), fun q => absurd q.1 hk⟩)
section
variable (d L : Nat) (mu : RV) (p : Nat → Nat)
theorem z_enL : ∀ m k, k + m = 12 → zsem (d + 2) 44 13 [.inr (some 0), .inl (nI k)] [] (HH L (relS mu (fun _ => true) k) p) = zsem (d + 2) 44 13 [.inr (some 0), .inl (nI 12)] [] (HH L (relS mu (fun _ => true) 12) p) := by
  intro m
  induction m with
  | zero =>
    intro k hk
    have : k = 12 := by omega
    subst this
    rfl
  | succ m ih =>
    intro k hk
    rw [← ih (k + 1) (by omega), h44_13, relS_s _ _ k rfl]
    simp (disch := first | omega | assumption) only [h44_0, h44_1, h44_4, h44_5, h44_8, h44_11, h44_12, h44_14, h44_16, h44_19, h44_20, h44_23, h44_24, h44_27, h44_28, h44_31, h44_34, h44_35, h44_38, h44_41, h44_42, h44_44, h44_45, h44_48, h44_49, h44_52, h44_53, h44_56, h44_57, h44_60, h44_61, h44_64, h44_65, h44_68, h44_70, h44_71, h44_74, h44_75, h44_78, h44_81, h44_82, h44_85, h44_88, Option.bind_some, Option.toList_some, Option.toList_none, List.cons_append, List.nil_append, nI_ltc, nI_lec, nI_eqc, nI_ne5, n5_ne, n5_lt, bI_0, bI_1, nI_add, pk_mul, if_pos, if_neg, ite_not, if_true, if_false, not_true_eq_false, not_false_eq_true, true_and, false_and, and_true, and_false, Nat.reduceAdd, Nat.reduceMul, z_release]
theorem m_enL : ∀ m k, k + m = 12 → zsem (d + 2) 142 6 [.inr (some 105), .inl (nI k)] [] (HH L (taS mu (fun _ => true) k) p) = zsem (d + 2) 142 6 [.inr (some 105), .inl (nI 12)] [] (HH L (taS mu (fun _ => true) 12) p) := by
  intro m
  induction m with
  | zero =>
    intro k hk
    have : k = 12 := by omega
    subst this
    rfl
  | succ m ih =>
    intro k hk
    rw [← ih (k + 1) (by omega), h142_6, taS_s _ _ k rfl]
    simp (disch := first | omega | assumption) only [h142_0, h142_1, h142_4, h142_5, h142_7, h142_9, h142_12, h142_13, h142_14, h142_17, h142_20, h142_23, h142_24, h142_27, h142_28, h142_31, h142_32, h142_34, h142_35, h142_38, h142_39, h142_41, h142_42, h142_43, h142_44, h142_47, h142_50, h142_51, h142_53, h142_54, h142_57, h142_60, h142_63, h142_64, h142_67, Option.bind_some, Option.toList_some, Option.toList_none, List.cons_append, List.nil_append, nI_ltc, nI_lec, nI_eqc, nI_ne5, n5_ne, n5_lt, bI_0, bI_1, nI_add, pk_mul, if_pos, if_neg, ite_not, if_true, if_false, not_true_eq_false, not_false_eq_true, true_and, false_and, and_true, and_false, Nat.reduceAdd, Nat.reduceMul, m_takesAway]
/-- one space: class -/
theorem z_enS {R : RV} (hO : OK R) {s : Nat} (hs : s < 2) (hP : PL12 R s) (hR : rk mu 1 = R) : ∃ mu', zsem (d + 4) 44 43 [.inr (some 0), .inl (nI s)] [] (HH L mu p) = zsem (d + 4) 44 43 [.inr (some 0), .inl (nI (s + 1))] [] (HH L mu' p) ∧ rk mu' 1 = ovl R s (stF R s 12 0) ∧ OK (ovl R s (stF R s 12 0)) ∧ ∀ r, ¬r = 8 → ¬r = 10 → ¬r = 11 → (r < 81 ∨ 87 < r) → mu' r = mu r := by
  obtain ⟨mu1, e1, e2, e3⟩ := z_measure d L p hO hs mu hR
  have hr : PLr R s 12 0 := Or.inl ⟨rfl, rfl⟩
  obtain ⟨mu2, f1, f2, f3⟩ := z_place d L p hO hs (b0 := 12) (by omega) hr mu1 (by rw [← hR]; exact rk_cong (fun r _ _ => e2 r (by omega))) e3
  refine ⟨mu2, ?_, f2, OK_ovl hO hs hr (PL12_f hP).1, fun r a b c e => by rw [f3 r a b c (by omega) (by omega), e2 r (by omega)]⟩
  rw [h44_43]
  simp (disch := first | omega | assumption) only [h44_0, h44_1, h44_4, h44_5, h44_8, h44_11, h44_12, h44_14, h44_16, h44_19, h44_20, h44_23, h44_24, h44_27, h44_28, h44_31, h44_34, h44_35, h44_38, h44_41, h44_42, h44_44, h44_45, h44_48, h44_49, h44_52, h44_53, h44_56, h44_57, h44_60, h44_61, h44_64, h44_65, h44_68, h44_70, h44_71, h44_74, h44_75, h44_78, h44_81, h44_82, h44_85, h44_88, Option.bind_some, Option.toList_some, Option.toList_none, List.cons_append, List.nil_append, nI_ltc, nI_lec, nI_eqc, nI_ne5, n5_ne, n5_lt, bI_0, bI_1, nI_add, pk_mul, if_pos, if_neg, ite_not, if_true, if_false, not_true_eq_false, not_false_eq_true, true_and, false_and, and_true, and_false, Nat.reduceAdd, Nat.reduceMul, e1, f1]
theorem op_enumerate (h : Rel mu p) : Pair (d + 8) L 44 [.inr none] 142 [.inr none] mu p := by
  have hO := h.2.2.1
  obtain ⟨mu1, p1, e1, hr⟩ := z_rec (d + 6) L mu p h
  -- the racks
  have hO0 : OK (relS (rk mu 1) (fun _ => true) 12) := OK_rel hO (fun _ _ _ _ _ => rfl)
  have hl := fun d (hd : d < 12) => relS_l (R := rk mu 1) (f := fun _ => true) (n := 12) (d := d) ⟨hd, rfl⟩
  have hU : ∀ d, d < 12 → relS (rk mu 1) (fun _ => true) 12 12 d = -5 ∧ relS (rk mu 1) (fun _ => true) 12 13 d = -5 := fun d hd => ⟨(hl d hd).1, (hl d hd).2.1⟩
  have hO1 := OK_nb hO0 hU
  have hN1 := nb_N 5 (relS (rk mu 1) (fun _ => true) 12) 12 1
  have hP : ∀ s, s < 2 → PL12 (nbB 5 (relS (rk mu 1) (fun _ => true) 12) 12 1).1 s := fun s hs => by
    refine ⟨fun d q hd hq _ _ => ?_, fun d hd => ?_⟩
    · rw [hN1 8 (by omega) (by omega)]; exact (hl d hd).2.2.2 q hq
    · rw [hN1 10 (by omega) (by omega), hN1 11 (by omega) (by omega)]; exact (hl d hd).2.2.1 s hs
  obtain ⟨g, hg, hgp⟩ := hO0.2.2.1
  -- the class
  have hr0 : rk (relS mu1 (fun _ => true) 12) 1 = relS (rk mu 1) (fun _ => true) 12 := by rw [rk_relS (by omega), hr.rk]
  have z1 := z_enL (d + 6) L mu1 p1 12 0 rfl
  rw [relS_0] at z1
  obtain ⟨mu2, z2, z3, z4⟩ := z_nbB d L p1 hg 5 (by omega) (relS mu1 (fun _ => true) 12) _ 12 1 hr0 hO0.T hgp (by omega) (by omega)
  have z2' : zsem (d + 7) 45 0 [.inr (some 1)] [] (HH L (relS mu1 (fun _ => true) 12) p1) = some (none, HH L mu2 p1) := by
    have h65 : 6 - 5 = 1 := rfl
    rw [h65] at z2
    simp (disch := first | omega | assumption) only [h45_0, h45_1, h45_3, h45_4, h45_5, h45_8, h45_9, Option.bind_some, Option.toList_some, Option.toList_none, List.cons_append, List.nil_append, nI_ltc, nI_lec, nI_eqc, nI_ne5, n5_ne, n5_lt, bI_0, bI_1, nI_add, pk_mul, if_pos, if_neg, ite_not, if_true, if_false, not_true_eq_false, not_false_eq_true, true_and, false_and, and_true, and_false, Nat.reduceAdd, Nat.reduceMul, z2]
  obtain ⟨mu3, z5, z6, z7, z8⟩ := z_enS (d + 4) L mu2 p1 hO1 (s := 0) (by omega) (hP 0 (by omega)) z3
  have hP1 := PL12_1 hO1 (hP 0 (by omega)) (hP 1 (by omega))
  obtain ⟨mu4, z9, z10, z11, z12⟩ := z_enS (d + 4) L mu3 p1 z7 (s := 1) (by omega) hP1 z6
  have zc := z_countUnplaced (d + 7) L mu4 p1
  have zfr : ∀ a, a = 0 ∨ (14 ≤ a ∧ a ≤ 80) ∨ 104 ≤ a → mu4 a = mu1 a := fun a ha => by
    rw [z12 a (by omega) (by omega) (by omega) (by omega), z8 a (by omega) (by omega) (by omega) (by omega), z4 a (by omega) (by omega), relS_row (by omega)]
  -- the reference
  obtain ⟨m3, e2, hm⟩ := rec_m (d + 6) L h hr (mu2 := mu4) zfr
  have hB3 : RelB (rk mu 1) (fun t => m3 106 t) := RelB_cong h.B (fun t ht => hm.b0 ht)
  have y1 := m_enL (d + 6) L m3 p1 12 0 rfl
  rw [taS_0] at y1
  have hB4 := RelB_rel (f := fun _ => true) (n := 12) (by omega) hB3
  obtain ⟨m5, y2, y3, y4⟩ := m_numbers (d + 4) L p1 hg hO0.T hgp (taS m3 (fun _ => true) 12) hB4
  obtain ⟨m6, y5, y6, y7⟩ := m_reckons (d + 3) L p1 hO1 m5 y3
  have hB6 : RelB (nbB 5 (relS (rk mu 1) (fun _ => true) 12) 12 1).1 (fun t => m6 106 t) := RelB_cong y3 (fun t _ => by rw [y6.1 106 (by omega) (by omega)])
  obtain ⟨g0, hg0⟩ := ex_nI (m6 105 13)
  obtain ⟨n1, n2, y8, y9, y10, y11, y12⟩ := m_placing (d + 2) L p1 hO1 (s := 0) (b0 := 12) (x0 := 0) (by omega) (by omega) (Or.inl ⟨rfl, rfl⟩) (PL12_f (hP 0 (by omega))).2 m6 g0 hB6 (fun i hi h2 => y7 0 i (by omega) hi h2) hg0
  have hfL := fN_L (ovl_L (nbB 5 (relS (rk mu 1) (fun _ => true) 12) 12 1).1 0 (stF (nbB 5 (relS (rk mu 1) (fun _ => true) 12) 12 1).1 0 12 0)) 1
  obtain ⟨n3, n4, y13, y14, y15, y16, y17⟩ := m_placing (d + 2) L p1 z7 (s := 1) (b0 := 12) (x0 := 0) (by omega) (by omega) (Or.inl ⟨rfl, rfl⟩) (PL12_f hP1).2 n2 _ y10 (fun i hi h2 => by
    rw [ovl_L _ _ _ 2 (by omega) (by omega) (by omega)] at h2
    rw [hfL.1, hfL.2, y12.1 108 (by omega) (by omega) (by omega), y12.1 109 (by omega) (by omega) (by omega)]
    exact y7 1 i (by omega) hi h2) y11
  have hF : FrB m3 n4 := FrB.tr (mu1 := taS m3 (fun _ => true) 12) ⟨fun r q1 q2 _ => by
      funext i
      unfold taS
      rw [if_neg (by omega), if_neg (by omega)], fun i _ _ => by
      unfold taS
      rw [if_neg (by omega), if_neg (by omega)], fun t ht => taS_n0 (by omega)⟩ (FrB.tr ⟨fun r _ q2 _ => y4.1 r q2, fun i _ _ => by rw [y4.1 105 (by omega)], fun t ht => y4.2 t ht⟩ (FrB.tr y6.B (FrB.tr y12.B y17.B)))
  have hRel : Rel n4 p1 := fin_att hm z11 z10 y15 hF
  have mc := m_unplaced (d + 4) L n4 p1
  rw [← upl_eq hRel] at mc
  have r7 : n4 7 = mu4 7 := by rw [hF.1 7 (by omega) (by omega) (by omega), hm.c (by omega)]
  have r8 : n4 8 = mu4 8 := by rw [hF.1 8 (by omega) (by omega) (by omega), hm.c (by omega)]
  rw [r7, r8] at mc
  refine ⟨nI (cntP (fun i => nI 0 < mu4 7 i ∧ mu4 8 i = -5) 36), mu4, p1, n4, ?_, ?_, hRel⟩
  · have ze : zsem (d + 8) 44 13 [.inr (some 0), .inl (nI 0)] [] (HH L mu1 p1) = some (some (.inl (nI (cntP (fun i => nI 0 < mu4 7 i ∧ mu4 8 i = -5) 36))), HH L mu4 p1) := by
      rw [z1, h44_13]
      simp (disch := first | omega | assumption) only [h44_0, h44_1, h44_4, h44_5, h44_8, h44_11, h44_12, h44_14, h44_16, h44_19, h44_20, h44_23, h44_24, h44_27, h44_28, h44_31, h44_34, h44_35, h44_38, h44_41, h44_42, h44_44, h44_45, h44_48, h44_49, h44_52, h44_53, h44_56, h44_57, h44_60, h44_61, h44_64, h44_65, h44_68, h44_70, h44_71, h44_74, h44_75, h44_78, h44_81, h44_82, h44_85, h44_88, Option.bind_some, Option.toList_some, Option.toList_none, List.cons_append, List.nil_append, nI_ltc, nI_lec, nI_eqc, nI_ne5, n5_ne, n5_lt, bI_0, bI_1, nI_add, pk_mul, if_pos, if_neg, ite_not, if_true, if_false, not_true_eq_false, not_false_eq_true, true_and, false_and, and_true, and_false, Nat.reduceAdd, Nat.reduceMul, z2']
      rw [z5, z9, h44_43]
      simp (disch := first | omega | assumption) only [h44_0, h44_1, h44_4, h44_5, h44_8, h44_11, h44_12, h44_14, h44_16, h44_19, h44_20, h44_23, h44_24, h44_27, h44_28, h44_31, h44_34, h44_35, h44_38, h44_41, h44_42, h44_44, h44_45, h44_48, h44_49, h44_52, h44_53, h44_56, h44_57, h44_60, h44_61, h44_64, h44_65, h44_68, h44_70, h44_71, h44_74, h44_75, h44_78, h44_81, h44_82, h44_85, h44_88, Option.bind_some, Option.toList_some, Option.toList_none, List.cons_append, List.nil_append, nI_ltc, nI_lec, nI_eqc, nI_ne5, n5_ne, n5_lt, bI_0, bI_1, nI_add, pk_mul, if_pos, if_neg, ite_not, if_true, if_false, not_true_eq_false, not_false_eq_true, true_and, false_and, and_true, and_false, Nat.reduceAdd, Nat.reduceMul, zc]
    simp (disch := first | omega | assumption) only [h44_0, h44_1, h44_4, h44_5, h44_8, h44_11, h44_12, h44_14, h44_16, h44_19, h44_20, h44_23, h44_24, h44_27, h44_28, h44_31, h44_34, h44_35, h44_38, h44_41, h44_42, h44_44, h44_45, h44_48, h44_49, h44_52, h44_53, h44_56, h44_57, h44_60, h44_61, h44_64, h44_65, h44_68, h44_70, h44_71, h44_74, h44_75, h44_78, h44_81, h44_82, h44_85, h44_88, Option.bind_some, Option.toList_some, Option.toList_none, List.cons_append, List.nil_append, nI_ltc, nI_lec, nI_eqc, nI_ne5, n5_ne, n5_lt, bI_0, bI_1, nI_add, pk_mul, if_pos, if_neg, ite_not, if_true, if_false, not_true_eq_false, not_false_eq_true, true_and, false_and, and_true, and_false, Nat.reduceAdd, Nat.reduceMul, e1, ze]
  · have me : zsem (d + 8) 142 6 [.inr (some 105), .inl (nI 0)] [] (HH L m3 p1) = some (some (.inl (nI (cntP (fun i => nI 0 < mu4 7 i ∧ mu4 8 i = -5) 36))), HH L n4 p1) := by
      rw [y1, h142_6]
      simp (disch := first | omega | assumption) only [h142_0, h142_1, h142_4, h142_5, h142_7, h142_9, h142_12, h142_13, h142_14, h142_17, h142_20, h142_23, h142_24, h142_27, h142_28, h142_31, h142_32, h142_34, h142_35, h142_38, h142_39, h142_41, h142_42, h142_43, h142_44, h142_47, h142_50, h142_51, h142_53, h142_54, h142_57, h142_60, h142_63, h142_64, h142_67, Option.bind_some, Option.toList_some, Option.toList_none, List.cons_append, List.nil_append, nI_ltc, nI_lec, nI_eqc, nI_ne5, n5_ne, n5_lt, bI_0, bI_1, nI_add, pk_mul, if_pos, if_neg, ite_not, if_true, if_false, not_true_eq_false, not_false_eq_true, true_and, false_and, and_true, and_false, Nat.reduceAdd, Nat.reduceMul, y2, y5]
      rw [h142_33]
      simp (disch := first | omega | assumption) only [h142_0, h142_1, h142_4, h142_5, h142_7, h142_9, h142_12, h142_13, h142_14, h142_17, h142_20, h142_23, h142_24, h142_27, h142_28, h142_31, h142_32, h142_34, h142_35, h142_38, h142_39, h142_41, h142_42, h142_43, h142_44, h142_47, h142_50, h142_51, h142_53, h142_54, h142_57, h142_60, h142_63, h142_64, h142_67, Option.bind_some, Option.toList_some, Option.toList_none, List.cons_append, List.nil_append, nI_ltc, nI_lec, nI_eqc, nI_ne5, n5_ne, n5_lt, bI_0, bI_1, nI_add, pk_mul, if_pos, if_neg, ite_not, if_true, if_false, not_true_eq_false, not_false_eq_true, true_and, false_and, and_true, and_false, Nat.reduceAdd, Nat.reduceMul, m_addresses, y8, y9]
      rw [h142_33]
      simp (disch := first | omega | assumption) only [h142_0, h142_1, h142_4, h142_5, h142_7, h142_9, h142_12, h142_13, h142_14, h142_17, h142_20, h142_23, h142_24, h142_27, h142_28, h142_31, h142_32, h142_34, h142_35, h142_38, h142_39, h142_41, h142_42, h142_43, h142_44, h142_47, h142_50, h142_51, h142_53, h142_54, h142_57, h142_60, h142_63, h142_64, h142_67, Option.bind_some, Option.toList_some, Option.toList_none, List.cons_append, List.nil_append, nI_ltc, nI_lec, nI_eqc, nI_ne5, n5_ne, n5_lt, bI_0, bI_1, nI_add, pk_mul, if_pos, if_neg, ite_not, if_true, if_false, not_true_eq_false, not_false_eq_true, true_and, false_and, and_true, and_false, Nat.reduceAdd, Nat.reduceMul, m_addresses, y13, y14]
      rw [h142_33]
      simp (disch := first | omega | assumption) only [h142_0, h142_1, h142_4, h142_5, h142_7, h142_9, h142_12, h142_13, h142_14, h142_17, h142_20, h142_23, h142_24, h142_27, h142_28, h142_31, h142_32, h142_34, h142_35, h142_38, h142_39, h142_41, h142_42, h142_43, h142_44, h142_47, h142_50, h142_51, h142_53, h142_54, h142_57, h142_60, h142_63, h142_64, h142_67, Option.bind_some, Option.toList_some, Option.toList_none, List.cons_append, List.nil_append, nI_ltc, nI_lec, nI_eqc, nI_ne5, n5_ne, n5_lt, bI_0, bI_1, nI_add, pk_mul, if_pos, if_neg, ite_not, if_true, if_false, not_true_eq_false, not_false_eq_true, true_and, false_and, and_true, and_false, Nat.reduceAdd, Nat.reduceMul, mc]
    simp (disch := first | omega | assumption) only [h142_0, h142_1, h142_4, h142_5, h142_7, h142_9, h142_12, h142_13, h142_14, h142_17, h142_20, h142_23, h142_24, h142_27, h142_28, h142_31, h142_32, h142_34, h142_35, h142_38, h142_39, h142_41, h142_42, h142_43, h142_44, h142_47, h142_50, h142_51, h142_53, h142_54, h142_57, h142_60, h142_63, h142_64, h142_67, Option.bind_some, Option.toList_some, Option.toList_none, List.cons_append, List.nil_append, nI_ltc, nI_lec, nI_eqc, nI_ne5, n5_ne, n5_lt, bI_0, bI_1, nI_add, pk_mul, if_pos, if_neg, ite_not, if_true, if_false, not_true_eq_false, not_false_eq_true, true_and, false_and, and_true, and_false, Nat.reduceAdd, Nat.reduceMul, e2, me]
end
