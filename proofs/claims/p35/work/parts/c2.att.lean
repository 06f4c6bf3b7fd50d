/-! attach, as a function of the rack -/
theorem OpS_of {k : Nat} {ls : List AV} {R : RV} (hO : OK R) (hX : OX R) (h : ∀ (mu : RV) (p : Nat → Nat), Rel mu p → rk mu 1 = R → OpS k ls R) : OpS k ls R := by
  by_cases q : ∃ (mu : RV) (p : Nat → Nat), Rel mu p ∧ rk mu 1 = R
  · obtain ⟨mu, p, h1, h2⟩ := q
    exact h mu p h1 h2
  · exact ⟨nI 0, R, hO, hX, fun d L mu p hR hm => absurd ⟨mu, p, hR, hm⟩ q⟩
theorem CStep_one {R R' R'' : RV} {j q c c' : Nat} (hO : OK R) (hj : j < 12) (hq : q < 3) (h : CStep R j q R' c) (h' : CStep R j q R'' c') : R'' = R' ∧ c' = c := by
  rcases h with ⟨h1, rfl, rfl⟩ | ⟨s, n, v, g1, g2, g3, g4, g5, g6, g7, rfl, rfl⟩
  · rcases h' with ⟨-, rfl, rfl⟩ | ⟨s, n, v, g1, g2, g3, g4, g5, g6, g7, rfl, rfl⟩
    · exact ⟨rfl, rfl⟩
    · exact absurd ⟨by rw [g5, nI_eqc (by omega) (by omega)]; exact g3, g6⟩ h1
  · rcases h' with ⟨h1, rfl, rfl⟩ | ⟨s', n', v', f1, f2, f3, f4, f5, f6, f7, rfl, rfl⟩
    · exact absurd ⟨by rw [g5, nI_eqc (by omega) (by omega)]; exact g3, g6⟩ h1
    · have e1 : s' = s := by rw [g4, nI_eqc (by omega) (by omega)] at f4; exact f4.symm
      have e2 : n' = n := by rw [g5, nI_eqc (by omega) (by omega)] at f5; exact f5.symm
      subst e1
      subst e2
      have e3 := FSp_one g7 f7
      subst e3
      exact ⟨rfl, rfl⟩
theorem WStep_one {R R' R'' : RV} {j s c c' : Nat} (h : WStep R j s R' c) (h' : WStep R j s R'' c') : R'' = R' ∧ c' = c := by
  rcases h with ⟨h1, rfl, rfl⟩ | ⟨h1, h2, h3, rfl, rfl⟩ | ⟨y, y1, y2, y3, y4, rfl, rfl⟩
  · rcases h' with ⟨-, rfl, rfl⟩ | ⟨-, -, -, rfl, rfl⟩ | ⟨y, y1, y2, y3, y4, -, -⟩
    · exact ⟨rfl, rfl⟩
    · exact ⟨rfl, rfl⟩
    · rcases h1 with h1 | h1
      · exact absurd h1 y2
      · exact absurd y3 h1
  · rcases h' with ⟨-, rfl, rfl⟩ | ⟨-, -, -, rfl, rfl⟩ | ⟨y, y1, y2, y3, y4, -, -⟩
    · exact ⟨rfl, rfl⟩
    · exact ⟨rfl, rfl⟩
    · have := FSp_one h3 y4
      rw [nI_ne5 (by omega)] at this
      exact this.elim
  · rcases h' with ⟨h1, rfl, rfl⟩ | ⟨-, -, h3, -, -⟩ | ⟨z, z1, z2, z3, z4, rfl, rfl⟩
    · rcases h1 with h1 | h1
      · exact absurd h1 y2
      · exact absurd y3 h1
    · have := FSp_one h3 y4
      rw [nI_ne5 (by omega)] at this
      exact this.elim
    · have := FSp_one y4 z4
      rw [nI_eqc (by omega) (by omega)] at this
      subst this
      exact ⟨rfl, rfl⟩
theorem W12 {R R' : RV} {j s c : Nat} (h : WStep R j s R' c) : R' 12 = R 12 := by
  rcases h with ⟨-, rfl, -⟩ | ⟨-, -, -, rfl, -⟩ | ⟨y, y1, y2, y3, y4, rfl, -⟩
  · rfl
  · rfl
  · rw [ovl_L _ s _ 12 (by omega) (by omega) (by omega)]
    exact opn_L R s j y 12 (by omega) (by omega) (by omega)
/-- what attach reads of the device and its bus -/
theorem at_bus {R : RV} (hO : OK R) {j : Nat} (hj : j < 12) (hk : ¬R 2 j = nI 0) : (bn R j < 12 ∧ R 2 (bn R j) = nI 2 ∧ R 12 (bn R j) = -5) ∨ ∃ nb la, numb R (bn R j) nb la := by
  rcases bus_ok hO hj hk with q | ⟨q1, q2⟩
  · exact Or.inr ⟨0, 15, Or.inl ⟨q, rfl, rfl⟩⟩
  · rcases hO.2.2.2.2.2.1.1 _ q1 with ⟨n1, -⟩ | ⟨a, b, n⟩
    · exact Or.inl ⟨q1, q2, n1⟩
    · exact Or.inr ⟨a, b, Or.inr ⟨q1, n⟩⟩
theorem at_nb {R : RV} {j nb la : Nat} (h : numb R (bn R j) nb la) : nb < 16 := by
  rcases h with ⟨-, q, -⟩ | ⟨-, q⟩
  · omega
  · have := q.2.2.2; omega
theorem at_zn {R : RV} (hO : OK R) {j : Nat} (d L : Nat) {mu : RV} (p : Nat → Nat) (hm : rk mu 1 = R) {nb la : Nat} (h : numb R (bn R j) nb la) : zsem (d + 1) 95 0 [.inr (.inl (some 1)), .inl (nI (bn R j))] [] (HH L mu p) = some (some (.inl (nI nb)), HH L mu p) := by
  rcases h with ⟨q1, q2, -⟩ | ⟨q1, q2⟩
  · rw [q1, q2]; exact z_numberOf_r d L p mu
  · have := z_numberOf_b d L p mu _ q1 (by rw [← rk_2 (mu := mu) q1, hm]; exact numd_k hO.2.1 q1 q2)
    rw [← rk_12 (mu := mu) q1, hm, q2.1] at this
    exact this
theorem at_m3 {R : RV} (hO : OK R) {j : Nat} (hj : j < 12) {mu : RV} (hm : rk mu 1 = R) (hk : ¬R 2 j = nI 0) : mu 3 j = nI (bn R j) := by
  rw [← (hO.T.bus hj hk).2.1, ← hm, rk_3 hj]
/-- a card on a bus with a number -/
theorem op_attC {R : RV} (hO : OK R) (hX : OX R) {j : Nat} (hj : j < 12) (h1 : R 2 j = nI 1) {nb la : Nat} (hnb : numb R (bn R j) nb la) {R1 R2 R3 : RV} {c0 c1 c2 : Nat} (s0 : CStep R j 0 R1 c0) (s1 : CStep R1 j 1 R2 c1) (s2 : CStep R2 j 2 R3 c2) : OK R3 ∧ OX R3 ∧ Op 94 [.inr (.inl (some 0)), .inl (nI j)] R (nI (c0 + c1 + c2)) R3 := by
  obtain ⟨hO1, k1, l0⟩ := CStep_OK hO hj (by omega) h1 s0
  obtain ⟨hO2, k2, l1⟩ := CStep_OK hO1 hj (by omega) k1 s1
  obtain ⟨hO3, k3, l2⟩ := CStep_OK hO2 hj (by omega) k2 s2
  have hX1 := OX_CStep hX (by omega) s0
  have hX2 := OX_CStep hX1 (by omega) s1
  have hX3 := OX_CStep hX2 (by omega) s2
  refine ⟨hO3, hX3, fun d L mu p hR hm => ?_⟩
  have hk : ¬mu 2 j = nI 0 := by rw [← rk_2 (mu := mu) hj, hm]; exact k1_ne0 h1
  have h1m : mu 2 j = nI 1 := by rw [← rk_2 (mu := mu) hj, hm]; exact h1
  have m3 := at_m3 hO hj hm (k1_ne0 h1)
  have zn := at_zn hO (d + 6) L p hm hnb
  have hnb15 := at_nb hnb
  have ok5 : ¬nI nb = -5 := fun q => by rw [nI_ne5 (by omega)] at q; exact q
  obtain ⟨mu1, p1, mu2, T1, T2, T3, d0, d1, d2, e1, hr, t0, t1, t2, r3, fr⟩ := z_attachCard (d + 3) L mu p hR hj (by rw [hm]; exact h1)
  rw [hm] at t0
  obtain ⟨rfl, rfl⟩ := CStep_one hO hj (by omega) s0 t0
  obtain ⟨rfl, rfl⟩ := CStep_one hO1 hj (by omega) s1 t1
  obtain ⟨rfl, rfl⟩ := CStep_one hO2 hj (by omega) s2 t2
  refine Or.inr ⟨pos_nI (by omega), mu1, p1, mu2, hr, fun a ha => fr a (by omega), r3, ?_⟩
  simp (disch := first | omega | assumption) only [h94_0, h94_1, h94_4, h94_5, h94_8, h94_11, h94_12, h94_13, h94_14, h94_17, h94_18, h94_21, h94_24, h94_25, h94_26, h94_29, h94_31, h94_34, h94_36, h94_37, h94_38, h94_41, h94_42, h94_45, h94_48, h94_49, h94_50, h94_53, h94_56, h94_57, h94_58, h94_61, Option.bind_some, Option.toList_some, Option.toList_none, List.cons_append, List.nil_append, nI_ltc, nI_lec, nI_eqc, nI_ne5, n5_ne, n5_lt, bI_0, bI_1, nI_add, pk_mul, if_pos, if_neg, ite_not, if_true, if_false, not_true_eq_false, not_false_eq_true, true_and, false_and, and_true, and_false, Nat.reduceAdd, Nat.reduceMul, z_isDevice_n, hk, m3, zn, ok5, z_isCard_n, h1m, e1]
/-- the bus has no number -/
theorem op_attN {R : RV} (hO : OK R) {j : Nat} (hj : j < 12) (hk : ¬R 2 j = nI 0) (b1 : bn R j < 12) (b2 : R 2 (bn R j) = nI 2) (b3 : R 12 (bn R j) = -5) (d L : Nat) (mu : RV) (p : Nat → Nat) (hR : Rel mu p) (hm : rk mu 1 = R) : zsem (d + 8) 94 0 [.inr (.inl (some 0)), .inl (nI j)] [] (HH L mu p) = some (some (.inl (-4)), HH L mu p) := by
  have hkm : ¬mu 2 j = nI 0 := by rw [← rk_2 (mu := mu) hj, hm]; exact hk
  have m3 := at_m3 hO hj hm hk
  have zn := z_numberOf_b (d + 6) L p mu _ b1 (by rw [← rk_2 (mu := mu) b1, hm]; exact b2)
  rw [← rk_12 (mu := mu) b1, hm, b3] at zn
  simp (disch := first | omega | assumption) only [h94_0, h94_1, h94_4, h94_5, h94_8, h94_11, h94_12, h94_13, h94_14, h94_17, h94_18, h94_21, h94_24, h94_25, h94_26, h94_29, h94_31, h94_34, h94_36, h94_37, h94_38, h94_41, h94_42, h94_45, h94_48, h94_49, h94_50, h94_53, h94_56, h94_57, h94_58, h94_61, Option.bind_some, Option.toList_some, Option.toList_none, List.cons_append, List.nil_append, nI_ltc, nI_lec, nI_eqc, nI_ne5, n5_ne, n5_lt, bI_0, bI_1, nI_add, pk_mul, if_pos, if_neg, ite_not, if_true, if_false, not_true_eq_false, not_false_eq_true, true_and, false_and, and_true, and_false, Nat.reduceAdd, Nat.reduceMul, z_isDevice_n, hkm, m3, zn, eq_self]
theorem op_attach_s {R : RV} (hO : OK R) (hX : OX R) {j : Nat} (hj : j < 12) : OpS 94 [.inr (.inl (some 0)), .inl (nI j)] R := by
  refine OpS_of hO hX (fun mu0 p0 hR0 hm0 => ?_)
  by_cases hk : R 2 j = nI 0
  · refine Op_no (v := -1) hO hX p1_lt (fun d L mu p hR hm => ?_)
    have hk' : mu 2 j = nI 0 := by rw [← rk_2 (mu := mu) hj, hm]; exact hk
    simp (disch := first | omega | assumption) only [h94_0, h94_1, h94_4, h94_5, h94_8, h94_11, h94_12, h94_13, h94_14, h94_17, h94_18, h94_21, h94_24, h94_25, h94_26, h94_29, h94_31, h94_34, h94_36, h94_37, h94_38, h94_41, h94_42, h94_45, h94_48, h94_49, h94_50, h94_53, h94_56, h94_57, h94_58, h94_61, Option.bind_some, Option.toList_some, Option.toList_none, List.cons_append, List.nil_append, nI_ltc, nI_lec, nI_eqc, nI_ne5, n5_ne, n5_lt, bI_0, bI_1, nI_add, pk_mul, if_pos, if_neg, ite_not, if_true, if_false, not_true_eq_false, not_false_eq_true, true_and, false_and, and_true, and_false, Nat.reduceAdd, Nat.reduceMul, z_isDevice_n, hk']
  rcases at_bus hO hj hk with ⟨b1, b2, b3⟩ | ⟨nb, la, hnb⟩
  · exact Op_no (v := -4) hO hX p4_lt (op_attN hO hj hk b1 b2 b3)
  have hnb15 := at_nb hnb
  have ok5 : ¬nI nb = -5 := fun q => by rw [nI_ne5 (by omega)] at q; exact q
  rcases (hO.1.1 j hj).resolve_left hk with h1 | h1
  · -- a card
    obtain ⟨-, -, -, R1, R2, R3, c0, c1, c2, -, -, s0, s1, s2, -, -⟩ := z_attachCard 0 0 mu0 p0 hR0 hj (by rw [hm0]; exact h1)
    rw [hm0] at s0
    obtain ⟨a1, a2, a3⟩ := op_attC hO hX hj h1 hnb s0 s1 s2
    exact ⟨_, _, a1, a2, a3⟩
  · -- a bridge
    have h2R : R 2 j = nI 2 := h1
    rcases hO.2.2.2.2.2.1.1 j hj with ⟨x1, x2⟩ | ⟨a, b, hab⟩
    · obtain ⟨v0, -, f0⟩ := z_leastFor 0 0 p0 hO hj hk hnb mu0 hm0
      have lf : ∀ (d L : Nat) (mu : RV) (p : Nat → Nat), rk mu 1 = R → zsem (d + 2) 98 0 [.inr (.inl (some 1)), .inl (nI j), .inr (.inl none), .inr (.inl none), .inr (.inl none)] [] (HH L mu p) = some (some (.inl v0), HH L mu p) := fun d L mu p hm => by
        obtain ⟨v, e1, e2⟩ := z_leastFor d L p hO hj hk hnb mu hm
        rw [NSp_one f0 e2] at e1
        exact e1
      rcases NSp_v f0 with rfl | ⟨n, hn, rfl⟩
      · refine Op_no (v := -4) hO hX p4_lt (fun d L mu p hR hm => ?_)
        have hkm : ¬mu 2 j = nI 0 := by rw [← rk_2 (mu := mu) hj, hm]; exact hk
        have h1m : mu 2 j = nI 2 := by rw [← rk_2 (mu := mu) hj, hm]; exact h1
        have m3 := at_m3 hO hj hm hk
        have zn := at_zn hO (d + 6) L p hm hnb
        have hcn := z_isNumbered_n (d + 6) L mu p j hj
        have m12 : mu 12 j = -5 := by rw [← rk_12 (mu := mu) hj, hm]; exact x1
        rw [bI_f (fun q => q m12)] at hcn
        have e0 := lf (d + 4) L mu p hm
        have zb : zsem (d + 7) 97 0 [.inr (.inl (some 0)), .inl (nI j), .inr (.inl none), .inr (.inl none)] [] (HH L mu p) = some (some (.inl (-4)), HH L mu p) := by
          simp (disch := first | omega | assumption) only [h97_0, h97_1, h97_4, h97_5, h97_8, h97_11, h97_12, h97_15, h97_16, h97_17, h97_18, h97_21, h97_22, h97_25, h97_26, h97_29, h97_32, h97_33, h97_36, h97_39, h97_40, h97_41, h97_42, h97_43, h97_45, h97_48, h97_50, h97_51, h97_52, h97_55, h97_56, h97_59, h97_62, h97_63, h97_66, h97_67, h97_70, h97_73, h97_74, h97_75, h97_76, h97_77, h97_80, h97_83, h97_84, h97_85, h97_86, h97_87, h97_88, h97_89, h97_92, h97_93, h97_94, h97_95, h97_98, h97_99, Option.bind_some, Option.toList_some, Option.toList_none, List.cons_append, List.nil_append, nI_ltc, nI_lec, nI_eqc, nI_ne5, n5_ne, n5_lt, bI_0, bI_1, nI_add, pk_mul, if_pos, if_neg, ite_not, if_true, if_false, not_true_eq_false, not_false_eq_true, true_and, false_and, and_true, and_false, Nat.reduceAdd, Nat.reduceMul, hcn, e0, eq_self]
        simp (disch := first | omega | assumption) only [h94_0, h94_1, h94_4, h94_5, h94_8, h94_11, h94_12, h94_13, h94_14, h94_17, h94_18, h94_21, h94_24, h94_25, h94_26, h94_29, h94_31, h94_34, h94_36, h94_37, h94_38, h94_41, h94_42, h94_45, h94_48, h94_49, h94_50, h94_53, h94_56, h94_57, h94_58, h94_61, Option.bind_some, Option.toList_some, Option.toList_none, List.cons_append, List.nil_append, nI_ltc, nI_lec, nI_eqc, nI_ne5, n5_ne, n5_lt, bI_0, bI_1, nI_add, pk_mul, if_pos, if_neg, ite_not, if_true, if_false, not_true_eq_false, not_false_eq_true, true_and, false_and, and_true, and_false, Nat.reduceAdd, Nat.reduceMul, z_isDevice_n, hkm, m3, zn, ok5, z_isCard_n, h1m, zb]
      · have okn : ¬nI n = -5 := fun q => by rw [nI_ne5 (by omega)] at q; exact q
        have hOn := OK_num hO hj h2R x1 f0 (by omega)
        have hXn := OX_num (R := R) (j := j) (n := n) (m := n) hX (by omega)
        have h2n : u2 (u2 R 12 j (nI n)) 13 j (nI n) 2 j = nI 2 := by rw [u2_row (by omega), u2_row (by omega)]; exact h2R
        have h12n : ¬u2 (u2 R 12 j (nI n)) 13 j (nI n) 12 j = -5 := by rw [u2_row (by omega), u2_s]; exact okn
        have rkn : ∀ {mu : RV}, rk mu 1 = R → rk (u2 (u2 mu 12 j (nI n)) 13 j (nI n)) 1 = u2 (u2 R 12 j (nI n)) 13 j (nI n) := fun {mu} hm => by
          rw [rk_u (by omega) (show j < 12 from hj), rk_u (by omega) (show j < 12 from hj), hm]
        obtain ⟨R1, R2, c0, c1, -, -, -, -, s0, s1, -, hO2, -, l0, l1⟩ := z_windows 0 0 (u2 (u2 mu0 12 j (nI n)) 13 j (nI n)) p0 hOn hj h2n (rkn hm0)
        obtain ⟨hO1, k1⟩ := WStep_OK hOn hj (by omega) h2n s0
        have hX1 := OX_WStep hOn hXn hj (by omega) h2n h12n s0
        have h12' : ¬R1 12 j = -5 := by rw [W12 s0]; exact h12n
        refine ⟨nI (c0 + c1), R2, hO2, OX_WStep hO1 hX1 hj (by omega) k1 h12' s1, fun d L mu p hR hm => ?_⟩
        have hkm : ¬mu 2 j = nI 0 := by rw [← rk_2 (mu := mu) hj, hm]; exact hk
        have h1m : mu 2 j = nI 2 := by rw [← rk_2 (mu := mu) hj, hm]; exact h1
        have m3 := at_m3 hO hj hm hk
        have zn := at_zn hO (d + 6) L p hm hnb
        have hcn := z_isNumbered_n (d + 6) L mu p j hj
        have m12 : mu 12 j = -5 := by rw [← rk_12 (mu := mu) hj, hm]; exact x1
        rw [bI_f (fun q => q m12)] at hcn
        have e0 := lf (d + 4) L mu p hm
        obtain ⟨mu1, p1, e1, hr⟩ := z_rec (d + 5) L mu p hR
        obtain ⟨T1, T2, d0, d1, ma, mb, z1, z2, t0, t1, r2, -, fr, -, -⟩ := z_windows (d + 2) L (u2 (u2 mu1 12 j (nI n)) 13 j (nI n)) p1 hOn hj h2n (rkn (by rw [hr.rk]; exact hm))
        obtain ⟨rfl, rfl⟩ := WStep_one s0 t0
        obtain ⟨rfl, rfl⟩ := WStep_one s1 t1
        have zb : zsem (d + 7) 97 0 [.inr (.inl (some 0)), .inl (nI j), .inr (.inl none), .inr (.inl none)] [] (HH L mu p) = some (some (.inl (nI (d0 + d1))), HH L mb p1) := by
          simp (disch := first | omega | assumption) only [h97_0, h97_1, h97_4, h97_5, h97_8, h97_11, h97_12, h97_15, h97_16, h97_17, h97_18, h97_21, h97_22, h97_25, h97_26, h97_29, h97_32, h97_33, h97_36, h97_39, h97_40, h97_41, h97_42, h97_43, h97_45, h97_48, h97_50, h97_51, h97_52, h97_55, h97_56, h97_59, h97_62, h97_63, h97_66, h97_67, h97_70, h97_73, h97_74, h97_75, h97_76, h97_77, h97_80, h97_83, h97_84, h97_85, h97_86, h97_87, h97_88, h97_89, h97_92, h97_93, h97_94, h97_95, h97_98, h97_99, Option.bind_some, Option.toList_some, Option.toList_none, List.cons_append, List.nil_append, nI_ltc, nI_lec, nI_eqc, nI_ne5, n5_ne, n5_lt, bI_0, bI_1, nI_add, pk_mul, if_pos, if_neg, ite_not, if_true, if_false, not_true_eq_false, not_false_eq_true, true_and, false_and, and_true, and_false, Nat.reduceAdd, Nat.reduceMul, hcn, e0, okn, e1, z1, z2]
        refine Or.inr ⟨pos_nI (by omega), mu1, p1, mb, hr, fun a ha => by rw [fr a (by omega) (by omega) (by omega) (by omega), u2_row (by omega), u2_row (by omega)], r2, ?_⟩
        simp (disch := first | omega | assumption) only [h94_0, h94_1, h94_4, h94_5, h94_8, h94_11, h94_12, h94_13, h94_14, h94_17, h94_18, h94_21, h94_24, h94_25, h94_26, h94_29, h94_31, h94_34, h94_36, h94_37, h94_38, h94_41, h94_42, h94_45, h94_48, h94_49, h94_50, h94_53, h94_56, h94_57, h94_58, h94_61, Option.bind_some, Option.toList_some, Option.toList_none, List.cons_append, List.nil_append, nI_ltc, nI_lec, nI_eqc, nI_ne5, n5_ne, n5_lt, bI_0, bI_1, nI_add, pk_mul, if_pos, if_neg, ite_not, if_true, if_false, not_true_eq_false, not_false_eq_true, true_and, false_and, and_true, and_false, Nat.reduceAdd, Nat.reduceMul, z_isDevice_n, hkm, m3, zn, ok5, z_isCard_n, h1m, zb]
    · have x12 : ¬R 12 j = -5 := by rw [hab.1, nI_ne5 (by have := hab.2.2; omega)]; exact id
      obtain ⟨R1, R2, c0, c1, -, -, -, -, s0, s1, -, hO2, -, l0, l1⟩ := z_windows 0 0 mu0 p0 hO hj h2R hm0
      obtain ⟨hO1, k1⟩ := WStep_OK hO hj (by omega) h2R s0
      have hX1 := OX_WStep hO hX hj (by omega) h2R x12 s0
      have h12' : ¬R1 12 j = -5 := by rw [W12 s0]; exact x12
      refine ⟨nI (c0 + c1), R2, hO2, OX_WStep hO1 hX1 hj (by omega) k1 h12' s1, fun d L mu p hR hm => ?_⟩
      have hkm : ¬mu 2 j = nI 0 := by rw [← rk_2 (mu := mu) hj, hm]; exact hk
      have h1m : mu 2 j = nI 2 := by rw [← rk_2 (mu := mu) hj, hm]; exact h1
      have m3 := at_m3 hO hj hm hk
      have zn := at_zn hO (d + 6) L p hm hnb
      have hcn := z_isNumbered_n (d + 6) L mu p j hj
      have m12 : mu 12 j = nI a := by rw [← rk_12 (mu := mu) hj, hm]; exact hab.1
      have oka : ¬nI a = -5 := fun q => by rw [nI_ne5 (by have := hab.2.2; omega)] at q; exact q
      rw [bI_t (by rw [m12]; exact oka)] at hcn
      obtain ⟨mu1, p1, e1, hr⟩ := z_rec (d + 5) L mu p hR
      obtain ⟨T1, T2, d0, d1, ma, mb, z1, z2, t0, t1, r2, -, fr, -, -⟩ := z_windows (d + 2) L mu1 p1 hO hj h2R (by rw [hr.rk]; exact hm)
      obtain ⟨rfl, rfl⟩ := WStep_one s0 t0
      obtain ⟨rfl, rfl⟩ := WStep_one s1 t1
      have zb : zsem (d + 7) 97 0 [.inr (.inl (some 0)), .inl (nI j), .inr (.inl none), .inr (.inl none)] [] (HH L mu p) = some (some (.inl (nI (d0 + d1))), HH L mb p1) := by
        simp (disch := first | omega | assumption) only [h97_0, h97_1, h97_4, h97_5, h97_8, h97_11, h97_12, h97_15, h97_16, h97_17, h97_18, h97_21, h97_22, h97_25, h97_26, h97_29, h97_32, h97_33, h97_36, h97_39, h97_40, h97_41, h97_42, h97_43, h97_45, h97_48, h97_50, h97_51, h97_52, h97_55, h97_56, h97_59, h97_62, h97_63, h97_66, h97_67, h97_70, h97_73, h97_74, h97_75, h97_76, h97_77, h97_80, h97_83, h97_84, h97_85, h97_86, h97_87, h97_88, h97_89, h97_92, h97_93, h97_94, h97_95, h97_98, h97_99, Option.bind_some, Option.toList_some, Option.toList_none, List.cons_append, List.nil_append, nI_ltc, nI_lec, nI_eqc, nI_ne5, n5_ne, n5_lt, bI_0, bI_1, nI_add, pk_mul, if_pos, if_neg, ite_not, if_true, if_false, not_true_eq_false, not_false_eq_true, true_and, false_and, and_true, and_false, Nat.reduceAdd, Nat.reduceMul, hcn, m12, oka, e1, z1, z2]
      refine Or.inr ⟨pos_nI (by omega), mu1, p1, mb, hr, fun a ha => fr a (by omega) (by omega) (by omega) (by omega), r2, ?_⟩
      simp (disch := first | omega | assumption) only [h94_0, h94_1, h94_4, h94_5, h94_8, h94_11, h94_12, h94_13, h94_14, h94_17, h94_18, h94_21, h94_24, h94_25, h94_26, h94_29, h94_31, h94_34, h94_36, h94_37, h94_38, h94_41, h94_42, h94_45, h94_48, h94_49, h94_50, h94_53, h94_56, h94_57, h94_58, h94_61, Option.bind_some, Option.toList_some, Option.toList_none, List.cons_append, List.nil_append, nI_ltc, nI_lec, nI_eqc, nI_ne5, n5_ne, n5_lt, bI_0, bI_1, nI_add, pk_mul, if_pos, if_neg, ite_not, if_true, if_false, not_true_eq_false, not_false_eq_true, true_and, false_and, and_true, and_false, Nat.reduceAdd, Nat.reduceMul, z_isDevice_n, hkm, m3, zn, ok5, z_isCard_n, h1m, zb]
