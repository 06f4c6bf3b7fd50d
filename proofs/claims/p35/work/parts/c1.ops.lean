/-! the actions, as functions of the rack -/
/-- the method k with these locals answers v and leaves the rack R', whatever the history is -/
def Op (k : Nat) (ls : List AV) (R : RV) (v : Int32) (R' : RV) : Prop := ∀ (d L : Nat) (mu : RV) (p : Nat → Nat), Rel mu p → rk mu 1 = R →
  (v < nI 0 ∧ R' = R ∧ ∃ mu', FrS mu mu' ∧ zsem (d + 8) k 0 ls [] (HH L mu p) = some (some (.inl v), HH L mu' p)) ∨
  (nI 0 ≤ v ∧ ∃ mu1 p1 mu', Rec mu p mu1 p1 ∧ (∀ a, (14 ≤ a ∧ a ≤ 80) → mu' a = mu1 a) ∧ rk mu' 1 = R' ∧ zsem (d + 8) k 0 ls [] (HH L mu p) = some (some (.inl v), HH L mu' p1))
def OpS (k : Nat) (ls : List AV) (R : RV) : Prop := ∃ v R', OK R' ∧ OX R' ∧ Op k ls R v R'
theorem Rel.same {mu mu' : RV} {p : Nat → Nat} (h : Rel mu p) (he : mu' = mu) : Rel mu' p := by rw [he]; exact h
theorem FrS.r (mu : RV) : FrS mu mu := fun r _ => rfl
theorem p1_lt : (-1 : Int32) < nI 0 := by decide
theorem p4_lt : (-4 : Int32) < nI 0 := by decide
theorem p3_lt : (-3 : Int32) < nI 0 := by decide
theorem pos_nI {n : Nat} (h : n < 2147483648) : nI 0 ≤ nI n := by rw [nI_lec (by omega) h]; exact Nat.zero_le _
/-- a refusal -/
theorem Op_no {k : Nat} {ls : List AV} {R : RV} {v : Int32} (hO : OK R) (hX : OX R) (hv : v < nI 0) (h : ∀ (d L : Nat) (mu : RV) (p : Nat → Nat), Rel mu p → rk mu 1 = R → zsem (d + 8) k 0 ls [] (HH L mu p) = some (some (.inl v), HH L mu p)) : OpS k ls R :=
  ⟨v, R, hO, hX, fun d L mu p hR hk => Or.inl ⟨hv, rfl, mu, FrS.r mu, h d L mu p hR hk⟩⟩
/-- a card or a bridge is added -/
theorem op_add {R : RV} (hO : OK R) (hX : OX R) {k : Int32} (hk : k = nI 1 ∨ k = nI 2) {b s : Nat} (hb : b < 13) (hs : s < 4) : OpS 9 [.inr (.inl (some 0)), .inl k, .inl (nI b), .inl (nI s), .inr (.inl none)] R := by
  have hI := hO.1
  by_cases hbk : b = 12 ∨ R 2 b = nI 2
  · have hbm : ∀ {mu : RV}, rk mu 1 = R → b = 12 ∨ mu 2 b = nI 2 := fun {mu} e => by
      by_cases g : b < 12
      · exact Or.inr (by rw [← rk_2 (mu := mu) g, e]; exact hbk.resolve_left (by omega))
      · exact Or.inl (by omega)
    have hbr : b < 12 → R 2 b = nI 2 := fun q => hbk.resolve_left (by omega)
    have hrt : rt R 5 b := by
      by_cases q : b < 12
      · exact Or.inr ⟨q, hbr q, hI.2.2.2 b q (k2_ne0 (hbr q))⟩
      · exact Or.inl (by omega)
    have hd5 := @dpt_le R 5 b
    have c5 : ∀ (d L : Nat) {mu : RV} (p : Nat → Nat), rk mu 1 = R → zsem (d + 7) 14 0 [.inr (.inl (some 1)), .inl (nI b), .inr (.inl none), .inr (.inl none)] [] (HH L mu p) = some (some (.inl (nI (dpt R 5 b))), HH L mu p) := fun d L {mu} p e => by
      have := z_depthOfBus (d + 6) L mu p (fun x hx hkx => by
        obtain ⟨q1, q2, -⟩ := hI.bus hx (by rw [← e, rk_2 hx]; exact k2_ne0 hkx)
        exact ⟨_, q1, by rw [← rk_3 (mu := mu) hx, e]; exact q2⟩) b hb
      rw [e] at this
      exact this
    by_cases he : R 5 (b * 4 + s) = -5
    · by_cases h5 : dpt R 5 b = 5
      · refine Op_no (v := -4) hO hX p4_lt (fun d L mu p hR hm => ?_)
        have c1 := y_isBus (d + 6) L mu p b hb (hbm hm)
        have c5 := c5 d L p hm
        rw [h5] at c5
        have he' : mu 5 (b * 4 + s) = -5 := by rw [← rk_5 (mu := mu) (by omega), hm]; exact he
        simp (disch := first | omega | assumption) only [h9_0, h9_1, h9_4, h9_5, h9_8, h9_11, h9_12, h9_13, h9_14, h9_17, h9_20, h9_22, h9_23, h9_24, h9_27, h9_28, h9_29, h9_32, h9_34, h9_37, h9_38, h9_41, h9_42, h9_45, h9_46, h9_49, h9_51, h9_52, h9_53, h9_56, h9_59, h9_61, h9_63, h9_65, h9_68, h9_70, h9_71, h9_72, h9_75, h9_76, h9_79, h9_82, h9_83, h9_86, h9_88, h9_89, h9_90, h9_91, h9_94, h9_96, Option.bind_some, Option.toList_some, Option.toList_none, List.cons_append, List.nil_append, nI_ltc, nI_lec, nI_eqc, nI_ne5, n5_ne, n5_lt, bI_0, bI_1, nI_add, pk_mul, if_pos, if_neg, ite_not, if_true, if_false, not_true_eq_false, not_false_eq_true, true_and, false_and, and_true, and_false, Nat.reduceAdd, Nat.reduceMul, c1, z_isSlot_n, z_deviceAt_n, he', c5]
      · by_cases hall : ∀ x, x < 12 → ¬R 2 x = nI 0
        · refine Op_no (v := -3) hO hX p3_lt (fun d L mu p hR hm => ?_)
          have c1 := y_isBus (d + 6) L mu p b hb (hbm hm)
          have c5 := c5 d L p hm
          have he' : mu 5 (b * 4 + s) = -5 := by rw [← rk_5 (mu := mu) (by omega), hm]; exact he
          rcases z_leastFree (d + 7) L mu p with ⟨j, hj, hj0, hjl, c6⟩ | ⟨-, c6⟩
          · exact absurd (by rw [← hm, rk_2 hj]; exact hj0) (hall j hj)
          · simp (disch := first | omega | assumption) only [h9_0, h9_1, h9_4, h9_5, h9_8, h9_11, h9_12, h9_13, h9_14, h9_17, h9_20, h9_22, h9_23, h9_24, h9_27, h9_28, h9_29, h9_32, h9_34, h9_37, h9_38, h9_41, h9_42, h9_45, h9_46, h9_49, h9_51, h9_52, h9_53, h9_56, h9_59, h9_61, h9_63, h9_65, h9_68, h9_70, h9_71, h9_72, h9_75, h9_76, h9_79, h9_82, h9_83, h9_86, h9_88, h9_89, h9_90, h9_91, h9_94, h9_96, Option.bind_some, Option.toList_some, Option.toList_none, List.cons_append, List.nil_append, nI_ltc, nI_lec, nI_eqc, nI_ne5, n5_ne, n5_lt, bI_0, bI_1, nI_add, pk_mul, if_pos, if_neg, ite_not, if_true, if_false, not_true_eq_false, not_false_eq_true, true_and, false_and, and_true, and_false, Nat.reduceAdd, Nat.reduceMul, c1, z_isSlot_n, z_deviceAt_n, he', c5, c6, eq_self]
        · obtain ⟨j, hj, hj0, hjl⟩ : ∃ j, j < 12 ∧ R 2 j = nI 0 ∧ ∀ x, x < j → ¬R 2 x = nI 0 := by
            have hex : ∃ n j, j < n ∧ j < 12 ∧ R 2 j = nI 0 := by
              refine Classical.byContradiction fun q => hall fun x hx g => q ⟨x + 1, x, by omega, hx, g⟩
            obtain ⟨n, hn⟩ := hex
            have : ∀ n, (∃ j, j < n ∧ j < 12 ∧ R 2 j = nI 0) → ∃ j, j < 12 ∧ R 2 j = nI 0 ∧ ∀ x, x < j → ¬R 2 x = nI 0 := by
              intro n
              induction n with
              | zero => rintro ⟨j, h, -⟩; omega
              | succ n ih =>
                rintro ⟨j, h1, h2, h3⟩
                by_cases q : ∃ i, i < n ∧ i < 12 ∧ R 2 i = nI 0
                · exact ih q
                · exact ⟨j, h2, h3, fun x hx g => q ⟨x, by omega, by omega, g⟩⟩
            exact this n hn
          refine ⟨nI j, addR R j b s k, OK_add hO hj hb hs hk hj0 he hbr (rt_of_dpt (n := 4) hrt (by show dpt R 5 b < 5; omega)), OX_add hO.2.1 hX hj hj0, fun d L mu p hR hm => ?_⟩
          have c1 := y_isBus (d + 6) L mu p b hb (hbm hm)
          have c5 := c5 d L p hm
          have he' : mu 5 (b * 4 + s) = -5 := by rw [← rk_5 (mu := mu) (by omega), hm]; exact he
          rcases z_leastFree (d + 7) L mu p with ⟨j', hj', hj0', hjl', c6⟩ | ⟨g, -⟩
          · have hjj : j' = j := by
              rcases Nat.lt_trichotomy j' j with q | q | q
              · exact absurd (by rw [← hm, rk_2 hj']; exact hj0') (hjl j' q)
              · exact q
              · exact absurd (by rw [← rk_2 (mu := mu) hj, hm]; exact hj0) (hjl' j q)
            subst hjj
            obtain ⟨mu1, p1, e1, hr⟩ := z_rec (d + 6) L mu p hR
            have kr1 := isRk_1
            refine Or.inr ⟨pos_nI (by omega), mu1, p1, u2 (u2 (u2 (u2 mu1 2 j' k) 3 j' (nI b)) 4 j' (nI s)) 5 (b * 4 + s) (nI j'), hr, fun a ha => by rw [u2_row (by omega), u2_row (by omega), u2_row (by omega), u2_row (by omega)], ?_, ?_⟩
            · have l2 : rlen 2 = 12 := rfl
              have l3 : rlen 3 = 12 := rfl
              have l4 : rlen 4 = 12 := rfl
              have l5 : rlen 5 = 52 := rfl
              rw [rk_u (by omega) (by omega), rk_u (by omega) (by omega), rk_u (by omega) (by omega), rk_u (by omega) (by omega), hr.rk, hm]
              rfl
            · simp (disch := first | omega | assumption) only [h9_0, h9_1, h9_4, h9_5, h9_8, h9_11, h9_12, h9_13, h9_14, h9_17, h9_20, h9_22, h9_23, h9_24, h9_27, h9_28, h9_29, h9_32, h9_34, h9_37, h9_38, h9_41, h9_42, h9_45, h9_46, h9_49, h9_51, h9_52, h9_53, h9_56, h9_59, h9_61, h9_63, h9_65, h9_68, h9_70, h9_71, h9_72, h9_75, h9_76, h9_79, h9_82, h9_83, h9_86, h9_88, h9_89, h9_90, h9_91, h9_94, h9_96, Option.bind_some, Option.toList_some, Option.toList_none, List.cons_append, List.nil_append, nI_ltc, nI_lec, nI_eqc, nI_ne5, n5_ne, n5_lt, bI_0, bI_1, nI_add, pk_mul, if_pos, if_neg, ite_not, if_true, if_false, not_true_eq_false, not_false_eq_true, true_and, false_and, and_true, and_false, Nat.reduceAdd, Nat.reduceMul, c1, z_isSlot_n, z_deviceAt_n, he', c5, c6, e1, z_put]
          · exact absurd (by rw [← rk_2 (mu := mu) hj, hm]; exact hj0) (g j hj)
    · refine Op_no (v := -4) hO hX p4_lt (fun d L mu p hR hm => ?_)
      have c1 := y_isBus (d + 6) L mu p b hb (hbm hm)
      have he' : ¬mu 5 (b * 4 + s) = -5 := by rw [← rk_5 (mu := mu) (by omega), hm]; exact he
      simp (disch := first | omega | assumption) only [h9_0, h9_1, h9_4, h9_5, h9_8, h9_11, h9_12, h9_13, h9_14, h9_17, h9_20, h9_22, h9_23, h9_24, h9_27, h9_28, h9_29, h9_32, h9_34, h9_37, h9_38, h9_41, h9_42, h9_45, h9_46, h9_49, h9_51, h9_52, h9_53, h9_56, h9_59, h9_61, h9_63, h9_65, h9_68, h9_70, h9_71, h9_72, h9_75, h9_76, h9_79, h9_82, h9_83, h9_86, h9_88, h9_89, h9_90, h9_91, h9_94, h9_96, Option.bind_some, Option.toList_some, Option.toList_none, List.cons_append, List.nil_append, nI_ltc, nI_lec, nI_eqc, nI_ne5, n5_ne, n5_lt, bI_0, bI_1, nI_add, pk_mul, if_pos, if_neg, ite_not, if_true, if_false, not_true_eq_false, not_false_eq_true, true_and, false_and, and_true, and_false, Nat.reduceAdd, Nat.reduceMul, c1, z_isSlot_n, z_deviceAt_n, he']
  · refine Op_no (v := -1) hO hX p1_lt (fun d L mu p hR hm => ?_)
    have hn : ¬mu 2 b = nI 2 := fun q => hbk (Or.inr (by rw [← hm, rk_2 (by omega)]; exact q))
    have hb12 : b < 12 := by omega
    simp (disch := first | omega | assumption) only [h9_0, h9_1, h9_4, h9_5, h9_8, h9_11, h9_12, h9_13, h9_14, h9_17, h9_20, h9_22, h9_23, h9_24, h9_27, h9_28, h9_29, h9_32, h9_34, h9_37, h9_38, h9_41, h9_42, h9_45, h9_46, h9_49, h9_51, h9_52, h9_53, h9_56, h9_59, h9_61, h9_63, h9_65, h9_68, h9_70, h9_71, h9_72, h9_75, h9_76, h9_79, h9_82, h9_83, h9_86, h9_88, h9_89, h9_90, h9_91, h9_94, h9_96, Option.bind_some, Option.toList_some, Option.toList_none, List.cons_append, List.nil_append, nI_ltc, nI_lec, nI_eqc, nI_ne5, n5_ne, n5_lt, bI_0, bI_1, nI_add, pk_mul, if_pos, if_neg, ite_not, if_true, if_false, not_true_eq_false, not_false_eq_true, true_and, false_and, and_true, and_false, Nat.reduceAdd, Nat.reduceMul, z_isBus_n, hn]
theorem op_region {R : RV} (hO : OK R) (hX : OX R) {e q s r : Nat} (he : e < 12) (hq : q < 3) (hs : s < 2) (hr : r ≤ lex s) : OpS 82 [.inr (.inl (some 0)), .inl (nI e), .inl (nI q), .inl (nI s), .inl (nI (grn s * 2 ^ r)), .inr (.inl none)] R := by
  by_cases hk : R 2 e = nI 1
  · obtain ⟨n, hn, h7⟩ := hO.sz7 he hq
    refine ⟨nI n, _, OK_region hO he hq hs hk (Or.inr ⟨r, hr, rfl⟩), OX_region hX hq, fun d L mu p hR hm => ?_⟩
    have hk' : mu 2 e = nI 1 := by rw [← rk_2 (mu := mu) he, hm]; exact hk
    obtain ⟨v1, c1, c2, c3⟩ := z_isSizeOf (d + 5) L mu p s hs (nI (grn s * 2 ^ r))
    rw [c2 ⟨r, hr, rfl⟩] at c1
    have hsz := @sz_lt s r hr
    have hw0 : ¬nI (grn s * 2 ^ r) = nI 0 := by rw [nI_eqc (by omega) (by omega)]; omega
    obtain ⟨mu1, p1, e1, hrc⟩ := z_rec (d + 6) L mu p hR
    have g1 : mu1 7 (e * 3 + q) = nI n := by rw [hrc.2.1 7 (by omega), ← rk_7 (mu := mu) (by omega), hm]; exact h7
    have k1 := isRk_1
    refine Or.inr ⟨pos_nI (by omega), mu1, p1, u2 (u2 (u2 mu1 6 (e * 3 + q) (nI s)) 7 (e * 3 + q) (nI (grn s * 2 ^ r))) 8 (e * 3 + q) (-5), hrc, fun a ha => by rw [u2_row (by omega), u2_row (by omega), u2_row (by omega)], ?_, ?_⟩
    · have l6 : rlen 6 = 36 := rfl
      have l7 : rlen 7 = 36 := rfl
      have l8 : rlen 8 = 36 := rfl
      rw [rk_u (by omega) (by omega), rk_u (by omega) (by omega), rk_u (by omega) (by omega), hrc.rk, hm]
    · simp (disch := first | omega | assumption) only [h82_0, h82_1, h82_4, h82_5, h82_8, h82_11, h82_12, h82_15, h82_18, h82_19, h82_20, h82_21, h82_24, h82_27, h82_29, h82_32, h82_33, h82_35, h82_38, h82_41, h82_43, h82_44, h82_45, h82_48, h82_49, h82_52, h82_55, h82_56, h82_59, h82_62, h82_63, h82_64, h82_67, h82_68, h82_70, h82_71, h82_74, h82_75, h82_76, h82_77, h82_79, h82_82, h82_84, Option.bind_some, Option.toList_some, Option.toList_none, List.cons_append, List.nil_append, nI_ltc, nI_lec, nI_eqc, nI_ne5, n5_ne, n5_lt, bI_0, bI_1, nI_add, pk_mul, if_pos, if_neg, ite_not, if_true, if_false, not_true_eq_false, not_false_eq_true, true_and, false_and, and_true, and_false, Nat.reduceAdd, Nat.reduceMul, z_isCard_n, hk', z_isRegion_n, z_isSpace_n, hw0, c1, e1, z_regionIndex, g1, z_changeRegion]
  · refine Op_no (v := -1) hO hX p1_lt (fun d L mu p hR hm => ?_)
    have hk' : ¬mu 2 e = nI 1 := by rw [← rk_2 (mu := mu) he, hm]; exact hk
    simp (disch := first | omega | assumption) only [h82_0, h82_1, h82_4, h82_5, h82_8, h82_11, h82_12, h82_15, h82_18, h82_19, h82_20, h82_21, h82_24, h82_27, h82_29, h82_32, h82_33, h82_35, h82_38, h82_41, h82_43, h82_44, h82_45, h82_48, h82_49, h82_52, h82_55, h82_56, h82_59, h82_62, h82_63, h82_64, h82_67, h82_68, h82_70, h82_71, h82_74, h82_75, h82_76, h82_77, h82_79, h82_82, h82_84, Option.bind_some, Option.toList_some, Option.toList_none, List.cons_append, List.nil_append, nI_ltc, nI_lec, nI_eqc, nI_ne5, n5_ne, n5_lt, bI_0, bI_1, nI_add, pk_mul, if_pos, if_neg, ite_not, if_true, if_false, not_true_eq_false, not_false_eq_true, true_and, false_and, and_true, and_false, Nat.reduceAdd, Nat.reduceMul, z_isCard_n, hk']
theorem op_reserve {R : RV} (hO : OK R) (hX : OX R) {e s m : Nat} (he : e < 12) (hs : s < 2) (hmm : m ≤ 16) : OpS 84 [.inr (.inl (some 0)), .inl (nI e), .inl (nI s), .inl (nI (grn s * m)), .inr (.inl none), .inr (.inl none)] R := by
  have hg := @grn_le s
  by_cases hk : R 2 e = nI 2
  · obtain ⟨n, hn, h9⟩ := hO.2.2.2.2.1 e s he hs
    have hle : n * grn s ≤ 16 * 16 := Nat.mul_le_mul hn hg.2
    have hle2 : grn s * m ≤ 16 * 16 := Nat.mul_le_mul hg.2 hmm
    have hle3 : grn s * m ≤ 16 * grn s := by rw [Nat.mul_comm]; exact Nat.mul_le_mul_right _ hmm
    have hO' := OK_reserve hO he hs hk hmm
    rw [Nat.mul_comm m] at hO'
    refine ⟨nI (n * grn s), _, hO', OX_cong (u2_row (by omega)) (u2_row (by omega)) (u2_row (by omega)) (u2_row (by omega)) (u2_row (by omega)) hX, fun d L mu p hR hm => ?_⟩
    have hk' : mu 2 e = nI 2 := by rw [← rk_2 (mu := mu) he, hm]; exact hk
    obtain ⟨k, hk5, hgk⟩ := grn_pow s
    have hup := up_ok (x := grn s * m) (a := grn s) k hgk (by omega) (by omega)
    have hue := @up_eq (grn s * m) (grn s) (by omega)
    have hll : (grn s * m + grn s - 1) / grn s * grn s ≤ grn s * m + grn s - 1 := Nat.div_mul_le_self _ _
    have h0 : grn s * m % grn s = 0 := Nat.mul_mod_right _ _
    have hc : zsem (d + 7) 85 0 [.inl (nI s), .inl (nI (grn s * m)), .inr (.inl none)] [] (HH L mu p) = some (some (.inl (nI 1)), HH L mu p) := by
      simp (disch := first | omega | assumption) only [h85_0, h85_1, h85_4, h85_5, h85_6, h85_9, h85_10, h85_12, h85_13, h85_14, h85_17, h85_18, h85_19, h85_22, h85_23, h85_26, h85_27, h85_30, h85_31_0, h85_31_1, h85_31_b, Option.bind_some, Option.toList_some, Option.toList_none, List.cons_append, List.nil_append, nI_ltc, nI_lec, nI_eqc, nI_ne5, n5_ne, n5_lt, bI_0, bI_1, nI_add, pk_mul, if_pos, if_neg, ite_not, if_true, if_false, not_true_eq_false, not_false_eq_true, true_and, false_and, and_true, and_false, Nat.reduceAdd, Nat.reduceMul, z_grainOf, z_roundUp, hup, hue, h0]
    obtain ⟨mu1, p1, e1, hrc⟩ := z_rec (d + 6) L mu p hR
    have g1 : mu1 9 (e * 2 + s) = nI (n * grn s) := by rw [hrc.2.1 9 (by omega), ← rk_9 (mu := mu) (by omega), hm]; exact h9
    refine Or.inr ⟨pos_nI (by omega), mu1, p1, u2 mu1 9 (e * 2 + s) (nI (grn s * m)), hrc, fun a ha => by rw [u2_row (by omega)], ?_, ?_⟩
    · have l9 : rlen 9 = 24 := rfl
      rw [rk_u (by omega) (by omega), hrc.rk, hm]
    · simp (disch := first | omega | assumption) only [h84_0, h84_1, h84_4, h84_5, h84_8, h84_11, h84_12, h84_13, h84_14, h84_17, h84_20, h84_21, h84_22, h84_25, h84_28, h84_30, h84_31, h84_32, h84_35, h84_36, h84_39, h84_42, h84_43, h84_44, h84_47, h84_49, h84_50, h84_53, h84_56, h84_58, h84_59, h84_61, h84_62, h84_65, h84_68, h84_70, h84_71, h84_72, h84_74, Option.bind_some, Option.toList_some, Option.toList_none, List.cons_append, List.nil_append, nI_ltc, nI_lec, nI_eqc, nI_ne5, n5_ne, n5_lt, bI_0, bI_1, nI_add, pk_mul, if_pos, if_neg, ite_not, if_true, if_false, not_true_eq_false, not_false_eq_true, true_and, false_and, and_true, and_false, Nat.reduceAdd, Nat.reduceMul, z_isBridge_n, hk', z_isSpace_n, hc, e1, z_windowIndex, g1]
  · refine Op_no (v := -1) hO hX p1_lt (fun d L mu p hR hm => ?_)
    have hk' : ¬mu 2 e = nI 2 := by rw [← rk_2 (mu := mu) he, hm]; exact hk
    simp (disch := first | omega | assumption) only [h84_0, h84_1, h84_4, h84_5, h84_8, h84_11, h84_12, h84_13, h84_14, h84_17, h84_20, h84_21, h84_22, h84_25, h84_28, h84_30, h84_31, h84_32, h84_35, h84_36, h84_39, h84_42, h84_43, h84_44, h84_47, h84_49, h84_50, h84_53, h84_56, h84_58, h84_59, h84_61, h84_62, h84_65, h84_68, h84_70, h84_71, h84_72, h84_74, Option.bind_some, Option.toList_some, Option.toList_none, List.cons_append, List.nil_append, nI_ltc, nI_lec, nI_eqc, nI_ne5, n5_ne, n5_lt, bI_0, bI_1, nI_add, pk_mul, if_pos, if_neg, ite_not, if_true, if_false, not_true_eq_false, not_false_eq_true, true_and, false_and, and_true, and_false, Nat.reduceAdd, Nat.reduceMul, z_isBridge_n, hk']
theorem op_gap {R : RV} (hO : OK R) (hX : OX R) {g : Nat} (hg : g < 3) : OpS 92 [.inr (.inl (some 0)), .inl (nI g), .inr (.inl none)] R := by
  obtain ⟨g0, hg0, h1⟩ := hO.2.2.1
  have hO' : OK (u2 R 1 12 (nI g)) := by
    obtain ⟨i1, i2, i3, i4, i5, i6, i7, i8⟩ := hO
    refine ⟨InvT_cong ?_ ?_ ?_ ?_ i1, InvA_cong ?_ ?_ ?_ ?_ ?_ ?_ ?_ ?_ i2, ⟨g, hg, u2_s _ _ _ _⟩, InvS_cong ?_ ?_ ?_ i4, InvR_cong ?_ i5, InvN_cong ?_ ?_ ?_ i6, InvW_cong ?_ ?_ ?_ ?_ ?_ ?_ ?_ i7, InvW_cong ?_ ?_ ?_ ?_ ?_ ?_ ?_ i8⟩ <;> exact u2_row (by omega)
  refine ⟨nI g0, _, hO', OX_cong (u2_row (by omega)) (u2_row (by omega)) (u2_row (by omega)) (u2_row (by omega)) (u2_row (by omega)) hX, fun d L mu p hR hm => ?_⟩
  obtain ⟨mu1, p1, e1, hrc⟩ := z_rec (d + 6) L mu p hR
  have g1 : mu1 1 12 = nI g0 := by rw [hrc.2.1 1 (by omega), ← rk_1 mu 1, hm]; exact h1
  refine Or.inr ⟨pos_nI (by omega), mu1, p1, u2 mu1 1 12 (nI g), hrc, fun a ha => by rw [u2_row (by omega)], ?_, ?_⟩
  · rw [rk_ug, hrc.rk, hm]
  · simp (disch := first | omega | assumption) only [h92_0, h92_1, h92_4, h92_5, h92_6, h92_9, h92_11, h92_12, h92_13, h92_16, h92_17, h92_20, h92_23, h92_24, h92_27, h92_30, h92_31, h92_32, h92_35, h92_36, h92_39, h92_40, Option.bind_some, Option.toList_some, Option.toList_none, List.cons_append, List.nil_append, nI_ltc, nI_lec, nI_eqc, nI_ne5, n5_ne, n5_lt, bI_0, bI_1, nI_add, pk_mul, if_pos, if_neg, ite_not, if_true, if_false, not_true_eq_false, not_false_eq_true, true_and, false_and, and_true, and_false, Nat.reduceAdd, Nat.reduceMul, e1, g1]
theorem lostS_rk {mu : RV} (f : Nat → Bool) : ∀ n, n ≤ 12 → lostS mu f n = lostS (rk mu 1) f n := by
  intro n
  induction n with
  | zero => intro _; rfl
  | succ n ih =>
    intro hn
    have e : lost mu n = lost (rk mu 1) n := by
      unfold lost
      rw [rk_8 (by omega), rk_8 (by omega), rk_8 (by omega)]
    show lostS mu f n + _ = lostS (rk mu 1) f n + _
    rw [ih (by omega), e]
theorem lostS_le (R : RV) (f : Nat → Bool) : ∀ n, lostS R f n ≤ 3 * n := by
  intro n
  induction n with
  | zero => exact Nat.le_refl 0
  | succ n ih =>
    have h3 : lost R n ≤ 3 := by
      unfold lost
      split <;> split <;> split <;> omega
    show lostS R f n + _ ≤ _
    split <;> omega
theorem op_detach {R : RV} (hO : OK R) (hX : OX R) {j : Nat} (hj : j < 12) (hk : ¬R 2 j = nI 0) : OK (relS R (famB R j) 12) ∧ OX (relS R (famB R j) 12) ∧ Op 93 [.inr (.inl (some 0)), .inl (nI j), .inr (.inl none), .inr (.inl none), .inr (.inl none)] R (nI (lostS R (famB R j) 12)) (relS R (famB R j) 12) := by
  have hT := hO.1
  refine ⟨OK_rel (f := famB R j) hO (fun d hd hkd hb hf => fam_dn hT j d hd hkd hb hf), OX_rel hX, fun d L mu p hR hm => ?_⟩
  have hk' : ¬mu 2 j = nI 0 := by rw [← rk_2 (mu := mu) hj, hm]; exact hk
  obtain ⟨mu1, p1, e1, hr⟩ := z_rec (d + 6) L mu p hR
  have eR1 := hr.rk
  rw [hm] at eR1
  have hT1 : InvT (rk mu1 1) := by rw [eR1]; exact hT
  have hfam := z_familyOf (d + 5) L mu1 p1 hT1 j hj
  rw [eR1] at hfam
  have hdl := z_detachL (d + 6) L mu1 p1 (famB R j) _ (msk_lt (fun i => famB R j i = true) 12) (fun i hi => msk_bit _ i 12 hi) (nI j) 12 0 rfl
  rw [relS_0, lostS_rk _ 12 (Nat.le_refl _), eR1] at hdl
  have hz0 : lostS mu1 (famB R j) 0 = 0 := rfl
  rw [hz0] at hdl
  refine Or.inr ⟨pos_nI (by have := lostS_le R (famB R j) 12; omega), mu1, p1, relS mu1 (famB R j) 12, hr, fun a ha => relS_row (by omega), ?_, ?_⟩
  · rw [rk_relS (by omega), eR1]
  · simp (disch := first | omega | assumption) only [h93_0, h93_1, h93_4, h93_5, h93_8, h93_11, h93_12, h93_13, h93_14, h93_17, h93_18, h93_21, h93_24, h93_25, h93_28, h93_29, h93_32, h93_33, h93_34, h93_35, h93_36, h93_40, h93_42, h93_45, h93_46, h93_48, h93_51, h93_54, h93_55, h93_56, h93_59, h93_61, h93_64, h93_65, h93_66, h93_69, h93_72, h93_73, Option.bind_some, Option.toList_some, Option.toList_none, List.cons_append, List.nil_append, nI_ltc, nI_lec, nI_eqc, nI_ne5, n5_ne, n5_lt, bI_0, bI_1, nI_add, pk_mul, if_pos, if_neg, ite_not, if_true, if_false, not_true_eq_false, not_false_eq_true, true_and, false_and, and_true, and_false, Nat.reduceAdd, Nat.reduceMul, z_isDevice_n, hk', e1, hfam, hdl]
theorem op_detach_s {R : RV} (hO : OK R) (hX : OX R) {j : Nat} (hj : j < 12) : OpS 93 [.inr (.inl (some 0)), .inl (nI j), .inr (.inl none), .inr (.inl none), .inr (.inl none)] R := by
  by_cases hk : R 2 j = nI 0
  · refine Op_no (v := -1) hO hX p1_lt (fun d L mu p hR hm => ?_)
    have hk' : mu 2 j = nI 0 := by rw [← rk_2 (mu := mu) hj, hm]; exact hk
    simp (disch := first | omega | assumption) only [h93_0, h93_1, h93_4, h93_5, h93_8, h93_11, h93_12, h93_13, h93_14, h93_17, h93_18, h93_21, h93_24, h93_25, h93_28, h93_29, h93_32, h93_33, h93_34, h93_35, h93_36, h93_40, h93_42, h93_45, h93_46, h93_48, h93_51, h93_54, h93_55, h93_56, h93_59, h93_61, h93_64, h93_65, h93_66, h93_69, h93_72, h93_73, Option.bind_some, Option.toList_some, Option.toList_none, List.cons_append, List.nil_append, nI_ltc, nI_lec, nI_eqc, nI_ne5, n5_ne, n5_lt, bI_0, bI_1, nI_add, pk_mul, if_pos, if_neg, ite_not, if_true, if_false, not_true_eq_false, not_false_eq_true, true_and, false_and, and_true, and_false, Nat.reduceAdd, Nat.reduceMul, z_isDevice_n, hk']
  · obtain ⟨h1, h2, h3⟩ := op_detach hO hX hj hk
    exact ⟨_, _, h1, h2, h3⟩
theorem op_pull_s {R : RV} (hO : OK R) (hX : OX R) {j : Nat} (hj : j < 12) : OpS 86 [.inr (.inl (some 0)), .inl (nI j), .inr (.inl none), .inr (.inl none)] R := by
  by_cases hk : R 2 j = nI 0
  · refine Op_no (v := -1) hO hX p1_lt (fun d L mu p hR hm => ?_)
    have hk' : mu 2 j = nI 0 := by rw [← rk_2 (mu := mu) hj, hm]; exact hk
    simp (disch := first | omega | assumption) only [h86_0, h86_1, h86_4, h86_5, h86_8, h86_11, h86_12, h86_13, h86_14, h86_17, h86_18, h86_21, h86_24, h86_25, h86_28, h86_29, h86_32, h86_33, h86_34, h86_36, h86_38, h86_41, h86_42, h86_43, h86_46, h86_49, h86_50, h86_53, h86_54, h86_57, h86_60, h86_63, h86_64, h86_67, Option.bind_some, Option.toList_some, Option.toList_none, List.cons_append, List.nil_append, nI_ltc, nI_lec, nI_eqc, nI_ne5, n5_ne, n5_lt, bI_0, bI_1, nI_add, pk_mul, if_pos, if_neg, ite_not, if_true, if_false, not_true_eq_false, not_false_eq_true, true_and, false_and, and_true, and_false, Nat.reduceAdd, Nat.reduceMul, z_isDevice_n, hk']
  · have hT := hO.1
    have hM : msk (fun i => famB R j i = true) 12 < 4096 := msk_lt _ 12
    have hbc := bc_ok _ hM
    have hfd : ∀ i, i < 12 → famB R j i = true → ¬R 2 i = nI 0 := fun i hi hf => by
      rw [famB, tb_iff] at hf
      exact hf.1
    have hpop : pop 12 (msk (fun i => famB R j i = true) 12) ≤ 12 := by
      rw [pop_msk]
      exact cnt_le _ 12
    refine ⟨nI (pop 12 (msk (fun i => famB R j i = true) 12)), remA R (famB R j) 12, OK_rem hO hfd (fun d hd hkd hb hf => fam_dn hT j d hd hkd hb hf), OX_rem hX, fun d L mu p hR hm => ?_⟩
    have hk' : ¬mu 2 j = nI 0 := by rw [← rk_2 (mu := mu) hj, hm]; exact hk
    obtain ⟨mu1, p1, e1, hr⟩ := z_rec (d + 6) L mu p hR
    have eR1 := hr.rk
    rw [hm] at eR1
    have hT1 : InvT (rk mu1 1) := by rw [eR1]; exact hT
    have hfam := z_familyOf (d + 5) L mu1 p1 hT1 j hj
    rw [eR1] at hfam
    have hbs : ∀ i, i < 12 → famB R j i = true → ∃ b s, b < 13 ∧ s < 4 ∧ mu1 3 i = nI b ∧ mu1 4 i = nI s := fun i hi hf => by
      obtain ⟨b, s, q1, q2, q3, q4, -⟩ := hT.2.1 i hi (hfd i hi hf)
      rw [← eR1, rk_3 hi] at q3
      rw [← eR1, rk_4 hi] at q4
      exact ⟨b, s, q1, q2, q3, q4⟩
    have hdl := z_pullL (d + 5) L mu1 p1 (famB R j) _ hM (fun i hi => msk_bit _ i 12 hi) hbs (nI j) 12 0 rfl
    have h00 : remA mu1 (famB R j) 0 = mu1 := rfl
    rw [h00, hbc] at hdl
    refine Or.inr ⟨pos_nI (by omega), mu1, p1, remA mu1 (famB R j) 12, hr, fun a ha => ?_, ?_, ?_⟩
    · funext i
      have := (remA_at mu1 (famB R j) 12 a i).2 (by omega)
      rw [this.2 (by omega), relS_row (by omega)]
    · rw [rk_remA (fun i hi hf => by
        obtain ⟨b, s, q1, q2, q3, q4⟩ := hbs i hi hf
        unfold bn sn
        rw [q3, q4, nI_clamp (by omega), nI_clamp (by omega)]
        omega) 12 (Nat.le_refl _), eR1]
    · simp (disch := first | omega | assumption) only [h86_0, h86_1, h86_4, h86_5, h86_8, h86_11, h86_12, h86_13, h86_14, h86_17, h86_18, h86_21, h86_24, h86_25, h86_28, h86_29, h86_32, h86_33, h86_34, h86_36, h86_38, h86_41, h86_42, h86_43, h86_46, h86_49, h86_50, h86_53, h86_54, h86_57, h86_60, h86_63, h86_64, h86_67, Option.bind_some, Option.toList_some, Option.toList_none, List.cons_append, List.nil_append, nI_ltc, nI_lec, nI_eqc, nI_ne5, n5_ne, n5_lt, bI_0, bI_1, nI_add, pk_mul, if_pos, if_neg, ite_not, if_true, if_false, not_true_eq_false, not_false_eq_true, true_and, false_and, and_true, and_false, Nat.reduceAdd, Nat.reduceMul, z_isDevice_n, hk', e1, hfam, hdl]
