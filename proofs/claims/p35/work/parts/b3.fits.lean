/-! fits: the first fit is free and aligned -/
theorem sum_none {R : RV} (hO : OK R) {s b : Nat} (hs : s < 2) (hb : b < 13) (h : ¬∃ A E, room R s b A E) : ∀ k, k ≤ 12 → sumC R s b k = 0 := by
  intro k
  induction k with
  | zero => intro _; rfl
  | succ k ih =>
    intro hk
    show sumC R s b k + szc R s b k = 0
    rw [ih (by omega), szc_n (fun a n hc => ?_)]
    obtain ⟨j, j1, j2, j3, j4⟩ := cp_bus hO hb (by omega) hc
    obtain ⟨-, -, -, a0, n0, g, -⟩ := (hO.W hs).2.2.1 j (k % 3) a n j1 (Nat.mod_lt _ (by omega)) j4
    rw [j2] at g
    exact h ⟨a0, n0, g⟩
/-- what is left free on a bus -/
theorem free_val {mu : RV} (hO : OK (rk mu 1)) {b s : Nat} (hb : b < 13) (hk : b = 12 ∨ mu 2 b = nI 2) (hs : s < 2) :
    (∃ A' E', room (rk mu 1) s b (grn s * A') (grn s * E') ∧ 0 < E' ∧ A' + E' ≤ 256 ∧ grn s * A' + grn s * E' ≤ adr s ∧ extI mu b s = nI (grn s * E') ∧ grn s * cntP (fun t => tb (fre (rk mu 1) s b (grn s * A') (grn s * E') t) = true) 256 + sumC (rk mu 1) s b 12 = grn s * E') ∨
    ((¬∃ A E, room (rk mu 1) s b A E) ∧ b < 12 ∧ mu 10 (b * 2 + s) = -5 ∧ mu 11 (b * 2 + s) = nI 0 ∧ extI mu b s = nI 0 ∧ ∀ k, k ≤ 12 → sumC (rk mu 1) s b k = 0) := by
  have hg := @grn_le s
  have ha := @adr_fac s
  have go : ∀ A E, room (rk mu 1) s b A E → extI mu b s = nI E → ∃ A' E', room (rk mu 1) s b (grn s * A') (grn s * E') ∧ 0 < E' ∧ A' + E' ≤ 256 ∧ grn s * A' + grn s * E' ≤ adr s ∧ extI mu b s = nI (grn s * E') ∧ grn s * cntP (fun t => tb (fre (rk mu 1) s b (grn s * A') (grn s * E') t) = true) 256 + sumC (rk mu 1) s b 12 = grn s * E' := by
    intro A E hr he
    have hkk : b = 12 ∨ ¬rk mu 1 2 b = nI 0 := by
      by_cases q : b = 12
      · exact Or.inl q
      · exact Or.inr (by rw [rk_2 (by omega)]; exact k2_ne0 (hk.resolve_left q))
    obtain ⟨A', E', rfl, rfl, e3, e4⟩ := room_grn hO hs hr hkk
    have hAE : A' + E' ≤ 256 := by
      rw [← gle (g := grn s) (by omega), Nat.mul_add]
      omega
    have hE : 0 < E' := Nat.pos_of_ne_zero fun q => by rw [q, Nat.mul_zero] at e3; omega
    exact ⟨A', E', hr, hE, hAE, e4, he, cnt_free hO hs hb hr hAE 12 (by omega)⟩
  by_cases h12 : b = 12
  · exact Or.inl (go 0 (adr s) (Or.inl ⟨h12, rfl, rfl⟩) (by unfold extI; rw [if_pos h12]))
  · have hk2 := hk.resolve_left h12
    have he : extI mu b s = mu 11 (b * 2 + s) := by unfold extI; rw [if_neg h12]
    rcases (hO.W hs).2.1 b (by omega) with ⟨h1, h2⟩ | ⟨a, n, h1, h2, h3, h4⟩
    · rw [rk_10 (by omega)] at h1
      rw [rk_11 (by omega)] at h2
      have hn : ¬∃ A E, room (rk mu 1) s b A E := by
        rintro ⟨A, E, q | ⟨-, q1, -, -, q, -⟩⟩
        · exact h12 q.1
        · rw [rk_10 (by omega), h1, n5_ne (by omega)] at q
          exact q
      exact Or.inr ⟨hn, by omega, h1, h2, by rw [he, h2], sum_none hO hs hb hn⟩
    · exact Or.inl (go a n (Or.inr ⟨by omega, h1, h2, by rw [rk_2 (by omega)]; exact hk2, h3, h4⟩) (by rw [he, ← rk_11 (mu := mu) (by omega), h4]))
theorem FR_mono {R : RV} {s b n m x : Nat} (h : FR R s b n x) (hm : m ≤ n) : FR R s b m x := fun i a c hi hc q => h i a c hi hc ⟨by omega, q.2⟩
theorem cnt_none (P : Nat → Prop) [DecidablePred P] : ∀ n, (∀ i, i < n → ¬P i) → cntP P n = 0 := by
  intro n
  induction n with
  | zero => intro _; rfl
  | succ n ih =>
    intro h
    rw [cnt_n P (h n (by omega)), ih (fun i hi => h i (by omega))]
section
variable (d L : Nat) (mu : RV) (p : Nat → Nat)
theorem y_fits (hO : OK (rk mu 1)) (b s e : Nat) (hb : b < 13) (hk : b = 12 ∨ mu 2 b = nI 2) (hs : s < 2) (he : e ≤ lex s) : zsem (d + 5) 59 0 [.inr (.inl (some 0)), .inl (nI b), .inl (nI s), .inl (nI (grn s * 2 ^ e)), .inr (.inl none), .inr (.inl none)] [] (HH L mu p) = some (some (.inl (nI 1)), HH L mu p) := by
  have hg := @grn_le s
  have hsz := @sz_lt s e he
  have hpos : 0 < 2 ^ e := Nat.pow_pos (by omega)
  have ha := @adr_fac s
  obtain ⟨v, c1, hF⟩ := y_firstFit d L mu p hO b s e hb hk hs he
  have c2 := y_freeRoom d L mu p hO b s hb hk hs
  have c3 := y_grain (d + 4) L mu p s hs
  have c4 := y_all (d + 4) L mu p s hs
  rcases hF with ⟨y, A, E, r1, r2, r3, r4, r5, r6, rfl⟩ | ⟨r1, rfl⟩
  · -- a fit
    rcases free_val hO hb hk hs with ⟨A', E', f1, f2, f3, f4, f5, f6⟩ | ⟨f1, -⟩
    · obtain ⟨rfl, rfl⟩ := room_one r1 f1
      have hsub : extI mu b s - nI (sumC (rk mu 1) s b 12) = nI (grn s * cntP (fun t => tb (fre (rk mu 1) s b (grn s * A') (grn s * E') t) = true) 256) := by
        rw [f5, nI_sub (by omega)]
        congr 1
        omega
      rw [hsub] at c2
      obtain ⟨u, rfl⟩ := gdvd (g := grn s) (m := 2 ^ e) r2
      have hfr : ∀ t, t < 2 ^ e → fre (rk mu 1) s b (grn s * A') (grn s * E') (u + t) := (fre_all hO hs hpos).mpr ⟨r3, r4, r5⟩
      have hcnt : 2 ^ e ≤ cntP (fun t => tb (fre (rk mu 1) s b (grn s * A') (grn s * E') t) = true) 256 := by
        have h1 := cnt_mono (fun t => u ≤ t ∧ t < u + 2 ^ e) (fun t => tb (fre (rk mu 1) s b (grn s * A') (grn s * E') t) = true) 256 (fun i _ hi => by
          rw [tb_iff]
          have := hfr (i - u) (by omega)
          rwa [show u + (i - u) = i by omega] at this)
        rw [cnt_int] at h1
        have h2 : u + 2 ^ e ≤ 256 := by
          rw [← gle (g := grn s) (by omega), Nat.mul_add]
          omega
        rw [Nat.min_eq_right (by omega), Nat.min_eq_right (by omega)] at h1
        omega
      have hfree : grn s * 2 ^ e ≤ grn s * cntP (fun t => tb (fre (rk mu 1) s b (grn s * A') (grn s * E') t) = true) 256 := Nat.mul_le_mul_left _ hcnt
      generalize hF : grn s * cntP (fun t => tb (fre (rk mu 1) s b (grn s * A') (grn s * E') t) = true) 256 = F at *
      have hFl : F < 2147483648 := by omega
      have hdiv := nI_div (a := grn s * u) (b := grn s * 2 ^ e) (by omega) (by omega) (by omega)
      have hmod : nI (grn s * u) - nI (grn s * u / (grn s * 2 ^ e)) * nI (grn s * 2 ^ e) = nI 0 := by
        have h1 := Nat.div_add_mod (grn s * u) (grn s * 2 ^ e)
        rw [r2, Nat.add_zero, Nat.mul_comm (grn s * 2 ^ e) (grn s * u / (grn s * 2 ^ e))] at h1
        rw [pk_mul, h1, nI_sub (Nat.le_refl _), Nat.sub_self]
      have hne : ¬nI (grn s * 2 ^ e) = nI 0 := by rw [nI_eqc (by omega) (by omega)]; omega
      rw [pk_mul] at hmod
      by_cases he0 : e = 0
      · subst he0
        have e0 : grn s * 2 ^ 0 = grn s := by rw [Nat.pow_zero, Nat.mul_one]
        rw [e0] at c1 hdiv hmod hfree hne hsz r4
        rw [e0]
        simp (disch := first | omega | assumption) only [h59_0, h59_1, h59_2, h59_3, h59_4, h59_7, h59_9, h59_10, h59_11, h59_12, h59_15, h59_17, h59_19, h59_21, h59_24, h59_25, h59_26, h59_29, h59_32, h59_34, h59_37, h59_38, h59_41, h59_42_0, h59_42_1, h59_42_b, h59_43, h59_45, h59_48, h59_50, h59_51, h59_52, h59_55, h59_57, h59_58, h59_59, h59_60, h59_63, h59_66, h59_68, h59_69, h59_72, h59_73, h59_74, h59_77, h59_80, h59_81, h59_82, h59_83, h59_84, h59_85, h59_86, h59_89, h59_91, h59_94, h59_95, h59_96, h59_97, h59_98, h59_99, h59_100, h59_103, h59_106, h59_107, h59_110, h59_111_0, h59_111_1, h59_111_b, Option.bind_some, Option.toList_some, Option.toList_none, List.cons_append, List.nil_append, nI_ltc, nI_lec, nI_eqc, nI_ne5, n5_ne, n5_lt, bI_0, bI_1, nI_add, pk_mul, if_pos, if_neg, ite_not, if_true, if_false, not_true_eq_false, not_false_eq_true, true_and, false_and, and_true, and_false, Nat.reduceAdd, Nat.reduceMul, c1, c2, c3, c4, hdiv, hmod, eq_self]
      · obtain ⟨e', rfl⟩ : ∃ e', e = e' + 1 := ⟨e - 1, by omega⟩
        have hhalf : grn s * 2 ^ (e' + 1) / 2 = grn s * 2 ^ e' := by
          rw [Nat.pow_succ, ← Nat.mul_assoc, Nat.mul_div_cancel _ (by omega)]
        have hd2 := nI_div (a := grn s * 2 ^ (e' + 1)) (b := 2) (by omega) (by omega) (by omega)
        rw [hhalf] at hd2
        have n2 : ¬nI 2 = nI 0 := by decide
        obtain ⟨v2, c5, hF2⟩ := y_firstFit d L mu p hO b s e' hb hk hs (by omega)
        have hp2 : 0 < 2 ^ e' := Nat.pow_pos (by omega)
        have hgt : grn s < grn s * 2 ^ (e' + 1) := by
          have : grn s * 1 < grn s * 2 ^ (e' + 1) := (glt (by omega)).mpr (by rw [Nat.pow_succ]; omega)
          omega
        have hm2 : grn s * u % (grn s * 2 ^ e') = 0 := by
          have h1 : grn s * 2 ^ (e' + 1) = grn s * 2 ^ e' * 2 := by rw [Nat.pow_succ, Nat.mul_assoc]
          rw [h1] at r2
          exact Nat.mod_eq_zero_of_dvd (Nat.dvd_trans ⟨2, rfl⟩ (Nat.dvd_of_mod_eq_zero r2))
        have hle2 : grn s * 2 ^ e' ≤ grn s * 2 ^ (e' + 1) := Nat.mul_le_mul_left _ (Nat.pow_le_pow_right (by omega) (by omega))
        rcases hF2 with ⟨y2, A2, E2, t1, t2, t3, t4, t5, t6, rfl⟩ | ⟨t1, -⟩
        · obtain ⟨rfl, rfl⟩ := room_one f1 t1
          have hy : y2 ≤ grn s * u := by
            refine Nat.le_of_not_lt fun q => ?_
            exact t6 _ hm2 r3 q (FR_mono r5 hle2)
          simp (disch := first | omega | assumption) only [h59_0, h59_1, h59_2, h59_3, h59_4, h59_7, h59_9, h59_10, h59_11, h59_12, h59_15, h59_17, h59_19, h59_21, h59_24, h59_25, h59_26, h59_29, h59_32, h59_34, h59_37, h59_38, h59_41, h59_42_0, h59_42_1, h59_42_b, h59_43, h59_45, h59_48, h59_50, h59_51, h59_52, h59_55, h59_57, h59_58, h59_59, h59_60, h59_63, h59_66, h59_68, h59_69, h59_72, h59_73, h59_74, h59_77, h59_80, h59_81, h59_82, h59_83, h59_84, h59_85, h59_86, h59_89, h59_91, h59_94, h59_95, h59_96, h59_97, h59_98, h59_99, h59_100, h59_103, h59_106, h59_107, h59_110, h59_111_0, h59_111_1, h59_111_b, Option.bind_some, Option.toList_some, Option.toList_none, List.cons_append, List.nil_append, nI_ltc, nI_lec, nI_eqc, nI_ne5, n5_ne, n5_lt, bI_0, bI_1, nI_add, pk_mul, if_pos, if_neg, ite_not, if_true, if_false, not_true_eq_false, not_false_eq_true, true_and, false_and, and_true, and_false, Nat.reduceAdd, Nat.reduceMul, c1, c2, c3, c4, c5, hdiv, hmod, hd2, eq_self]
        · exact absurd (FR_mono r5 hle2) (t1 _ _ f1 _ hm2 r3 (by omega))
    · exact absurd ⟨A, E, r1⟩ f1
  · by_cases he0 : e = 0
    · subst he0
      have e0 : grn s * 2 ^ 0 = grn s := by rw [Nat.pow_zero, Nat.mul_one]
      rw [e0] at c1 hsz r1
      rw [e0]
      have hz : extI mu b s - nI (sumC (rk mu 1) s b 12) = nI 0 := by
        rcases free_val hO hb hk hs with ⟨A', E', f1, f2, f3, f4, f5, f6⟩ | ⟨f1, f2, f3, f4, f5, f6⟩
        · have hc0 : cntP (fun t => tb (fre (rk mu 1) s b (grn s * A') (grn s * E') t) = true) 256 = 0 := cnt_none _ _ (fun t ht q => by
            rw [tb_iff] at q
            have h1 := (fre_all (u := t) (c := 1) hO hs (by omega)).mp (fun t' ht' => by
              rw [show t' = 0 by omega]
              exact q)
            rw [Nat.mul_one] at h1
            exact r1 _ _ f1 (grn s * t) (Nat.mul_mod_right _ _) h1.1 h1.2.1 h1.2.2)
          rw [hc0] at f6
          rw [f5, nI_sub (by omega)]
          congr 1
          omega
        · rw [f5, f6 12 (by omega), nI_sub (by omega)]
      rw [hz] at c2
      simp (disch := first | omega | assumption) only [h59_0, h59_1, h59_2, h59_3, h59_4, h59_7, h59_9, h59_10, h59_11, h59_12, h59_15, h59_17, h59_19, h59_21, h59_24, h59_25, h59_26, h59_29, h59_32, h59_34, h59_37, h59_38, h59_41, h59_42_0, h59_42_1, h59_42_b, h59_43, h59_45, h59_48, h59_50, h59_51, h59_52, h59_55, h59_57, h59_58, h59_59, h59_60, h59_63, h59_66, h59_68, h59_69, h59_72, h59_73, h59_74, h59_77, h59_80, h59_81, h59_82, h59_83, h59_84, h59_85, h59_86, h59_89, h59_91, h59_94, h59_95, h59_96, h59_97, h59_98, h59_99, h59_100, h59_103, h59_106, h59_107, h59_110, h59_111_0, h59_111_1, h59_111_b, Option.bind_some, Option.toList_some, Option.toList_none, List.cons_append, List.nil_append, nI_ltc, nI_lec, nI_eqc, nI_ne5, n5_ne, n5_lt, bI_0, bI_1, nI_add, pk_mul, if_pos, if_neg, ite_not, if_true, if_false, not_true_eq_false, not_false_eq_true, true_and, false_and, and_true, and_false, Nat.reduceAdd, Nat.reduceMul, c1, c2, c3, c4, eq_self]
    · have hgt : grn s < grn s * 2 ^ e := by
        have : grn s * 1 < grn s * 2 ^ e := (glt (by omega)).mpr (Nat.one_lt_two_pow he0)
        omega
      simp (disch := first | omega | assumption) only [h59_0, h59_1, h59_2, h59_3, h59_4, h59_7, h59_9, h59_10, h59_11, h59_12, h59_15, h59_17, h59_19, h59_21, h59_24, h59_25, h59_26, h59_29, h59_32, h59_34, h59_37, h59_38, h59_41, h59_42_0, h59_42_1, h59_42_b, h59_43, h59_45, h59_48, h59_50, h59_51, h59_52, h59_55, h59_57, h59_58, h59_59, h59_60, h59_63, h59_66, h59_68, h59_69, h59_72, h59_73, h59_74, h59_77, h59_80, h59_81, h59_82, h59_83, h59_84, h59_85, h59_86, h59_89, h59_91, h59_94, h59_95, h59_96, h59_97, h59_98, h59_99, h59_100, h59_103, h59_106, h59_107, h59_110, h59_111_0, h59_111_1, h59_111_b, Option.bind_some, Option.toList_some, Option.toList_none, List.cons_append, List.nil_append, nI_ltc, nI_lec, nI_eqc, nI_ne5, n5_ne, n5_lt, bI_0, bI_1, nI_add, pk_mul, if_pos, if_neg, ite_not, if_true, if_false, not_true_eq_false, not_false_eq_true, true_and, false_and, and_true, and_false, Nat.reduceAdd, Nat.reduceMul, c1, c2, c3, c4, eq_self]
end
