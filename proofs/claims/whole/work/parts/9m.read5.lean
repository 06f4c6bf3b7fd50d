/-! the class's reader: a whole text -/
def v0 (a : Nat) : Int32 := match a with
  | 2 => nI 0
  | 3 => nI 12
  | 4 => nI 0
  | 5 => -5
  | 6 => nI 0
  | 7 => nI 0
  | 8 => -5
  | 9 => nI 0
  | 10 => -5
  | 11 => nI 0
  | 12 => -5
  | _ => -5
def R0 : RV := fun a i => if 2 ≤ a ∧ i < rlen a then v0 a else nI 0
theorem R0_v {a i : Nat} (ha : 2 ≤ a) (hi : i < rlen a) : R0 a i = v0 a := if_pos ⟨ha, hi⟩
theorem R0_2 {d : Nat} (h : d < 12) : R0 2 d = nI 0 := R0_v (by omega) h
theorem R0_3 {d : Nat} (h : d < 12) : R0 3 d = nI 12 := R0_v (by omega) h
theorem R0_5 {d : Nat} (h : d < 52) : R0 5 d = -5 := R0_v (by omega) h
theorem R0_6 {d : Nat} (h : d < 36) : R0 6 d = nI 0 := R0_v (by omega) h
theorem R0_7 {d : Nat} (h : d < 36) : R0 7 d = nI 0 := R0_v (by omega) h
theorem R0_8 {d : Nat} (h : d < 36) : R0 8 d = -5 := R0_v (by omega) h
theorem R0_9 {d : Nat} (h : d < 24) : R0 9 d = nI 0 := R0_v (by omega) h
theorem R0_10 {d : Nat} (h : d < 24) : R0 10 d = -5 := R0_v (by omega) h
theorem R0_11 {d : Nat} (h : d < 24) : R0 11 d = nI 0 := R0_v (by omega) h
theorem R0_12 {d : Nat} (h : d < 12) : R0 12 d = -5 := R0_v (by omega) h
theorem R0_13 {d : Nat} (h : d < 12) : R0 13 d = -5 := R0_v (by omega) h
theorem R0_k {d : Nat} (h : d < 12) {q : Prop} (hk : ¬R0 2 d = nI 0) : q := absurd (R0_2 h) hk
theorem R0_cov {s d q a n : Nat} (hd : d < 12) (h : cov R0 s d q a n) : False := by
  obtain ⟨-, -, ⟨h, -⟩ | ⟨-, h, -⟩⟩ := h
  · rw [R0_2 hd] at h; exact absurd h (by decide)
  · rw [R0_2 hd] at h; exact absurd h (by decide)
theorem R0_num {d a b : Nat} (hd : d < 12) (h : numd R0 d a b) : False := by
  obtain ⟨h1, -, h3, h4, h5⟩ := h
  rw [R0_12 hd, n5_ne (by omega)] at h1
  exact h1
theorem OK_R0 : OK R0 := by
  have W : ∀ s, s < 2 → InvW R0 s := fun s hs => ⟨fun d q hd hq => Or.inl (R0_8 (by omega)), fun d hd => Or.inl ⟨R0_10 (by omega), R0_11 (by omega)⟩, fun d q a n hd hq hc => (R0_cov hd hc).elim, fun d q d' q' a n a' n' hd hq hd' hq' hn hb hc hc' => (R0_cov hd hc).elim⟩
  refine ⟨⟨fun d hd => Or.inl (R0_2 hd), fun d hd hk => R0_k hd hk, fun b s hb hs => Or.inl (R0_5 (by omega)), fun d hd hk => R0_k hd hk⟩, ⟨fun d hd hk q hq => ⟨R0_7 (by omega), R0_8 (by omega)⟩, fun d hd hk => ⟨R0_12 hd, R0_13 hd, fun s hs => ⟨R0_10 (by omega), R0_11 (by omega), R0_9 (by omega)⟩⟩⟩, ⟨0, by omega, rfl⟩, fun d q hd hq => ⟨0, by omega, R0_6 (by omega), Or.inl ⟨R0_7 (by omega), R0_8 (by omega)⟩⟩, fun d s hd hs => ⟨0, by omega, by rw [R0_9 (by omega), Nat.zero_mul]⟩, ⟨fun d hd => Or.inl ⟨R0_12 hd, R0_13 hd⟩, fun d a b hd h => (R0_num hd h).elim, fun d d' a b a' b' hd hd' hne hb h1 h2 => (R0_num hd h1).elim⟩, W 0 (by omega), W 1 (by omega)⟩
def s0 : RSt := ((0, 0, 0, 0, 0), fun _ => 12, fun _ => 0, R0)
theorem WF_0 : WF s0 := ⟨by omega, by omega, by omega, by omega, fun _ => Nat.zero_le _, OK_R0, fun _ => Nat.le_refl _, fun h => by omega, fun h => by omega, fun h => by omega, fun h => by omega, fun _ => ⟨fun d hd => ⟨fun _ => by omega, fun _ => R0_2 hd⟩, ⟨rfl, fun l hl => by omega, fun l t hl ht => Or.inl (R0_5 (show 12 * 4 + t < 52 by omega))⟩, fun h => by omega, fun h => by omega, fun h => by omega⟩, fun _ d hd _ t ht => R0_5 (by omega)⟩
theorem rdr_n (tx : Nat → Nat) (i : Nat) (s : RSt) : rdr tx 0 i s = (if tb (cmpl s) = true then none else some i, s) := rfl
theorem rdr_f (tx : Nat → Nat) (m i : Nat) (s : RSt) (h : tk s (tx i) = none) : rdr tx (m + 1) i s = (some i, s) := by
  show (match tk s (tx i) with
    | none => (some i, s)
    | some s' => rdr tx m (i + 1) s') = _
  rw [h]
theorem rdr_s (tx : Nat → Nat) (m i : Nat) (s s' : RSt) (h : tk s (tx i) = some s') : rdr tx (m + 1) i s = rdr tx m (i + 1) s' := by
  show (match tk s (tx i) with
    | none => (some i, s)
    | some s' => rdr tx m (i + 1) s') = _
  rw [h]
theorem rdr_ok (tx : Nat → Nat) : ∀ m i s, WF s → WF (rdr tx m i s).2 ∧ (rdr tx m i s).2.1.2.2.2.2 ≤ s.1.2.2.2.2 + m ∧ ((rdr tx m i s).1 = none → cmpl (rdr tx m i s).2) := by
  intro m
  induction m with
  | zero =>
    intro i s h
    rw [rdr_n]
    refine ⟨h, Nat.le_refl _, fun q => ?_⟩
    by_cases g : tb (cmpl s) = true
    · exact (tb_iff _).mp g
    · dsimp only at q
      rw [if_neg g] at q
      cases q
  | succ m ih =>
    intro i s h
    cases e : tk s (tx i) with
    | none =>
      rw [rdr_f tx m i s e]
      exact ⟨h, Nat.le_add_right _ _, fun q => by cases q⟩
    | some s' =>
      rw [rdr_s tx m i s s' e]
      obtain ⟨h1, h2, h3⟩ := ih (i + 1) s' (WF_tk h e)
      have := (tk_cn e).2
      exact ⟨h1, by omega, h3⟩
def em (mu : RV) : RV := fl (fl (fl (fl (fl (fl (fl (fl (fl (fl (fl (fl mu 90 12 (nI 0)) 91 12 (nI 12)) 92 12 (nI 0)) 93 52 (-5)) 94 36 (nI 0)) 95 36 (nI 0)) 96 36 (-5)) 97 24 (nI 0)) 98 24 (-5)) 99 24 (nI 0)) 100 12 (-5)) 101 12 (-5)
theorem fl_row {mu : RV} {a n b : Nat} {x : Int32} (h : ¬b = a) : fl mu a n x b = mu b := by
  funext j
  exact if_neg h
theorem Fr_em (mu : RV) : Fr mu (em mu) := fun a ha => by
  unfold em
  rw [fl_row (by omega), fl_row (by omega), fl_row (by omega), fl_row (by omega), fl_row (by omega), fl_row (by omega), fl_row (by omega), fl_row (by omega), fl_row (by omega), fl_row (by omega), fl_row (by omega), fl_row (by omega)]
theorem em_R0 (mu : RV) : zr (rk (em mu) 89) = R0 := by
  funext a i
  unfold zr rk R0
  by_cases h1 : a = 1
  · rw [if_pos h1, if_neg (by omega)]
  · rw [if_neg h1]
    by_cases h2 : 2 ≤ a ∧ i < rlen a
    · rw [if_pos h2, if_pos h2]
      obtain ⟨h2, h3⟩ := h2
      have h4 : a ≤ 13 := by
        unfold rlen at h3
        split at h3 <;> omega
      rcases (show a = 2 ∨ a = 3 ∨ a = 4 ∨ a = 5 ∨ a = 6 ∨ a = 7 ∨ a = 8 ∨ a = 9 ∨ a = 10 ∨ a = 11 ∨ a = 12 ∨ a = 13 by omega) with e | e | e | e | e | e | e | e | e | e | e | e <;> subst e <;> (simp only [rlen] at h3; simp [em, fl, h3, v0])
    · rw [if_neg h2, if_neg h2, if_neg (by omega)]
section
variable (d L : Nat) (mu : RV) (p : Nat → Nat)
theorem z_em : zsem (d + 1) 3 0 [.inr (some 89)] [] (HH L mu p) = some (none, HH L (em mu) p) := by
  have hr : isRk 89 := by unfold isRk; omega
  have f0 := fun mu x => z_fill d L mu p 90 12 x (tt_90 L) (by omega)
  have f1 := fun mu x => z_fill d L mu p 91 12 x (tt_91 L) (by omega)
  have f2 := fun mu x => z_fill d L mu p 92 12 x (tt_92 L) (by omega)
  have f3 := fun mu x => z_fill d L mu p 93 52 x (tt_93 L) (by omega)
  have f4 := fun mu x => z_fill d L mu p 94 36 x (tt_94 L) (by omega)
  have f5 := fun mu x => z_fill d L mu p 95 36 x (tt_95 L) (by omega)
  have f6 := fun mu x => z_fill d L mu p 96 36 x (tt_96 L) (by omega)
  have f7 := fun mu x => z_fill d L mu p 97 24 x (tt_97 L) (by omega)
  have f8 := fun mu x => z_fill d L mu p 98 24 x (tt_98 L) (by omega)
  have f9 := fun mu x => z_fill d L mu p 99 24 x (tt_99 L) (by omega)
  have f10 := fun mu x => z_fill d L mu p 100 12 x (tt_100 L) (by omega)
  have f11 := fun mu x => z_fill d L mu p 101 12 x (tt_101 L) (by omega)
  unfold em
  simp (disch := first | omega | assumption) only [h3_0, h3_1, h3_4, h3_5, h3_8, h3_9, h3_12, h3_14, h3_17, h3_18, h3_21, h3_22, h3_25, h3_26, h3_29, h3_31, h3_34, h3_35, h3_38, h3_39, h3_42, h3_43, h3_46, h3_47, h3_50, h3_51, h3_54, h3_56, h3_59, h3_60, h3_63, h3_64, h3_67, h3_68, h3_71, h3_73, h3_76, h3_77, h3_80, h3_81, h3_84, h3_85, h3_88, h3_90, h3_93, h3_94, h3_97, h3_99, h3_102, Option.bind_some, Option.toList_some, Option.toList_none, List.cons_append, List.nil_append, nI_ltc, nI_lec, nI_eqc, nI_ne5, n5_ne, n5_lt, bI_0, bI_1, nI_add, pk_mul, if_pos, if_neg, ite_not, if_true, if_false, not_true_eq_false, not_false_eq_true, true_and, false_and, and_true, and_false, Nat.reduceAdd, Nat.reduceMul, f0, f1, f2, f3, f4, f5, f6, f7, f8, f9, f10, f11]
theorem z_isC (lv du : Nat) (h1 : mu 88 3 = nI lv) (h2 : mu 88 2 = nI du) (h3 : lv ≤ 5) (h4 : du ≤ 6) : zsem d 88 0 [.inr (some 88)] [] (HH L mu p) = some (some (.inl (bI (lv = 0 ∧ (du = 0 ∨ du = 4 ∨ du = 6)))), HH L mu p) := by
  simp (disch := first | omega | assumption) only [h88_0, h88_1, h88_4, h88_7, h88_8, h88_11, h88_14, h88_15, h88_18, h88_19, h88_22, h88_23, h88_26, h88_28, h88_31, h88_32, h88_35, h88_36_0, h88_36_1, h88_36_b, Option.bind_some, Option.toList_some, Option.toList_none, List.cons_append, List.nil_append, nI_ltc, nI_lec, nI_eqc, nI_ne5, n5_ne, n5_lt, bI_0, bI_1, nI_add, pk_mul, if_pos, if_neg, ite_not, if_true, if_false, not_true_eq_false, not_false_eq_true, true_and, false_and, and_true, and_false, Nat.reduceAdd, Nat.reduceMul, h1, h2]
  by_cases q1 : lv = 0 <;> by_cases q2 : du = 0 <;> by_cases q3 : du = 4 <;> by_cases q4 : du = 6 <;> simp [q1, q2, q3, q4, bI]
theorem t_any {s : RSt} (hs : WF s) (hcl : s.1.2.2.2.2 < 1000) (hr : CR mu s) (c : Nat) (hc : c < 128) : Tk (d + 3) L 79 [.inr (some 88), .inl (nI c)] mu p (tk s c) := by
  have hdu : s.1.1 ≤ 6 := by
    obtain ⟨⟨du, lv, rg, sp, cn⟩, ob, ls, R⟩ := s
    exact hs.1
  have r1 := hr.1
  unfold tk
  rcases (show s.1.1 = 0 ∨ s.1.1 = 1 ∨ s.1.1 = 2 ∨ s.1.1 = 3 ∨ s.1.1 = 4 ∨ s.1.1 = 5 ∨ s.1.1 = 6 by omega) with e | e | e | e | e | e | e <;> rw [e] at r1
  · rw [e]
    try dsimp only
    have E := h79_4 (d + 3) L mu p 0 (by omega) 44 rfl (nI c)
    obtain ⟨m1, f1, z1, n1, c1⟩ := t_C (d + 2) L mu p hs hr c hc
    cases ho : tkC s c with
    | some t =>
      rw [ho] at z1 c1
      dsimp only at z1
      refine ⟨m1, f1, ?_, fun h => (by cases h), c1⟩
      try dsimp only
      simp (disch := first | omega | assumption) only [h79_0, h79_1, h79_4_0, h79_4_1, h79_4_2, h79_4_3, h79_4_4, h79_4_5, h79_4_6, h79_44, h79_45, h79_46, h79_49, h79_52, h79_53, h79_54, h79_57, h79_60, h79_61, h79_64, h79_65_0, h79_65_1, h79_65_b, h79_66, h79_67, h79_68, h79_71_0, h79_71_1, h79_71_b, h79_72, h79_73, h79_74, h79_77_0, h79_77_1, h79_77_b, h79_78, h79_79, h79_80, h79_83_0, h79_83_1, h79_83_b, h79_84, h79_85, h79_86, h79_89, h79_92, h79_93, h79_94, h79_97, h79_100, h79_101, h79_104, h79_105_0, h79_105_1, h79_105_b, h79_106, h79_107, h79_108, h79_111_0, h79_111_1, h79_111_b, h79_112, h79_113, h79_114, h79_117_0, h79_117_1, h79_117_b, Option.bind_some, Option.toList_some, Option.toList_none, List.cons_append, List.nil_append, nI_ltc, nI_lec, nI_eqc, nI_ne5, n5_ne, n5_lt, bI_0, bI_1, nI_add, pk_mul, if_pos, if_neg, ite_not, if_true, if_false, not_true_eq_false, not_false_eq_true, true_and, false_and, and_true, and_false, Nat.reduceAdd, Nat.reduceMul, r1, E, z1]
    | none =>
      rw [ho] at z1 n1
      dsimp only at z1
      have n1 := n1 rfl
      rw [n1] at z1
      obtain ⟨m2, f2, z2, n2, c2⟩ := t_S (d + 2) L mu p hs hr c hc
      refine ⟨m2, f2, ?_, n2, c2⟩
      cases hp : tkS s c with
      | some t =>
        rw [hp] at z2
        dsimp only at z2 ⊢
        simp (disch := first | omega | assumption) only [h79_0, h79_1, h79_4_0, h79_4_1, h79_4_2, h79_4_3, h79_4_4, h79_4_5, h79_4_6, h79_44, h79_45, h79_46, h79_49, h79_52, h79_53, h79_54, h79_57, h79_60, h79_61, h79_64, h79_65_0, h79_65_1, h79_65_b, h79_66, h79_67, h79_68, h79_71_0, h79_71_1, h79_71_b, h79_72, h79_73, h79_74, h79_77_0, h79_77_1, h79_77_b, h79_78, h79_79, h79_80, h79_83_0, h79_83_1, h79_83_b, h79_84, h79_85, h79_86, h79_89, h79_92, h79_93, h79_94, h79_97, h79_100, h79_101, h79_104, h79_105_0, h79_105_1, h79_105_b, h79_106, h79_107, h79_108, h79_111_0, h79_111_1, h79_111_b, h79_112, h79_113, h79_114, h79_117_0, h79_117_1, h79_117_b, Option.bind_some, Option.toList_some, Option.toList_none, List.cons_append, List.nil_append, nI_ltc, nI_lec, nI_eqc, nI_ne5, n5_ne, n5_lt, bI_0, bI_1, nI_add, pk_mul, if_pos, if_neg, ite_not, if_true, if_false, not_true_eq_false, not_false_eq_true, true_and, false_and, and_true, and_false, Nat.reduceAdd, Nat.reduceMul, r1, E, z1, z2]
      | none =>
        rw [hp] at z2
        dsimp only at z2 ⊢
        simp (disch := first | omega | assumption) only [h79_0, h79_1, h79_4_0, h79_4_1, h79_4_2, h79_4_3, h79_4_4, h79_4_5, h79_4_6, h79_44, h79_45, h79_46, h79_49, h79_52, h79_53, h79_54, h79_57, h79_60, h79_61, h79_64, h79_65_0, h79_65_1, h79_65_b, h79_66, h79_67, h79_68, h79_71_0, h79_71_1, h79_71_b, h79_72, h79_73, h79_74, h79_77_0, h79_77_1, h79_77_b, h79_78, h79_79, h79_80, h79_83_0, h79_83_1, h79_83_b, h79_84, h79_85, h79_86, h79_89, h79_92, h79_93, h79_94, h79_97, h79_100, h79_101, h79_104, h79_105_0, h79_105_1, h79_105_b, h79_106, h79_107, h79_108, h79_111_0, h79_111_1, h79_111_b, h79_112, h79_113, h79_114, h79_117_0, h79_117_1, h79_117_b, Option.bind_some, Option.toList_some, Option.toList_none, List.cons_append, List.nil_append, nI_ltc, nI_lec, nI_eqc, nI_ne5, n5_ne, n5_lt, bI_0, bI_1, nI_add, pk_mul, if_pos, if_neg, ite_not, if_true, if_false, not_true_eq_false, not_false_eq_true, true_and, false_and, and_true, and_false, Nat.reduceAdd, Nat.reduceMul, r1, E, z1, z2]
  · rw [e]
    try dsimp only
    have E := h79_4 (d + 3) L mu p 1 (by omega) 66 rfl (nI c)
    obtain ⟨m2, f2, z2, n2, c2⟩ := t_S (d + 2) L mu p hs hr c hc
    refine ⟨m2, f2, ?_, n2, c2⟩
    cases hp : tkS s c with
    | some t =>
      rw [hp] at z2
      (try dsimp only at z2 ⊢)
      simp (disch := first | omega | assumption) only [h79_0, h79_1, h79_4_0, h79_4_1, h79_4_2, h79_4_3, h79_4_4, h79_4_5, h79_4_6, h79_44, h79_45, h79_46, h79_49, h79_52, h79_53, h79_54, h79_57, h79_60, h79_61, h79_64, h79_65_0, h79_65_1, h79_65_b, h79_66, h79_67, h79_68, h79_71_0, h79_71_1, h79_71_b, h79_72, h79_73, h79_74, h79_77_0, h79_77_1, h79_77_b, h79_78, h79_79, h79_80, h79_83_0, h79_83_1, h79_83_b, h79_84, h79_85, h79_86, h79_89, h79_92, h79_93, h79_94, h79_97, h79_100, h79_101, h79_104, h79_105_0, h79_105_1, h79_105_b, h79_106, h79_107, h79_108, h79_111_0, h79_111_1, h79_111_b, h79_112, h79_113, h79_114, h79_117_0, h79_117_1, h79_117_b, Option.bind_some, Option.toList_some, Option.toList_none, List.cons_append, List.nil_append, nI_ltc, nI_lec, nI_eqc, nI_ne5, n5_ne, n5_lt, bI_0, bI_1, nI_add, pk_mul, if_pos, if_neg, ite_not, if_true, if_false, not_true_eq_false, not_false_eq_true, true_and, false_and, and_true, and_false, Nat.reduceAdd, Nat.reduceMul, r1, E, z2]
    | none =>
      rw [hp] at z2
      (try dsimp only at z2 ⊢)
      simp (disch := first | omega | assumption) only [h79_0, h79_1, h79_4_0, h79_4_1, h79_4_2, h79_4_3, h79_4_4, h79_4_5, h79_4_6, h79_44, h79_45, h79_46, h79_49, h79_52, h79_53, h79_54, h79_57, h79_60, h79_61, h79_64, h79_65_0, h79_65_1, h79_65_b, h79_66, h79_67, h79_68, h79_71_0, h79_71_1, h79_71_b, h79_72, h79_73, h79_74, h79_77_0, h79_77_1, h79_77_b, h79_78, h79_79, h79_80, h79_83_0, h79_83_1, h79_83_b, h79_84, h79_85, h79_86, h79_89, h79_92, h79_93, h79_94, h79_97, h79_100, h79_101, h79_104, h79_105_0, h79_105_1, h79_105_b, h79_106, h79_107, h79_108, h79_111_0, h79_111_1, h79_111_b, h79_112, h79_113, h79_114, h79_117_0, h79_117_1, h79_117_b, Option.bind_some, Option.toList_some, Option.toList_none, List.cons_append, List.nil_append, nI_ltc, nI_lec, nI_eqc, nI_ne5, n5_ne, n5_lt, bI_0, bI_1, nI_add, pk_mul, if_pos, if_neg, ite_not, if_true, if_false, not_true_eq_false, not_false_eq_true, true_and, false_and, and_true, and_false, Nat.reduceAdd, Nat.reduceMul, r1, E, z2]
  · rw [e]
    try dsimp only
    have E := h79_4 (d + 3) L mu p 2 (by omega) 72 rfl (nI c)
    obtain ⟨m2, f2, z2, n2, c2⟩ := t_K d L mu p hs e hcl hr c hc
    refine ⟨m2, f2, ?_, n2, c2⟩
    cases hp : tkK s c with
    | some t =>
      rw [hp] at z2
      (try dsimp only at z2 ⊢)
      simp (disch := first | omega | assumption) only [h79_0, h79_1, h79_4_0, h79_4_1, h79_4_2, h79_4_3, h79_4_4, h79_4_5, h79_4_6, h79_44, h79_45, h79_46, h79_49, h79_52, h79_53, h79_54, h79_57, h79_60, h79_61, h79_64, h79_65_0, h79_65_1, h79_65_b, h79_66, h79_67, h79_68, h79_71_0, h79_71_1, h79_71_b, h79_72, h79_73, h79_74, h79_77_0, h79_77_1, h79_77_b, h79_78, h79_79, h79_80, h79_83_0, h79_83_1, h79_83_b, h79_84, h79_85, h79_86, h79_89, h79_92, h79_93, h79_94, h79_97, h79_100, h79_101, h79_104, h79_105_0, h79_105_1, h79_105_b, h79_106, h79_107, h79_108, h79_111_0, h79_111_1, h79_111_b, h79_112, h79_113, h79_114, h79_117_0, h79_117_1, h79_117_b, Option.bind_some, Option.toList_some, Option.toList_none, List.cons_append, List.nil_append, nI_ltc, nI_lec, nI_eqc, nI_ne5, n5_ne, n5_lt, bI_0, bI_1, nI_add, pk_mul, if_pos, if_neg, ite_not, if_true, if_false, not_true_eq_false, not_false_eq_true, true_and, false_and, and_true, and_false, Nat.reduceAdd, Nat.reduceMul, r1, E, z2]
    | none =>
      rw [hp] at z2
      (try dsimp only at z2 ⊢)
      simp (disch := first | omega | assumption) only [h79_0, h79_1, h79_4_0, h79_4_1, h79_4_2, h79_4_3, h79_4_4, h79_4_5, h79_4_6, h79_44, h79_45, h79_46, h79_49, h79_52, h79_53, h79_54, h79_57, h79_60, h79_61, h79_64, h79_65_0, h79_65_1, h79_65_b, h79_66, h79_67, h79_68, h79_71_0, h79_71_1, h79_71_b, h79_72, h79_73, h79_74, h79_77_0, h79_77_1, h79_77_b, h79_78, h79_79, h79_80, h79_83_0, h79_83_1, h79_83_b, h79_84, h79_85, h79_86, h79_89, h79_92, h79_93, h79_94, h79_97, h79_100, h79_101, h79_104, h79_105_0, h79_105_1, h79_105_b, h79_106, h79_107, h79_108, h79_111_0, h79_111_1, h79_111_b, h79_112, h79_113, h79_114, h79_117_0, h79_117_1, h79_117_b, Option.bind_some, Option.toList_some, Option.toList_none, List.cons_append, List.nil_append, nI_ltc, nI_lec, nI_eqc, nI_ne5, n5_ne, n5_lt, bI_0, bI_1, nI_add, pk_mul, if_pos, if_neg, ite_not, if_true, if_false, not_true_eq_false, not_false_eq_true, true_and, false_and, and_true, and_false, Nat.reduceAdd, Nat.reduceMul, r1, E, z2]
  · rw [e]
    try dsimp only
    have E := h79_4 (d + 3) L mu p 3 (by omega) 78 rfl (nI c)
    obtain ⟨m2, f2, z2, n2, c2⟩ := t_O (d + 1) L mu p hs e hcl hr c hc
    refine ⟨m2, f2, ?_, n2, c2⟩
    cases hp : tkO s c with
    | some t =>
      rw [hp] at z2
      (try dsimp only at z2 ⊢)
      simp (disch := first | omega | assumption) only [h79_0, h79_1, h79_4_0, h79_4_1, h79_4_2, h79_4_3, h79_4_4, h79_4_5, h79_4_6, h79_44, h79_45, h79_46, h79_49, h79_52, h79_53, h79_54, h79_57, h79_60, h79_61, h79_64, h79_65_0, h79_65_1, h79_65_b, h79_66, h79_67, h79_68, h79_71_0, h79_71_1, h79_71_b, h79_72, h79_73, h79_74, h79_77_0, h79_77_1, h79_77_b, h79_78, h79_79, h79_80, h79_83_0, h79_83_1, h79_83_b, h79_84, h79_85, h79_86, h79_89, h79_92, h79_93, h79_94, h79_97, h79_100, h79_101, h79_104, h79_105_0, h79_105_1, h79_105_b, h79_106, h79_107, h79_108, h79_111_0, h79_111_1, h79_111_b, h79_112, h79_113, h79_114, h79_117_0, h79_117_1, h79_117_b, Option.bind_some, Option.toList_some, Option.toList_none, List.cons_append, List.nil_append, nI_ltc, nI_lec, nI_eqc, nI_ne5, n5_ne, n5_lt, bI_0, bI_1, nI_add, pk_mul, if_pos, if_neg, ite_not, if_true, if_false, not_true_eq_false, not_false_eq_true, true_and, false_and, and_true, and_false, Nat.reduceAdd, Nat.reduceMul, r1, E, z2]
    | none =>
      rw [hp] at z2
      (try dsimp only at z2 ⊢)
      simp (disch := first | omega | assumption) only [h79_0, h79_1, h79_4_0, h79_4_1, h79_4_2, h79_4_3, h79_4_4, h79_4_5, h79_4_6, h79_44, h79_45, h79_46, h79_49, h79_52, h79_53, h79_54, h79_57, h79_60, h79_61, h79_64, h79_65_0, h79_65_1, h79_65_b, h79_66, h79_67, h79_68, h79_71_0, h79_71_1, h79_71_b, h79_72, h79_73, h79_74, h79_77_0, h79_77_1, h79_77_b, h79_78, h79_79, h79_80, h79_83_0, h79_83_1, h79_83_b, h79_84, h79_85, h79_86, h79_89, h79_92, h79_93, h79_94, h79_97, h79_100, h79_101, h79_104, h79_105_0, h79_105_1, h79_105_b, h79_106, h79_107, h79_108, h79_111_0, h79_111_1, h79_111_b, h79_112, h79_113, h79_114, h79_117_0, h79_117_1, h79_117_b, Option.bind_some, Option.toList_some, Option.toList_none, List.cons_append, List.nil_append, nI_ltc, nI_lec, nI_eqc, nI_ne5, n5_ne, n5_lt, bI_0, bI_1, nI_add, pk_mul, if_pos, if_neg, ite_not, if_true, if_false, not_true_eq_false, not_false_eq_true, true_and, false_and, and_true, and_false, Nat.reduceAdd, Nat.reduceMul, r1, E, z2]
  · rw [e]
    try dsimp only
    have E := h79_4 (d + 3) L mu p 4 (by omega) 84 rfl (nI c)
    obtain ⟨m1, f1, z1, n1, c1⟩ := t_P (d + 2) L mu p hs e hr c hc
    cases ho : tkP s c with
    | some t =>
      rw [ho] at z1 c1
      dsimp only at z1
      refine ⟨m1, f1, ?_, fun h => (by cases h), c1⟩
      try dsimp only
      simp (disch := first | omega | assumption) only [h79_0, h79_1, h79_4_0, h79_4_1, h79_4_2, h79_4_3, h79_4_4, h79_4_5, h79_4_6, h79_44, h79_45, h79_46, h79_49, h79_52, h79_53, h79_54, h79_57, h79_60, h79_61, h79_64, h79_65_0, h79_65_1, h79_65_b, h79_66, h79_67, h79_68, h79_71_0, h79_71_1, h79_71_b, h79_72, h79_73, h79_74, h79_77_0, h79_77_1, h79_77_b, h79_78, h79_79, h79_80, h79_83_0, h79_83_1, h79_83_b, h79_84, h79_85, h79_86, h79_89, h79_92, h79_93, h79_94, h79_97, h79_100, h79_101, h79_104, h79_105_0, h79_105_1, h79_105_b, h79_106, h79_107, h79_108, h79_111_0, h79_111_1, h79_111_b, h79_112, h79_113, h79_114, h79_117_0, h79_117_1, h79_117_b, Option.bind_some, Option.toList_some, Option.toList_none, List.cons_append, List.nil_append, nI_ltc, nI_lec, nI_eqc, nI_ne5, n5_ne, n5_lt, bI_0, bI_1, nI_add, pk_mul, if_pos, if_neg, ite_not, if_true, if_false, not_true_eq_false, not_false_eq_true, true_and, false_and, and_true, and_false, Nat.reduceAdd, Nat.reduceMul, r1, E, z1]
    | none =>
      rw [ho] at z1 n1
      dsimp only at z1
      have n1 := n1 rfl
      rw [n1] at z1
      obtain ⟨m2, f2, z2, n2, c2⟩ := t_E (d + 1) L mu p hs hr c hc
      refine ⟨m2, f2, ?_, n2, c2⟩
      cases hp : tkE s c with
      | some t =>
        rw [hp] at z2
        dsimp only at z2 ⊢
        simp (disch := first | omega | assumption) only [h79_0, h79_1, h79_4_0, h79_4_1, h79_4_2, h79_4_3, h79_4_4, h79_4_5, h79_4_6, h79_44, h79_45, h79_46, h79_49, h79_52, h79_53, h79_54, h79_57, h79_60, h79_61, h79_64, h79_65_0, h79_65_1, h79_65_b, h79_66, h79_67, h79_68, h79_71_0, h79_71_1, h79_71_b, h79_72, h79_73, h79_74, h79_77_0, h79_77_1, h79_77_b, h79_78, h79_79, h79_80, h79_83_0, h79_83_1, h79_83_b, h79_84, h79_85, h79_86, h79_89, h79_92, h79_93, h79_94, h79_97, h79_100, h79_101, h79_104, h79_105_0, h79_105_1, h79_105_b, h79_106, h79_107, h79_108, h79_111_0, h79_111_1, h79_111_b, h79_112, h79_113, h79_114, h79_117_0, h79_117_1, h79_117_b, Option.bind_some, Option.toList_some, Option.toList_none, List.cons_append, List.nil_append, nI_ltc, nI_lec, nI_eqc, nI_ne5, n5_ne, n5_lt, bI_0, bI_1, nI_add, pk_mul, if_pos, if_neg, ite_not, if_true, if_false, not_true_eq_false, not_false_eq_true, true_and, false_and, and_true, and_false, Nat.reduceAdd, Nat.reduceMul, r1, E, z1, z2]
      | none =>
        rw [hp] at z2
        dsimp only at z2 ⊢
        simp (disch := first | omega | assumption) only [h79_0, h79_1, h79_4_0, h79_4_1, h79_4_2, h79_4_3, h79_4_4, h79_4_5, h79_4_6, h79_44, h79_45, h79_46, h79_49, h79_52, h79_53, h79_54, h79_57, h79_60, h79_61, h79_64, h79_65_0, h79_65_1, h79_65_b, h79_66, h79_67, h79_68, h79_71_0, h79_71_1, h79_71_b, h79_72, h79_73, h79_74, h79_77_0, h79_77_1, h79_77_b, h79_78, h79_79, h79_80, h79_83_0, h79_83_1, h79_83_b, h79_84, h79_85, h79_86, h79_89, h79_92, h79_93, h79_94, h79_97, h79_100, h79_101, h79_104, h79_105_0, h79_105_1, h79_105_b, h79_106, h79_107, h79_108, h79_111_0, h79_111_1, h79_111_b, h79_112, h79_113, h79_114, h79_117_0, h79_117_1, h79_117_b, Option.bind_some, Option.toList_some, Option.toList_none, List.cons_append, List.nil_append, nI_ltc, nI_lec, nI_eqc, nI_ne5, n5_ne, n5_lt, bI_0, bI_1, nI_add, pk_mul, if_pos, if_neg, ite_not, if_true, if_false, not_true_eq_false, not_false_eq_true, true_and, false_and, and_true, and_false, Nat.reduceAdd, Nat.reduceMul, r1, E, z1, z2]
  · rw [e]
    try dsimp only
    have E := h79_4 (d + 3) L mu p 5 (by omega) 106 rfl (nI c)
    obtain ⟨m2, f2, z2, n2, c2⟩ := t_X d L mu p hs e hcl hr c hc
    refine ⟨m2, f2, ?_, n2, c2⟩
    cases hp : tkX s c with
    | some t =>
      rw [hp] at z2
      (try dsimp only at z2 ⊢)
      simp (disch := first | omega | assumption) only [h79_0, h79_1, h79_4_0, h79_4_1, h79_4_2, h79_4_3, h79_4_4, h79_4_5, h79_4_6, h79_44, h79_45, h79_46, h79_49, h79_52, h79_53, h79_54, h79_57, h79_60, h79_61, h79_64, h79_65_0, h79_65_1, h79_65_b, h79_66, h79_67, h79_68, h79_71_0, h79_71_1, h79_71_b, h79_72, h79_73, h79_74, h79_77_0, h79_77_1, h79_77_b, h79_78, h79_79, h79_80, h79_83_0, h79_83_1, h79_83_b, h79_84, h79_85, h79_86, h79_89, h79_92, h79_93, h79_94, h79_97, h79_100, h79_101, h79_104, h79_105_0, h79_105_1, h79_105_b, h79_106, h79_107, h79_108, h79_111_0, h79_111_1, h79_111_b, h79_112, h79_113, h79_114, h79_117_0, h79_117_1, h79_117_b, Option.bind_some, Option.toList_some, Option.toList_none, List.cons_append, List.nil_append, nI_ltc, nI_lec, nI_eqc, nI_ne5, n5_ne, n5_lt, bI_0, bI_1, nI_add, pk_mul, if_pos, if_neg, ite_not, if_true, if_false, not_true_eq_false, not_false_eq_true, true_and, false_and, and_true, and_false, Nat.reduceAdd, Nat.reduceMul, r1, E, z2]
    | none =>
      rw [hp] at z2
      (try dsimp only at z2 ⊢)
      simp (disch := first | omega | assumption) only [h79_0, h79_1, h79_4_0, h79_4_1, h79_4_2, h79_4_3, h79_4_4, h79_4_5, h79_4_6, h79_44, h79_45, h79_46, h79_49, h79_52, h79_53, h79_54, h79_57, h79_60, h79_61, h79_64, h79_65_0, h79_65_1, h79_65_b, h79_66, h79_67, h79_68, h79_71_0, h79_71_1, h79_71_b, h79_72, h79_73, h79_74, h79_77_0, h79_77_1, h79_77_b, h79_78, h79_79, h79_80, h79_83_0, h79_83_1, h79_83_b, h79_84, h79_85, h79_86, h79_89, h79_92, h79_93, h79_94, h79_97, h79_100, h79_101, h79_104, h79_105_0, h79_105_1, h79_105_b, h79_106, h79_107, h79_108, h79_111_0, h79_111_1, h79_111_b, h79_112, h79_113, h79_114, h79_117_0, h79_117_1, h79_117_b, Option.bind_some, Option.toList_some, Option.toList_none, List.cons_append, List.nil_append, nI_ltc, nI_lec, nI_eqc, nI_ne5, n5_ne, n5_lt, bI_0, bI_1, nI_add, pk_mul, if_pos, if_neg, ite_not, if_true, if_false, not_true_eq_false, not_false_eq_true, true_and, false_and, and_true, and_false, Nat.reduceAdd, Nat.reduceMul, r1, E, z2]
  · rw [e]
    try dsimp only
    have E := h79_4 (d + 3) L mu p 6 (by omega) 112 rfl (nI c)
    obtain ⟨m2, f2, z2, n2, c2⟩ := t_E (d + 1) L mu p hs hr c hc
    refine ⟨m2, f2, ?_, n2, c2⟩
    cases hp : tkE s c with
    | some t =>
      rw [hp] at z2
      (try dsimp only at z2 ⊢)
      simp (disch := first | omega | assumption) only [h79_0, h79_1, h79_4_0, h79_4_1, h79_4_2, h79_4_3, h79_4_4, h79_4_5, h79_4_6, h79_44, h79_45, h79_46, h79_49, h79_52, h79_53, h79_54, h79_57, h79_60, h79_61, h79_64, h79_65_0, h79_65_1, h79_65_b, h79_66, h79_67, h79_68, h79_71_0, h79_71_1, h79_71_b, h79_72, h79_73, h79_74, h79_77_0, h79_77_1, h79_77_b, h79_78, h79_79, h79_80, h79_83_0, h79_83_1, h79_83_b, h79_84, h79_85, h79_86, h79_89, h79_92, h79_93, h79_94, h79_97, h79_100, h79_101, h79_104, h79_105_0, h79_105_1, h79_105_b, h79_106, h79_107, h79_108, h79_111_0, h79_111_1, h79_111_b, h79_112, h79_113, h79_114, h79_117_0, h79_117_1, h79_117_b, Option.bind_some, Option.toList_some, Option.toList_none, List.cons_append, List.nil_append, nI_ltc, nI_lec, nI_eqc, nI_ne5, n5_ne, n5_lt, bI_0, bI_1, nI_add, pk_mul, if_pos, if_neg, ite_not, if_true, if_false, not_true_eq_false, not_false_eq_true, true_and, false_and, and_true, and_false, Nat.reduceAdd, Nat.reduceMul, r1, E, z2]
    | none =>
      rw [hp] at z2
      (try dsimp only at z2 ⊢)
      simp (disch := first | omega | assumption) only [h79_0, h79_1, h79_4_0, h79_4_1, h79_4_2, h79_4_3, h79_4_4, h79_4_5, h79_4_6, h79_44, h79_45, h79_46, h79_49, h79_52, h79_53, h79_54, h79_57, h79_60, h79_61, h79_64, h79_65_0, h79_65_1, h79_65_b, h79_66, h79_67, h79_68, h79_71_0, h79_71_1, h79_71_b, h79_72, h79_73, h79_74, h79_77_0, h79_77_1, h79_77_b, h79_78, h79_79, h79_80, h79_83_0, h79_83_1, h79_83_b, h79_84, h79_85, h79_86, h79_89, h79_92, h79_93, h79_94, h79_97, h79_100, h79_101, h79_104, h79_105_0, h79_105_1, h79_105_b, h79_106, h79_107, h79_108, h79_111_0, h79_111_1, h79_111_b, h79_112, h79_113, h79_114, h79_117_0, h79_117_1, h79_117_b, Option.bind_some, Option.toList_some, Option.toList_none, List.cons_append, List.nil_append, nI_ltc, nI_lec, nI_eqc, nI_ne5, n5_ne, n5_lt, bI_0, bI_1, nI_add, pk_mul, if_pos, if_neg, ite_not, if_true, if_false, not_true_eq_false, not_false_eq_true, true_and, false_and, and_true, and_false, Nat.reduceAdd, Nat.reduceMul, r1, E, z2]
def flt (o : Option Nat) : Int32 := match o with
  | none => -5
  | some i => nI i
theorem z_rdL (tx : Nat → Nat) (n : Nat) (hn : n ≤ 80) : ∀ m i mu s, WF s → CR mu s → s.1.2.2.2.2 ≤ i → i + m = n → (∀ j, j < n → mu 104 j = nI (tx j) ∧ tx j < 128) → ∃ mu', Fr mu mu' ∧ zsem (d + 4) 77 25 [.inr (some 88), .inr (some 104), .inl (nI n), .inl (nI i)] [] (HH L mu p) = some (some (.inl (flt (rdr tx m i s).1)), HH L mu' p) ∧ ((rdr tx m i s).1 = none → CR mu' (rdr tx m i s).2) := by
  intro m
  induction m with
  | zero =>
    intro i mu s hs hr hc hi ht
    have hi : i = n := by omega
    subst hi
    have hb : s.1.1 ≤ 6 ∧ s.1.2.1 ≤ 5 := by
      obtain ⟨⟨du, lv, rg, sp, cn⟩, ob, ls, R⟩ := s
      exact ⟨hs.1, hs.2.1⟩
    have hC := z_isC (d + 3) L mu p s.1.2.1 s.1.1 hr.2.1 hr.1 hb.2 hb.1
    refine ⟨mu, Fr_r mu, ?_, fun _ => hr⟩
    rw [rdr_n, h77_25]
    try dsimp only
    by_cases g : s.1.2.1 = 0 ∧ (s.1.1 = 0 ∨ s.1.1 = 4 ∨ s.1.1 = 6)
    · rw [if_pos ((tb_iff (cmpl s)).mpr g)]
      rw [bI_t g] at hC
      rw [show flt none = -5 from rfl]
      simp (disch := first | omega | assumption) only [h77_0, h77_1, h77_4, h77_7, h77_8, h77_9, h77_12, h77_13, h77_14, h77_17, h77_18, h77_20, h77_23, h77_24, h77_26, h77_27, h77_30, h77_31, h77_32, h77_33, h77_36, h77_37, h77_38, h77_39, h77_40, h77_43, h77_46, h77_47, h77_48, h77_51, h77_54, h77_55, h77_58, h77_61, h77_63, h77_66, h77_67, Option.bind_some, Option.toList_some, Option.toList_none, List.cons_append, List.nil_append, nI_ltc, nI_lec, nI_eqc, nI_ne5, n5_ne, n5_lt, bI_0, bI_1, nI_add, pk_mul, if_pos, if_neg, ite_not, if_true, if_false, not_true_eq_false, not_false_eq_true, true_and, false_and, and_true, and_false, Nat.reduceAdd, Nat.reduceMul, Nat.le_refl, hC]
    · rw [if_neg (fun q => g ((tb_iff (cmpl s)).mp q))]
      rw [bI_f g] at hC
      rw [show flt (some i) = nI i from rfl]
      simp (disch := first | omega | assumption) only [h77_0, h77_1, h77_4, h77_7, h77_8, h77_9, h77_12, h77_13, h77_14, h77_17, h77_18, h77_20, h77_23, h77_24, h77_26, h77_27, h77_30, h77_31, h77_32, h77_33, h77_36, h77_37, h77_38, h77_39, h77_40, h77_43, h77_46, h77_47, h77_48, h77_51, h77_54, h77_55, h77_58, h77_61, h77_63, h77_66, h77_67, Option.bind_some, Option.toList_some, Option.toList_none, List.cons_append, List.nil_append, nI_ltc, nI_lec, nI_eqc, nI_ne5, n5_ne, n5_lt, bI_0, bI_1, nI_add, pk_mul, if_pos, if_neg, ite_not, if_true, if_false, not_true_eq_false, not_false_eq_true, true_and, false_and, and_true, and_false, Nat.reduceAdd, Nat.reduceMul, Nat.le_refl, hC]
  | succ m ih =>
    intro i mu s hs hr hc hi ht
    obtain ⟨t1, t2⟩ := ht i (by omega)
    obtain ⟨m2, f2, z2, n2, c2⟩ := t_any d L mu p hs (by omega) hr (tx i) t2
    have q1 : ¬n ≤ i := by omega
    have q2 : ¬80 ≤ i := by omega
    have q3 : i < 80 := by omega
    rw [h77_25]
    cases e : tk s (tx i) with
    | none =>
      rw [e] at z2
      dsimp only at z2
      rw [rdr_f tx m i s e]
      refine ⟨m2, f2, ?_, fun h => (by cases h)⟩
      rw [show flt (some i) = nI i from rfl]
      simp (disch := first | omega | assumption) only [h77_0, h77_1, h77_4, h77_7, h77_8, h77_9, h77_12, h77_13, h77_14, h77_17, h77_18, h77_20, h77_23, h77_24, h77_26, h77_27, h77_30, h77_31, h77_32, h77_33, h77_36, h77_37, h77_38, h77_39, h77_40, h77_43, h77_46, h77_47, h77_48, h77_51, h77_54, h77_55, h77_58, h77_61, h77_63, h77_66, h77_67, Option.bind_some, Option.toList_some, Option.toList_none, List.cons_append, List.nil_append, nI_ltc, nI_lec, nI_eqc, nI_ne5, n5_ne, n5_lt, bI_0, bI_1, nI_add, pk_mul, if_pos, if_neg, ite_not, if_true, if_false, not_true_eq_false, not_false_eq_true, true_and, false_and, and_true, and_false, Nat.reduceAdd, Nat.reduceMul, q1, q2, q3, t1, z2]
    | some s' =>
      rw [e] at z2
      dsimp only at z2
      rw [rdr_s tx m i s s' e]
      obtain ⟨m3, f3, z3, c3⟩ := ih (i + 1) m2 s' (WF_tk hs e) (c2 s' e) (by have := (tk_cn e).2; omega) (by omega) (fun j hj => by rw [f2 104 (by omega)]; exact ht j hj)
      refine ⟨m3, Fr_t f2 f3, ?_, c3⟩
      rw [← z3]
      simp (disch := first | omega | assumption) only [h77_0, h77_1, h77_4, h77_7, h77_8, h77_9, h77_12, h77_13, h77_14, h77_17, h77_18, h77_20, h77_23, h77_24, h77_26, h77_27, h77_30, h77_31, h77_32, h77_33, h77_36, h77_37, h77_38, h77_39, h77_40, h77_43, h77_46, h77_47, h77_48, h77_51, h77_54, h77_55, h77_58, h77_61, h77_63, h77_66, h77_67, Option.bind_some, Option.toList_some, Option.toList_none, List.cons_append, List.nil_append, nI_ltc, nI_lec, nI_eqc, nI_ne5, n5_ne, n5_lt, bI_0, bI_1, nI_add, pk_mul, if_pos, if_neg, ite_not, if_true, if_false, not_true_eq_false, not_false_eq_true, true_and, false_and, and_true, and_false, Nat.reduceAdd, Nat.reduceMul, q1, q2, q3, t1, z2]
theorem z_read (tx : Nat → Nat) (n : Nat) (hn : n ≤ 80) (ht : ∀ j, j < n → mu 104 j = nI (tx j) ∧ tx j < 128) : ∃ mu', Fr mu mu' ∧ zsem (d + 4) 77 0 [.inr (some 88), .inr (some 104), .inl (nI n), .inr none] [] (HH L mu p) = some (some (.inl (flt (rdr tx n 0 s0).1)), HH L mu' p) ∧ ((rdr tx n 0 s0).1 = none → CR mu' (rdr tx n 0 s0).2) := by
  have he := z_em (d + 2) L mu p
  have hB := z_bB (d + 3) L (u2 (u2 (em mu) 88 1 (nI 0)) 88 3 (nI 0)) p 0 12 (u2_s _ _ _ _) (by omega)
  obtain ⟨m1, f1, z1, c1⟩ := z_rdL d L p tx n hn n 0 (u2 (u2 (u2 (u2 (u2 (em mu) 88 1 (nI 0)) 88 3 (nI 0)) 102 0 (nI 12)) 103 0 (-1)) 88 2 (nI 0)) s0 WF_0 ⟨u2_s _ _ _ _, by rw [u2_o _ _ (by omega), u2_o _ _ (by omega), u2_o _ _ (by omega), u2_s]; rfl, fun h => absurd h (by unfold s0; dsimp only; omega), fun h => absurd h (by unfold s0; dsimp only; omega), by rw [u2_o _ _ (by omega), u2_o _ _ (by omega), u2_o _ _ (by omega), u2_o _ _ (by omega), u2_s]; rfl, fun l hl => by
    have hl : l = 0 := Nat.le_zero.mp hl
    subst hl
    rw [u2_oa (by omega), u2_oa (by omega), u2_s, u2_oa (by omega), u2_s]
    exact ⟨rfl, by decide⟩, by rw [rk_uo (by omega), rk_uo (by omega), rk_uo (by omega), rk_uo (by omega), rk_uo (by omega), em_R0]; rfl⟩ (Nat.le_refl _) (by omega) (fun j hj => by rw [u2_oa (by omega), u2_oa (by omega), u2_oa (by omega), u2_oa (by omega), u2_oa (by omega), Fr_em mu 104 (by omega)]; exact ht j hj)
  refine ⟨m1, Fr_t (Fr_u (Fr_u (Fr_u (Fr_u (Fr_u (Fr_em mu) (by omega)) (by omega)) (by omega)) (by omega)) (by omega)) f1, ?_, c1⟩
  rw [← z1]
  simp (disch := first | omega | assumption) only [h77_0, h77_1, h77_4, h77_7, h77_8, h77_9, h77_12, h77_13, h77_14, h77_17, h77_18, h77_20, h77_23, h77_24, h77_26, h77_27, h77_30, h77_31, h77_32, h77_33, h77_36, h77_37, h77_38, h77_39, h77_40, h77_43, h77_46, h77_47, h77_48, h77_51, h77_54, h77_55, h77_58, h77_61, h77_63, h77_66, h77_67, Option.bind_some, Option.toList_some, Option.toList_none, List.cons_append, List.nil_append, nI_ltc, nI_lec, nI_eqc, nI_ne5, n5_ne, n5_lt, bI_0, bI_1, nI_add, pk_mul, if_pos, if_neg, ite_not, if_true, if_false, not_true_eq_false, not_false_eq_true, true_and, false_and, and_true, and_false, Nat.reduceAdd, Nat.reduceMul, he, hB]
end
