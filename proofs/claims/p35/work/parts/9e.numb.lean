/-! numbering: what it does, and both sides -/
def nbJ (R : RV) (b t : Nat) : Option Nat := if R 5 (b * 4 + t) = -5 then none else if R 2 (vn (R 5 (b * 4 + t))) = nI 2 then some (vn (R 5 (b * 4 + t))) else none
/-- the last number of a bridge behind whose lower bus the next number is y -/
def nla (R : RV) (y : Nat) : Nat := min 15 (y - 1 + vn (R 1 12))
def visS (f : RV → Nat → Nat → RV × Nat) (b : Nat) : Nat → RV → Nat → RV × Nat
  | 0, R, x => (R, x)
  | m + 1, R, x => match (if x ≤ 15 then nbJ R b (3 - m) else none) with
    | none => visS f b m R x
    | some j => visS f b m (u2 (f (u2 R 12 j (nI x)) j (x + 1)).1 13 j (nI (nla R (f (u2 R 12 j (nI x)) j (x + 1)).2))) (nla R (f (u2 R 12 j (nI x)) j (x + 1)).2 + 1)
def nbB : Nat → RV → Nat → Nat → RV × Nat
  | 0, R, _, x => (R, x)
  | n + 1, R, b, x => visS (nbB n) b 4 R x
def SameN (R R' : RV) : Prop := ∀ a, ¬a = 12 → ¬a = 13 → R' a = R a
theorem SameN.tr {R R1 R2 : RV} (h : SameN R R1) (h' : SameN R1 R2) : SameN R R2 := fun a h1 h2 => by rw [h' a h1 h2, h a h1 h2]
theorem nbJ_N {R R' : RV} (h : SameN R R') (b t : Nat) : nbJ R' b t = nbJ R b t := by
  unfold nbJ
  rw [h 5 (by omega) (by omega), h 2 (by omega) (by omega)]
theorem vis_N {f : RV → Nat → Nat → RV × Nat} (hf : ∀ R b x, SameN R (f R b x).1) (b : Nat) : ∀ m R x, SameN R (visS f b m R x).1 := by
  intro m
  induction m with
  | zero => intro R x a _ _; rfl
  | succ m ih =>
    intro R x
    rw [visS]
    split
    · exact ih R x
    · refine SameN.tr ?_ (ih _ _)
      intro a h1 h2
      rw [u2_row h2, hf _ _ _ a h1 h2, u2_row h1]
theorem nb_N : ∀ n R b x, SameN R (nbB n R b x).1 := by
  intro n
  induction n with
  | zero => intro R b x a _ _; rfl
  | succ n ih => intro R b x; exact vis_N ih b 4 R x
theorem vis_bd {f : RV → Nat → Nat → RV × Nat} (hf : ∀ R b x, x ≤ 16 → x ≤ (f R b x).2 ∧ (f R b x).2 ≤ 16) (b : Nat) : ∀ m R x, x ≤ 16 → x ≤ (visS f b m R x).2 ∧ (visS f b m R x).2 ≤ 16 := by
  intro m
  induction m with
  | zero => intro R x h; exact ⟨Nat.le_refl _, h⟩
  | succ m ih =>
    intro R x h
    rw [visS]
    split
    · exact ih R x h
    · rename_i j hj
      have hx : x ≤ 15 := by
        by_cases q : x ≤ 15
        · exact q
        · rw [if_neg q] at hj; cases hj
      have h1 := hf (u2 R 12 j (nI x)) j (x + 1) (by omega)
      have h2 : x ≤ nla R (f (u2 R 12 j (nI x)) j (x + 1)).2 ∧ nla R (f (u2 R 12 j (nI x)) j (x + 1)).2 ≤ 15 := by
        unfold nla
        omega
      have h3 := ih (u2 (f (u2 R 12 j (nI x)) j (x + 1)).1 13 j (nI (nla R (f (u2 R 12 j (nI x)) j (x + 1)).2))) (nla R (f (u2 R 12 j (nI x)) j (x + 1)).2 + 1) (by omega)
      omega
theorem nb_bd : ∀ n R b x, x ≤ 16 → x ≤ (nbB n R b x).2 ∧ (nbB n R b x).2 ≤ 16 := by
  intro n
  induction n with
  | zero => intro R b x h; exact ⟨Nat.le_refl _, h⟩
  | succ n ih => intro R b x h; exact vis_bd ih b 4 R x h
theorem min_ok (a b : Nat) (ha : a < 2147483648) (hb : b < 2147483648) : (if nI b < nI a then nI b else nI a) = nI (min a b) := by
  by_cases h : b < a
  · rw [if_pos (by rw [nI_ltc hb ha]; exact h)]; congr 1; omega
  · rw [if_neg (by rw [nI_ltc hb ha]; exact h)]; congr 1; omega
theorem nbJ_some {R : RV} {b t j : Nat} (hI : InvT R) (hb : b < 13) (ht : t < 4) (h : nbJ R b t = some j) : j < 12 ∧ R 5 (b * 4 + t) = nI j ∧ R 2 j = nI 2 ∧ bn R j = b ∧ sn R j = t := by
  unfold nbJ at h
  rcases hI.2.2.1 b t hb ht with hv | ⟨i, hi, hv, hk, -, -⟩
  · rw [if_pos hv] at h; cases h
  · rw [hv, vn_n (by omega), if_neg (by rw [nI_ne5 (by omega)]; exact id)] at h
    by_cases q : R 2 i = nI 2
    · rw [if_pos q] at h
      cases h
      obtain ⟨g1, g2, -⟩ := slot_bk hI hb ht hi hv
      exact ⟨hi, hv, q, g1, g2⟩
    · rw [if_neg q] at h; cases h
section
variable (d L : Nat) (p : Nat → Nat)
theorem z_nbL {n : Nat} (hn : n < 5) {b g : Nat} (hb : b < 13) (hg : g < 3) (a2 : Int32)
    (ih : ∀ mu R j x, rk mu 1 = R → InvT R → R 1 12 = nI g → j < 13 → x ≤ 16 → ∃ mu', zsem (d + n + 1) 107 0 [.inr (.inl (some 1)), .inl (nI j), .inl (nI x), .inl (nI (6 - n)), .inr (.inl none), .inr (.inl none), .inr (.inl none), .inr (.inl none)] [] (HH L mu p) = some (some (.inl (nI (nbB n R j x).2)), HH L mu' p) ∧ rk mu' 1 = (nbB n R j x).1 ∧ ∀ r, ¬r = 12 → ¬r = 13 → mu' r = mu r) :
    ∀ m mu R x (w6 w7 : AV), m ≤ 4 → rk mu 1 = R → InvT R → R 1 12 = nI g → x ≤ 16 → ∃ mu', zsem (d + n + 2) 107 13 [.inr (.inl (some 1)), .inl (nI b), .inl a2, .inl (nI (5 - n)), .inl (nI x), .inl (nI (4 - m)), w6, w7] [] (HH L mu p) = some (some (.inl (nI (visS (nbB n) b m R x).2)), HH L mu' p) ∧ rk mu' 1 = (visS (nbB n) b m R x).1 ∧ ∀ r, ¬r = 12 → ¬r = 13 → mu' r = mu r := by
  intro m
  induction m with
  | zero =>
    intro mu R x w6 w7 hm hR hI hgp hx
    refine ⟨mu, ?_, hR, fun _ _ _ => rfl⟩
    rw [h107_13]
    simp (disch := first | omega | assumption) only [h107_0, h107_1, h107_2, h107_5, h107_6, h107_7, h107_8, h107_10, h107_11, h107_15, h107_16, h107_19, h107_20, h107_21, h107_23, h107_26, h107_28, h107_29, h107_31, h107_34, h107_37, h107_39, h107_41, h107_44, h107_45, h107_48, h107_50, h107_52, h107_53, h107_54, h107_56, h107_58, h107_59, h107_60, h107_61, h107_62, h107_63, h107_66, h107_68, h107_69, h107_72, h107_74, h107_76, h107_78, h107_79, h107_80, h107_81, h107_84, h107_85, h107_88, h107_89, h107_90, h107_93, h107_95, h107_96, h107_97, h107_98, h107_100, h107_103, h107_106, h107_108, Option.bind_some, Option.toList_some, Option.toList_none, List.cons_append, List.nil_append, nI_ltc, nI_lec, nI_eqc, nI_ne5, n5_ne, n5_lt, bI_0, bI_1, nI_add, pk_mul, if_pos, if_neg, ite_not, if_true, if_false, not_true_eq_false, not_false_eq_true, true_and, false_and, and_true, and_false, Nat.reduceAdd, Nat.reduceMul]
    rfl
  | succ m ihm =>
    intro mu R x w6 w7 hm hR hI hgp hx
    have ht : 4 - (m + 1) = 3 - m := by omega
    have ht1 : 4 - m = 3 - m + 1 := by omega
    have m5 : mu 5 (b * 4 + (3 - m)) = R 5 (b * 4 + (3 - m)) := by rw [← hR, rk_5 (by omega)]
    rw [ht]
    have pass : (if x ≤ 15 then nbJ R b (3 - m) else none) = none → (∃ w6', zsem (d + n + 2) 107 13 [.inr (.inl (some 1)), .inl (nI b), .inl a2, .inl (nI (5 - n)), .inl (nI x), .inl (nI (3 - m)), w6, w7] [] (HH L mu p) = zsem (d + n + 2) 107 13 [.inr (.inl (some 1)), .inl (nI b), .inl a2, .inl (nI (5 - n)), .inl (nI x), .inl (nI (3 - m + 1)), w6', w7] [] (HH L mu p)) → ∃ mu', zsem (d + n + 2) 107 13 [.inr (.inl (some 1)), .inl (nI b), .inl a2, .inl (nI (5 - n)), .inl (nI x), .inl (nI (3 - m)), w6, w7] [] (HH L mu p) = some (some (.inl (nI (visS (nbB n) b (m + 1) R x).2)), HH L mu' p) ∧ rk mu' 1 = (visS (nbB n) b (m + 1) R x).1 ∧ ∀ r, ¬r = 12 → ¬r = 13 → mu' r = mu r := by
      rintro h0 ⟨w6', e⟩
      obtain ⟨mu', e1, e2, e3⟩ := ihm mu R x w6' w7 (by omega) hR hI hgp hx
      rw [visS, h0]
      exact ⟨mu', by rw [e, ← ht1]; exact e1, e2, e3⟩
    rcases hI.2.2.1 b (3 - m) hb (by omega) with hv | ⟨j, hj, hv, hkj, -, -⟩
    · rw [hv] at m5
      have c2 := z_isBridge_o (d + n + 1) L mu p (-5) (Or.inl (by decide))
      refine pass (by unfold nbJ; rw [if_pos hv]; split <;> rfl) ⟨.inl (-5), ?_⟩
      rw [h107_13]
      simp (disch := first | omega | assumption) only [h107_0, h107_1, h107_2, h107_5, h107_6, h107_7, h107_8, h107_10, h107_11, h107_15, h107_16, h107_19, h107_20, h107_21, h107_23, h107_26, h107_28, h107_29, h107_31, h107_34, h107_37, h107_39, h107_41, h107_44, h107_45, h107_48, h107_50, h107_52, h107_53, h107_54, h107_56, h107_58, h107_59, h107_60, h107_61, h107_62, h107_63, h107_66, h107_68, h107_69, h107_72, h107_74, h107_76, h107_78, h107_79, h107_80, h107_81, h107_84, h107_85, h107_88, h107_89, h107_90, h107_93, h107_95, h107_96, h107_97, h107_98, h107_100, h107_103, h107_106, h107_108, Option.bind_some, Option.toList_some, Option.toList_none, List.cons_append, List.nil_append, nI_ltc, nI_lec, nI_eqc, nI_ne5, n5_ne, n5_lt, bI_0, bI_1, nI_add, pk_mul, if_pos, if_neg, ite_not, if_true, if_false, not_true_eq_false, not_false_eq_true, true_and, false_and, and_true, and_false, Nat.reduceAdd, Nat.reduceMul, z_deviceAt_n, m5, c2]
    · rw [hv] at m5
      have m2 : mu 2 j = R 2 j := by rw [← hR, rk_2 hj]
      by_cases hk : R 2 j = nI 2
      · rw [hk] at m2
        by_cases hx15 : x ≤ 15
        · have hJ : (if x ≤ 15 then nbJ R b (3 - m) else none) = some j := by
            rw [if_pos hx15]
            unfold nbJ
            rw [hv, vn_n (by omega), if_neg (by rw [nI_ne5 (by omega)]; exact id), if_pos hk]
          have hR1 : rk (u2 mu 12 j (nI x)) 1 = u2 R 12 j (nI x) := by rw [rk_u (by omega) (show j < 12 from hj), hR]
          have hI1 : InvT (u2 R 12 j (nI x)) := InvT_cong (u2_row (by omega)) (u2_row (by omega)) (u2_row (by omega)) (u2_row (by omega)) hI
          obtain ⟨mu1, e1, e2, e3⟩ := ih (u2 mu 12 j (nI x)) (u2 R 12 j (nI x)) j (x + 1) hR1 hI1 (by rw [u2_row (by omega)]; exact hgp) (by omega) (by omega)
          have hbd := nb_bd n (u2 R 12 j (nI x)) j (x + 1) (by omega)
          have hN : SameN R (nbB n (u2 R 12 j (nI x)) j (x + 1)).1 := fun a h1 h2 => by rw [nb_N n _ _ _ a h1 h2, u2_row h1]
          rw [visS, hJ]
          dsimp only
          generalize hr : nbB n (u2 R 12 j (nI x)) j (x + 1) = r at *
          have hgm : mu1 1 12 = nI g := by rw [e3 1 (by omega) (by omega), u2_row (by omega), ← rk_1 (mu := mu) (r := 1), hR]; exact hgp
          have hla : nla R r.2 = min 15 (r.2 - 1 + g) := by unfold nla; rw [hgp, vn_n (by omega)]
          have hlb : nla R r.2 ≤ 15 ∧ x ≤ nla R r.2 := by rw [hla]; omega
          have hs1 : nI r.2 - nI 1 = nI (r.2 - 1) := nI_sub (by omega)
          have hmn := z_min (d + n + 1) L mu1 p (nI 15) (nI (r.2 - 1 + g))
          rw [min_ok 15 (r.2 - 1 + g) (by omega) (by omega), ← hla] at hmn
          have hR2 : rk (u2 mu1 13 j (nI (nla R r.2))) 1 = u2 r.1 13 j (nI (nla R r.2)) := by rw [rk_u (by omega) (show j < 12 from hj), e2]
          have hN2 : SameN R (u2 r.1 13 j (nI (nla R r.2))) := fun a h1 h2 => by rw [u2_row h2]; exact hN a h1 h2
          obtain ⟨mu', f1, f2, f3⟩ := ihm (u2 mu1 13 j (nI (nla R r.2))) (u2 r.1 13 j (nI (nla R r.2))) (nla R r.2 + 1) (.inl (nI j)) (.inl (nI r.2)) (by omega) hR2 (InvT_cong (hN2 2 (by omega) (by omega)) (hN2 3 (by omega) (by omega)) (hN2 4 (by omega) (by omega)) (hN2 5 (by omega) (by omega)) hI) (by rw [hN2 1 (by omega) (by omega)]; exact hgp) (by omega)
          refine ⟨mu', ?_, f2, fun r h1 h2 => by rw [f3 r h1 h2, u2_row h2, e3 r h1 h2, u2_row h1]⟩
          have hd : 5 - n + 1 = 6 - n := by omega
          have hu : u2 mu1 13 j (nI (nla R r.2)) 13 j = nI (nla R r.2) := u2_s _ _ _ _
          rw [← f1, ht1, h107_13]
          simp (disch := first | omega | assumption) only [h107_0, h107_1, h107_2, h107_5, h107_6, h107_7, h107_8, h107_10, h107_11, h107_15, h107_16, h107_19, h107_20, h107_21, h107_23, h107_26, h107_28, h107_29, h107_31, h107_34, h107_37, h107_39, h107_41, h107_44, h107_45, h107_48, h107_50, h107_52, h107_53, h107_54, h107_56, h107_58, h107_59, h107_60, h107_61, h107_62, h107_63, h107_66, h107_68, h107_69, h107_72, h107_74, h107_76, h107_78, h107_79, h107_80, h107_81, h107_84, h107_85, h107_88, h107_89, h107_90, h107_93, h107_95, h107_96, h107_97, h107_98, h107_100, h107_103, h107_106, h107_108, Option.bind_some, Option.toList_some, Option.toList_none, List.cons_append, List.nil_append, nI_ltc, nI_lec, nI_eqc, nI_ne5, n5_ne, n5_lt, bI_0, bI_1, nI_add, pk_mul, if_pos, if_neg, ite_not, if_true, if_false, not_true_eq_false, not_false_eq_true, true_and, false_and, and_true, and_false, Nat.reduceAdd, Nat.reduceMul, z_deviceAt_n, m5, z_isBridge_n, m2, hd, e1, hs1, hgm, hmn, hu]
        · refine pass (by rw [if_neg hx15]) ⟨.inl (nI j), ?_⟩
          rw [h107_13]
          simp (disch := first | omega | assumption) only [h107_0, h107_1, h107_2, h107_5, h107_6, h107_7, h107_8, h107_10, h107_11, h107_15, h107_16, h107_19, h107_20, h107_21, h107_23, h107_26, h107_28, h107_29, h107_31, h107_34, h107_37, h107_39, h107_41, h107_44, h107_45, h107_48, h107_50, h107_52, h107_53, h107_54, h107_56, h107_58, h107_59, h107_60, h107_61, h107_62, h107_63, h107_66, h107_68, h107_69, h107_72, h107_74, h107_76, h107_78, h107_79, h107_80, h107_81, h107_84, h107_85, h107_88, h107_89, h107_90, h107_93, h107_95, h107_96, h107_97, h107_98, h107_100, h107_103, h107_106, h107_108, Option.bind_some, Option.toList_some, Option.toList_none, List.cons_append, List.nil_append, nI_ltc, nI_lec, nI_eqc, nI_ne5, n5_ne, n5_lt, bI_0, bI_1, nI_add, pk_mul, if_pos, if_neg, ite_not, if_true, if_false, not_true_eq_false, not_false_eq_true, true_and, false_and, and_true, and_false, Nat.reduceAdd, Nat.reduceMul, z_deviceAt_n, m5, z_isBridge_n, m2]
      · refine pass (by unfold nbJ; rw [hv, vn_n (by omega), if_neg (show ¬nI j = -5 by rw [nI_ne5 (by omega)]; exact id), if_neg hk]; split <;> rfl) ⟨.inl (nI j), ?_⟩
        rw [← m2] at hk
        rw [h107_13]
        simp (disch := first | omega | assumption) only [h107_0, h107_1, h107_2, h107_5, h107_6, h107_7, h107_8, h107_10, h107_11, h107_15, h107_16, h107_19, h107_20, h107_21, h107_23, h107_26, h107_28, h107_29, h107_31, h107_34, h107_37, h107_39, h107_41, h107_44, h107_45, h107_48, h107_50, h107_52, h107_53, h107_54, h107_56, h107_58, h107_59, h107_60, h107_61, h107_62, h107_63, h107_66, h107_68, h107_69, h107_72, h107_74, h107_76, h107_78, h107_79, h107_80, h107_81, h107_84, h107_85, h107_88, h107_89, h107_90, h107_93, h107_95, h107_96, h107_97, h107_98, h107_100, h107_103, h107_106, h107_108, Option.bind_some, Option.toList_some, Option.toList_none, List.cons_append, List.nil_append, nI_ltc, nI_lec, nI_eqc, nI_ne5, n5_ne, n5_lt, bI_0, bI_1, nI_add, pk_mul, if_pos, if_neg, ite_not, if_true, if_false, not_true_eq_false, not_false_eq_true, true_and, false_and, and_true, and_false, Nat.reduceAdd, Nat.reduceMul, z_deviceAt_n, m5, z_isBridge_n, hk]
theorem z_nbB {g : Nat} (hg : g < 3) : ∀ n, n ≤ 5 → ∀ mu R b x, rk mu 1 = R → InvT R → R 1 12 = nI g → b < 13 → x ≤ 16 → ∃ mu', zsem (d + n + 1) 107 0 [.inr (.inl (some 1)), .inl (nI b), .inl (nI x), .inl (nI (6 - n)), .inr (.inl none), .inr (.inl none), .inr (.inl none), .inr (.inl none)] [] (HH L mu p) = some (some (.inl (nI (nbB n R b x).2)), HH L mu' p) ∧ rk mu' 1 = (nbB n R b x).1 ∧ ∀ r, ¬r = 12 → ¬r = 13 → mu' r = mu r := by
  intro n
  induction n with
  | zero =>
    intro _ mu R b x hR hI hgp hb hx
    refine ⟨mu, ?_, hR, fun _ _ _ => rfl⟩
    simp (disch := first | omega | assumption) only [h107_0, h107_1, h107_2, h107_5, h107_6, h107_7, h107_8, h107_10, h107_11, h107_15, h107_16, h107_19, h107_20, h107_21, h107_23, h107_26, h107_28, h107_29, h107_31, h107_34, h107_37, h107_39, h107_41, h107_44, h107_45, h107_48, h107_50, h107_52, h107_53, h107_54, h107_56, h107_58, h107_59, h107_60, h107_61, h107_62, h107_63, h107_66, h107_68, h107_69, h107_72, h107_74, h107_76, h107_78, h107_79, h107_80, h107_81, h107_84, h107_85, h107_88, h107_89, h107_90, h107_93, h107_95, h107_96, h107_97, h107_98, h107_100, h107_103, h107_106, h107_108, Option.bind_some, Option.toList_some, Option.toList_none, List.cons_append, List.nil_append, nI_ltc, nI_lec, nI_eqc, nI_ne5, n5_ne, n5_lt, bI_0, bI_1, nI_add, pk_mul, if_pos, if_neg, ite_not, if_true, if_false, not_true_eq_false, not_false_eq_true, true_and, false_and, and_true, and_false, Nat.reduceAdd, Nat.reduceMul]
    rfl
  | succ n ih =>
    intro hn mu R b x hR hI hgp hb hx
    obtain ⟨mu', e1, e2, e3⟩ := z_nbL d L p (n := n) (by omega) hb hg (nI x) (fun mu R j x h1 h2 h3 h4 h5 => ih (by omega) mu R j x h1 h2 h3 h4 h5) 4 mu R x (.inr (.inl none)) (.inr (.inl none)) (by omega) hR hI hgp hx
    refine ⟨mu', ?_, e2, e3⟩
    have hd : 6 - (n + 1) = 5 - n := by omega
    have h4 : 4 - 4 = 0 := rfl
    rw [h4] at e1
    show zsem (d + n + 2) _ _ _ _ _ = some (some (.inl (nI (visS (nbB n) b 4 R x).2)), HH L mu' p)
    rw [← e1, hd]
    have l5 : nI (5 - n) ≤ nI 5 := by rw [nI_lec (by omega) (by omega)]; omega
    simp (disch := first | omega | assumption) only [h107_0, h107_1, h107_2, h107_5, h107_6, h107_7, h107_8, h107_10, h107_11, h107_15, h107_16, h107_19, h107_20, h107_21, h107_23, h107_26, h107_28, h107_29, h107_31, h107_34, h107_37, h107_39, h107_41, h107_44, h107_45, h107_48, h107_50, h107_52, h107_53, h107_54, h107_56, h107_58, h107_59, h107_60, h107_61, h107_62, h107_63, h107_66, h107_68, h107_69, h107_72, h107_74, h107_76, h107_78, h107_79, h107_80, h107_81, h107_84, h107_85, h107_88, h107_89, h107_90, h107_93, h107_95, h107_96, h107_97, h107_98, h107_100, h107_103, h107_106, h107_108, Option.bind_some, Option.toList_some, Option.toList_none, List.cons_append, List.nil_append, nI_ltc, nI_lec, nI_eqc, nI_ne5, n5_ne, n5_lt, bI_0, bI_1, nI_add, pk_mul, if_pos, if_neg, ite_not, if_true, if_false, not_true_eq_false, not_false_eq_true, true_and, false_and, and_true, and_false, Nat.reduceAdd, Nat.reduceMul, l5]
end
