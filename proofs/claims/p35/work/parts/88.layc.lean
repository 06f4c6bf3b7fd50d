/-! layout of the class: items and packing -/
section
variable (d L : Nat) (mu : RV) (p : Nat → Nat)
theorem fl_s (mu : RV) (r k : Nat) (x : Int32) : u2 (fl mu r k x) r k x = fl mu r (k + 1) x := by
  funext a i
  by_cases h : a = r ∧ i = k
  · obtain ⟨rfl, rfl⟩ := h
    rw [u2_s]
    unfold fl
    rw [if_pos rfl, if_pos (by omega)]
  · rw [u2_o _ _ h]
    unfold fl
    by_cases h1 : a = r
    · rw [if_pos h1, if_pos h1]
      by_cases h2 : i < k
      · rw [if_pos h2, if_pos (by omega)]
      · rw [if_neg h2, if_neg (by omega)]
    · rw [if_neg h1, if_neg h1]
theorem fl_0 (mu : RV) (r : Nat) (x : Int32) : fl mu r 0 x = mu := by
  funext a i
  unfold fl
  by_cases h : a = r
  · rw [if_pos h, if_neg (by omega)]
  · rw [if_neg h]
theorem fl_o {mu : RV} {r n a : Nat} {x : Int32} (h : ¬a = r) : fl mu r n x a = mu a := by
  funext i
  unfold fl
  rw [if_neg h]
theorem fl_i {mu : RV} {r n i : Nat} {x : Int32} (h : i < n) : fl mu r n x r i = x := by
  unfold fl
  rw [if_pos rfl, if_pos h]
theorem z_fill (r n : Nat) (x : Int32) (h : TT L r = (10, n)) (hn : n < 2147483648) : zsem d 4 0 [.inr (.inl (some r)), .inl x, .inr (.inl none), .inr (.inl none)] [] (HH L mu p) = some (none, HH L (fl mu r n x) p) := by
  have hL : ∀ m k, k + m = n → zsem d 4 5 [.inr (.inl (some r)), .inl x, .inl (nI k), .inl (nI n)] [] (HH L (fl mu r k x) p) = some (none, HH L (fl mu r n x) p) := by
    intro m
    induction m with
    | zero =>
      intro k hk
      have : k = n := by omega
      subst this
      rw [e4_5, e4_6, e4_7, if_pos (by rw [nI_lec (by omega) (by omega)]; exact Nat.le_refl _), e4_20]
    | succ m ih =>
      intro k hk
      have e0 := ixb (j := k) (n := n) (by omega) hn
      rw [e4_5, e4_6, e4_7, if_neg (by rw [nI_lec (by omega) (by omega)]; omega), e4_10, e4_11, e4_12, e4_13 (h := by rw [hh_t, h]) (h0 := by rw [nI_lec (by omega) (by omega)]; omega) (h1 := by rw [hh_t, h, e0.2]; show k < n; omega), hh_sI, e4_14, e4_17, e0.2, fl_s, nI_add]
      exact ih (k + 1) (by omega)
  have e0 := hL n 0 (by omega)
  rw [fl_0] at e0
  rw [e4_0, e4_1, e4_2, e4_3 (h := Or.inl (by rw [hh_t, h])), hh_t, h, e4_4]
  exact e0
end
def vn (x : Int32) : Nat := x.toNatClampNeg
theorem vn_n {n : Nat} (h : n < 2147483648) : vn (nI n) = n := nI_clamp (by omega)
/-- the size of part k of bus b, 0 if it is no item; its alignment -/
def psz (R : RV) (s : Nat) (f : Nat → Nat) (b k : Nat) : Nat :=
  if ¬k < 12 ∨ R 5 (b * 4 + k / 3) = -5 then 0
  else if R 2 (vn (R 5 (b * 4 + k / 3))) = nI 1 then (if R 6 (vn (R 5 (b * 4 + k / 3)) * 3 + k % 3) = nI s then vn (R 7 (vn (R 5 (b * 4 + k / 3)) * 3 + k % 3)) else 0)
  else if ¬R 12 (vn (R 5 (b * 4 + k / 3))) = -5 ∧ k % 3 = 0 then f (vn (R 5 (b * 4 + k / 3))) else 0
def pal (R : RV) (s : Nat) (f a : Nat → Nat) (b k : Nat) : Nat :=
  if psz R s f b k = 0 then 0
  else if R 2 (vn (R 5 (b * 4 + k / 3))) = nI 1 then vn (R 7 (vn (R 5 (b * 4 + k / 3)) * 3 + k % 3)) else a (vn (R 5 (b * 4 + k / 3)))
theorem psz_n {R : RV} {s b k : Nat} {f : Nat → Nat} (h : R 5 (b * 4 + k / 3) = -5) : psz R s f b k = 0 := if_pos (Or.inr h)
theorem psz_c {R : RV} {s b k j : Nat} {f : Nat → Nat} (hk : k < 12) (hj : j < 12) (h : R 5 (b * 4 + k / 3) = nI j) (h2 : R 2 j = nI 1) : psz R s f b k = if R 6 (j * 3 + k % 3) = nI s then vn (R 7 (j * 3 + k % 3)) else 0 := by
  unfold psz
  rw [h, vn_n (by omega), if_neg (fun q => q.elim (fun z => z hk) (fun z => by rw [nI_ne5 (by omega)] at z; exact z)), if_pos h2]
theorem psz_b {R : RV} {s b k j : Nat} {f : Nat → Nat} (hk : k < 12) (hj : j < 12) (h : R 5 (b * 4 + k / 3) = nI j) (h2 : R 2 j = nI 2) : psz R s f b k = if ¬R 12 j = -5 ∧ k % 3 = 0 then f j else 0 := by
  unfold psz
  rw [h, vn_n (by omega), if_neg (fun q => q.elim (fun z => z hk) (fun z => by rw [nI_ne5 (by omega)] at z; exact z)), if_neg (by rw [h2]; decide)]
theorem pal_c {R : RV} {s b k j : Nat} {f a : Nat → Nat} (hj : j < 12) (h : R 5 (b * 4 + k / 3) = nI j) (h2 : R 2 j = nI 1) (hs : psz R s f b k ≠ 0) : pal R s f a b k = vn (R 7 (j * 3 + k % 3)) := by
  unfold pal
  rw [if_neg hs, h, vn_n (by omega), if_pos h2]
theorem pal_b {R : RV} {s b k j : Nat} {f a : Nat → Nat} (hj : j < 12) (h : R 5 (b * 4 + k / 3) = nI j) (h2 : R 2 j = nI 2) (hs : psz R s f b k ≠ 0) : pal R s f a b k = a j := by
  unfold pal
  rw [if_neg hs, h, vn_n (by omega), if_neg (by rw [h2]; decide)]
/-- rows 82, 83 of the class hold f, a for the bridges on bus b -/
def LayF (R : RV) (f a : Nat → Nat) (b : Nat) (mu : RV) : Prop := ∀ j, j < 12 → R 2 j = nI 2 → bn R j = b → mu 82 j = nI (f j) ∧ mu 83 j = nI (a j) ∧ f j < 2147483648
/-- rows 84, 85 hold the items -/
def LayI (sz al : Nat → Nat) (mu : RV) : Prop := ∀ i, i < 12 → mu 84 i = nI (sz i) ∧ (sz i ≠ 0 → mu 85 i = nI (al i))
theorem OK.sz7 {R : RV} (h : OK R) {j q : Nat} (hj : j < 12) (hq : q < 3) : ∃ n, n ≤ 1024 ∧ R 7 (j * 3 + q) = nI n := by
  obtain ⟨sp, s1, s2, s3⟩ := h.2.2.2.1 j q hj hq
  rcases s3 with ⟨s4, -⟩ | ⟨e, he, s4⟩
  · exact ⟨0, by omega, s4⟩
  · exact ⟨_, (sz_lt he).1, s4⟩
/-- racks that differ in bases and windows alone -/
def SameL (R R' : RV) : Prop := ∀ a, ¬a = 8 → ¬a = 10 → ¬a = 11 → R' a = R a
/-- the rows that say what the items are -/
def RowL (R mu : RV) : Prop := (∀ i, i < 52 → mu 5 i = R 5 i) ∧ (∀ i, i < 12 → mu 2 i = R 2 i ∧ mu 12 i = R 12 i) ∧ ∀ i, i < 36 → mu 6 i = R 6 i ∧ mu 7 i = R 7 i
theorem RowL_of {R mu : RV} (h : SameL R (rk mu 1)) : RowL R mu := by
  refine ⟨fun i hi => ?_, fun i hi => ⟨?_, ?_⟩, fun i hi => ⟨?_, ?_⟩⟩
  · rw [← rk_5 (mu := mu) hi, h 5 (by omega) (by omega) (by omega)]
  · rw [← rk_2 (mu := mu) hi, h 2 (by omega) (by omega) (by omega)]
  · rw [← rk_12 (mu := mu) hi, h 12 (by omega) (by omega) (by omega)]
  · rw [← rk_6 (mu := mu) hi, h 6 (by omega) (by omega) (by omega)]
  · rw [← rk_7 (mu := mu) hi, h 7 (by omega) (by omega) (by omega)]
theorem SameL.rfl' (R : RV) : SameL R R := fun _ _ _ _ => rfl
section
variable (d L : Nat) (p : Nat → Nat)
theorem z_itemsL {R : RV} (hO : OK R) {f a : Nat → Nat} {b s : Nat} (hb : b < 13) (hs : s < 2) : ∀ m k mu (w5 w6 : AV), k + m = 12 → RowL R mu → LayF R f a b mu → (∀ i, i < k → mu 84 i = nI (psz R s f b i) ∧ (psz R s f b i ≠ 0 → mu 85 i = nI (pal R s f a b i))) →
    ∃ mu', zsem (d + 1) 73 3 [.inr (.inl (some 81)), .inr (.inl (some 1)), .inl (nI b), .inl (nI s), .inl (nI k), w5, w6] [] (HH L mu p) = some (none, HH L mu' p) ∧ (∀ r, ¬r = 84 → ¬r = 85 → mu' r = mu r) ∧ LayI (psz R s f b) (pal R s f a b) mu' := by
  intro m
  induction m with
  | zero =>
    intro k mu w5 w6 hk hR hF hI
    have : k = 12 := by omega
    subst this
    refine ⟨mu, ?_, fun r _ _ => rfl, hI⟩
    rw [h73_3]
    simp (disch := first | omega | assumption) only [h73_0, h73_1, h73_5, h73_7, h73_10, h73_11, h73_12, h73_14, h73_15, h73_16, h73_19, h73_21, h73_23, h73_24, h73_25, h73_27, h73_28, h73_31, h73_33, h73_34, h73_35, h73_36, h73_38, h73_41, h73_44, h73_45, h73_48, h73_50, h73_52, h73_55, h73_56, h73_57, h73_60, h73_61, h73_64, h73_66, h73_67, h73_70, h73_72, h73_74, h73_77, h73_78, h73_79, h73_80, h73_83, h73_85, h73_86, h73_89, h73_91, h73_92, h73_93, h73_94, h73_96, h73_99, h73_102, h73_104, h73_107, h73_108, h73_111, h73_113, h73_114, h73_117, h73_119, h73_120, h73_121, h73_122, h73_125, h73_127, h73_128, h73_131, h73_133, h73_134, h73_135, h73_138, h73_141, Option.bind_some, Option.toList_some, Option.toList_none, List.cons_append, List.nil_append, nI_ltc, nI_lec, nI_eqc, nI_ne5, n5_ne, n5_lt, bI_0, bI_1, nI_add, pk_mul, if_pos, if_neg, ite_not, if_true, if_false, not_true_eq_false, not_false_eq_true, true_and, false_and, and_true, and_false, Nat.reduceAdd, Nat.reduceMul]
  | succ m ih =>
    intro k mu w5 w6 hk hR hF hI
    have hk12 : k < 12 := by omega
    have step : ∀ mu1 (w5' w6' : AV), zsem (d + 1) 73 3 [.inr (.inl (some 81)), .inr (.inl (some 1)), .inl (nI b), .inl (nI s), .inl (nI k), w5, w6] [] (HH L mu p) = zsem (d + 1) 73 3 [.inr (.inl (some 81)), .inr (.inl (some 1)), .inl (nI b), .inl (nI s), .inl (nI (k + 1)), w5', w6'] [] (HH L mu1 p) → (∀ r, ¬r = 84 → ¬r = 85 → mu1 r = mu r) → (∀ i, ¬i = k → mu1 84 i = mu 84 i ∧ mu1 85 i = mu 85 i) → mu1 84 k = nI (psz R s f b k) → (psz R s f b k ≠ 0 → mu1 85 k = nI (pal R s f a b k)) → ∃ mu', zsem (d + 1) 73 3 [.inr (.inl (some 81)), .inr (.inl (some 1)), .inl (nI b), .inl (nI s), .inl (nI k), w5, w6] [] (HH L mu p) = some (none, HH L mu' p) ∧ (∀ r, ¬r = 84 → ¬r = 85 → mu' r = mu r) ∧ LayI (psz R s f b) (pal R s f a b) mu' := by
      intro mu1 w5' w6' e h1 h2 h3 h4
      obtain ⟨mu', e1, e2, e3⟩ := ih (k + 1) mu1 w5' w6' (by omega) (by obtain ⟨x1, x2, x3⟩ := hR; unfold RowL; rw [h1 5 (by omega) (by omega), h1 2 (by omega) (by omega), h1 12 (by omega) (by omega), h1 6 (by omega) (by omega), h1 7 (by omega) (by omega)]; exact ⟨x1, x2, x3⟩) (fun j g1 g2 g3 => by rw [h1 82 (by omega) (by omega), h1 83 (by omega) (by omega)]; exact hF j g1 g2 g3) (fun i hi => by
        by_cases hik : i = k
        · subst hik; exact ⟨h3, h4⟩
        · rw [(h2 i hik).1, (h2 i hik).2]; exact hI i (by omega))
      exact ⟨mu', e.trans e1, fun r g1 g2 => by rw [e2 r g1 g2, h1 r g1 g2], e3⟩
    have ek : k = k / 3 * 3 + k % 3 := by omega
    have q1 := part_div (t := k / 3) (q := k % 3) (by omega) (by omega)
    have q2 := @part_mod (k / 3) (k % 3)
    rw [← ek] at q1 q2
    have q3 := n3_0
    have m5 : mu 5 (b * 4 + k / 3) = R 5 (b * 4 + k / 3) := hR.1 _ (by omega)
    rcases hO.T.2.2.1 b (k / 3) hb (by omega) with hv | ⟨j, hj, hv, hkj, hb3, -⟩
    · rw [hv] at m5
      have c1 := fun mu => z_isCard_o d L mu p (-5) (Or.inl (by decide))
      have c2 := fun mu => z_isNumbered_o d L mu p (-5) (Or.inl (by decide))
      refine step (u2 mu 84 k (nI 0)) (.inl (-5)) (.inl (nI (k % 3))) ?_ (fun r g1 g2 => u2_row g1) (fun i hi => ⟨u2_o _ _ (by omega), by rw [u2_row (by omega)]⟩) ?_ ?_
      · rw [h73_3]
        simp (disch := first | omega | assumption) only [h73_0, h73_1, h73_5, h73_7, h73_10, h73_11, h73_12, h73_14, h73_15, h73_16, h73_19, h73_21, h73_23, h73_24, h73_25, h73_27, h73_28, h73_31, h73_33, h73_34, h73_35, h73_36, h73_38, h73_41, h73_44, h73_45, h73_48, h73_50, h73_52, h73_55, h73_56, h73_57, h73_60, h73_61, h73_64, h73_66, h73_67, h73_70, h73_72, h73_74, h73_77, h73_78, h73_79, h73_80, h73_83, h73_85, h73_86, h73_89, h73_91, h73_92, h73_93, h73_94, h73_96, h73_99, h73_102, h73_104, h73_107, h73_108, h73_111, h73_113, h73_114, h73_117, h73_119, h73_120, h73_121, h73_122, h73_125, h73_127, h73_128, h73_131, h73_133, h73_134, h73_135, h73_138, h73_141, Option.bind_some, Option.toList_some, Option.toList_none, List.cons_append, List.nil_append, nI_ltc, nI_lec, nI_eqc, nI_ne5, n5_ne, n5_lt, bI_0, bI_1, nI_add, pk_mul, if_pos, if_neg, ite_not, if_true, if_false, not_true_eq_false, not_false_eq_true, true_and, false_and, and_true, and_false, Nat.reduceAdd, Nat.reduceMul, q1, q2, q3, z_deviceAt_n, m5, c1, c2]
      · rw [u2_s, psz_n hv]
      · intro q; exact absurd (psz_n hv) q
    · rw [hv] at m5
      have hbj := bn_of hb3 hb
      have m2 : mu 2 j = R 2 j := (hR.2.1 j hj).1
      have m6 : mu 6 (j * 3 + k % 3) = R 6 (j * 3 + k % 3) := (hR.2.2 _ (by omega)).1
      have m7 : mu 7 (j * 3 + k % 3) = R 7 (j * 3 + k % 3) := (hR.2.2 _ (by omega)).2
      have m12 : mu 12 j = R 12 j := (hR.2.1 j hj).2
      rcases (hO.T.1 j hj).resolve_left hkj with h1 | h1
      · rw [h1] at m2
        have h12 : R 12 j = -5 := (hO.2.1.2 j hj (by rw [h1]; decide)).1
        rw [h12] at m12
        obtain ⟨n, n1, n2⟩ := hO.sz7 hj (show k % 3 < 3 by omega)
        rw [n2] at m7
        have ps := psz_c (s := s) (f := f) hk12 hj hv h1
        rw [n2, vn_n (by omega)] at ps
        by_cases h6 : R 6 (j * 3 + k % 3) = nI s
        · rw [if_pos h6] at ps
          rw [h6] at m6
          refine step (u2 (u2 (u2 mu 84 k (nI 0)) 84 k (nI n)) 85 k (nI n)) (.inl (nI j)) (.inl (nI (k % 3))) ?_ (fun r g1 g2 => by rw [u2_row g2, u2_row g1, u2_row g1]) (fun i hi => ⟨by rw [u2_o _ _ (by omega), u2_o _ _ (by omega), u2_o _ _ (by omega)], by rw [u2_o _ _ (by omega), u2_row (by omega), u2_row (by omega)]⟩) ?_ ?_
          · have hs1 : u2 (u2 mu 84 k (nI 0)) 84 k (nI n) 84 k = nI n := u2_s _ _ _ _
            rw [h73_3]
            simp (disch := first | omega | assumption) only [h73_0, h73_1, h73_5, h73_7, h73_10, h73_11, h73_12, h73_14, h73_15, h73_16, h73_19, h73_21, h73_23, h73_24, h73_25, h73_27, h73_28, h73_31, h73_33, h73_34, h73_35, h73_36, h73_38, h73_41, h73_44, h73_45, h73_48, h73_50, h73_52, h73_55, h73_56, h73_57, h73_60, h73_61, h73_64, h73_66, h73_67, h73_70, h73_72, h73_74, h73_77, h73_78, h73_79, h73_80, h73_83, h73_85, h73_86, h73_89, h73_91, h73_92, h73_93, h73_94, h73_96, h73_99, h73_102, h73_104, h73_107, h73_108, h73_111, h73_113, h73_114, h73_117, h73_119, h73_120, h73_121, h73_122, h73_125, h73_127, h73_128, h73_131, h73_133, h73_134, h73_135, h73_138, h73_141, Option.bind_some, Option.toList_some, Option.toList_none, List.cons_append, List.nil_append, nI_ltc, nI_lec, nI_eqc, nI_ne5, n5_ne, n5_lt, bI_0, bI_1, nI_add, pk_mul, if_pos, if_neg, ite_not, if_true, if_false, not_true_eq_false, not_false_eq_true, true_and, false_and, and_true, and_false, Nat.reduceAdd, Nat.reduceMul, q1, q2, q3, z_deviceAt_n, m5, z_isCard_n, z_isNumbered_n, u2_oa, m2, z_regionIndex, m6, m7, m12, hs1]
          · rw [u2_row (by omega), u2_s, ps]
          · intro q
            rw [u2_s, pal_c hj hv h1 q, n2, vn_n (by omega)]
        · rw [if_neg h6] at ps
          refine step (u2 mu 84 k (nI 0)) (.inl (nI j)) (.inl (nI (k % 3))) ?_ (fun r g1 g2 => u2_row g1) (fun i hi => ⟨u2_o _ _ (by omega), by rw [u2_row (by omega)]⟩) ?_ ?_
          · rw [← m6] at h6
            rw [h73_3]
            simp (disch := first | omega | assumption) only [h73_0, h73_1, h73_5, h73_7, h73_10, h73_11, h73_12, h73_14, h73_15, h73_16, h73_19, h73_21, h73_23, h73_24, h73_25, h73_27, h73_28, h73_31, h73_33, h73_34, h73_35, h73_36, h73_38, h73_41, h73_44, h73_45, h73_48, h73_50, h73_52, h73_55, h73_56, h73_57, h73_60, h73_61, h73_64, h73_66, h73_67, h73_70, h73_72, h73_74, h73_77, h73_78, h73_79, h73_80, h73_83, h73_85, h73_86, h73_89, h73_91, h73_92, h73_93, h73_94, h73_96, h73_99, h73_102, h73_104, h73_107, h73_108, h73_111, h73_113, h73_114, h73_117, h73_119, h73_120, h73_121, h73_122, h73_125, h73_127, h73_128, h73_131, h73_133, h73_134, h73_135, h73_138, h73_141, Option.bind_some, Option.toList_some, Option.toList_none, List.cons_append, List.nil_append, nI_ltc, nI_lec, nI_eqc, nI_ne5, n5_ne, n5_lt, bI_0, bI_1, nI_add, pk_mul, if_pos, if_neg, ite_not, if_true, if_false, not_true_eq_false, not_false_eq_true, true_and, false_and, and_true, and_false, Nat.reduceAdd, Nat.reduceMul, q1, q2, q3, z_deviceAt_n, m5, z_isCard_n, z_isNumbered_n, u2_oa, m2, z_regionIndex, h6, m12]
          · rw [u2_s, ps]
          · intro q; exact absurd ps q
      · rw [h1] at m2
        obtain ⟨f1, f2, f3⟩ := hF j hj h1 hbj
        have ps := psz_b (s := s) (f := f) hk12 hj hv h1
        by_cases hz : ¬R 12 j = -5 ∧ k % 3 = 0
        · rw [if_pos hz] at ps
          obtain ⟨z1, z2⟩ := hz
          rw [← m12] at z1
          refine step (u2 (u2 (u2 mu 84 k (nI 0)) 84 k (nI (f j))) 85 k (nI (a j))) (.inl (nI j)) (.inl (nI (k % 3))) ?_ (fun r g1 g2 => by rw [u2_row g2, u2_row g1, u2_row g1]) (fun i hi => ⟨by rw [u2_o _ _ (by omega), u2_o _ _ (by omega), u2_o _ _ (by omega)], by rw [u2_o _ _ (by omega), u2_row (by omega), u2_row (by omega)]⟩) ?_ ?_
          · rw [h73_3]
            simp (disch := first | omega | assumption) only [h73_0, h73_1, h73_5, h73_7, h73_10, h73_11, h73_12, h73_14, h73_15, h73_16, h73_19, h73_21, h73_23, h73_24, h73_25, h73_27, h73_28, h73_31, h73_33, h73_34, h73_35, h73_36, h73_38, h73_41, h73_44, h73_45, h73_48, h73_50, h73_52, h73_55, h73_56, h73_57, h73_60, h73_61, h73_64, h73_66, h73_67, h73_70, h73_72, h73_74, h73_77, h73_78, h73_79, h73_80, h73_83, h73_85, h73_86, h73_89, h73_91, h73_92, h73_93, h73_94, h73_96, h73_99, h73_102, h73_104, h73_107, h73_108, h73_111, h73_113, h73_114, h73_117, h73_119, h73_120, h73_121, h73_122, h73_125, h73_127, h73_128, h73_131, h73_133, h73_134, h73_135, h73_138, h73_141, Option.bind_some, Option.toList_some, Option.toList_none, List.cons_append, List.nil_append, nI_ltc, nI_lec, nI_eqc, nI_ne5, n5_ne, n5_lt, bI_0, bI_1, nI_add, pk_mul, if_pos, if_neg, ite_not, if_true, if_false, not_true_eq_false, not_false_eq_true, true_and, false_and, and_true, and_false, Nat.reduceAdd, Nat.reduceMul, q1, q2, q3, z_deviceAt_n, m5, z_isCard_n, z_isNumbered_n, u2_oa, m2, z1, f1, f2]
          · rw [u2_row (by omega), u2_s, ps]
          · intro q
            rw [u2_s, pal_b hj hv h1 q]
        · rw [if_neg hz] at ps
          refine step (u2 mu 84 k (nI 0)) (.inl (nI j)) (.inl (nI (k % 3))) ?_ (fun r g1 g2 => u2_row g1) (fun i hi => ⟨u2_o _ _ (by omega), by rw [u2_row (by omega)]⟩) ?_ ?_
          · by_cases z1 : mu 12 j = -5
            · rw [h73_3]
              simp (disch := first | omega | assumption) only [h73_0, h73_1, h73_5, h73_7, h73_10, h73_11, h73_12, h73_14, h73_15, h73_16, h73_19, h73_21, h73_23, h73_24, h73_25, h73_27, h73_28, h73_31, h73_33, h73_34, h73_35, h73_36, h73_38, h73_41, h73_44, h73_45, h73_48, h73_50, h73_52, h73_55, h73_56, h73_57, h73_60, h73_61, h73_64, h73_66, h73_67, h73_70, h73_72, h73_74, h73_77, h73_78, h73_79, h73_80, h73_83, h73_85, h73_86, h73_89, h73_91, h73_92, h73_93, h73_94, h73_96, h73_99, h73_102, h73_104, h73_107, h73_108, h73_111, h73_113, h73_114, h73_117, h73_119, h73_120, h73_121, h73_122, h73_125, h73_127, h73_128, h73_131, h73_133, h73_134, h73_135, h73_138, h73_141, Option.bind_some, Option.toList_some, Option.toList_none, List.cons_append, List.nil_append, nI_ltc, nI_lec, nI_eqc, nI_ne5, n5_ne, n5_lt, bI_0, bI_1, nI_add, pk_mul, if_pos, if_neg, ite_not, if_true, if_false, not_true_eq_false, not_false_eq_true, true_and, false_and, and_true, and_false, Nat.reduceAdd, Nat.reduceMul, q1, q2, q3, z_deviceAt_n, m5, z_isCard_n, z_isNumbered_n, u2_oa, m2, z1]
            · have z2 : ¬k % 3 = 0 := fun q => hz ⟨by rw [← m12]; exact z1, q⟩
              rw [h73_3]
              simp (disch := first | omega | assumption) only [h73_0, h73_1, h73_5, h73_7, h73_10, h73_11, h73_12, h73_14, h73_15, h73_16, h73_19, h73_21, h73_23, h73_24, h73_25, h73_27, h73_28, h73_31, h73_33, h73_34, h73_35, h73_36, h73_38, h73_41, h73_44, h73_45, h73_48, h73_50, h73_52, h73_55, h73_56, h73_57, h73_60, h73_61, h73_64, h73_66, h73_67, h73_70, h73_72, h73_74, h73_77, h73_78, h73_79, h73_80, h73_83, h73_85, h73_86, h73_89, h73_91, h73_92, h73_93, h73_94, h73_96, h73_99, h73_102, h73_104, h73_107, h73_108, h73_111, h73_113, h73_114, h73_117, h73_119, h73_120, h73_121, h73_122, h73_125, h73_127, h73_128, h73_131, h73_133, h73_134, h73_135, h73_138, h73_141, Option.bind_some, Option.toList_some, Option.toList_none, List.cons_append, List.nil_append, nI_ltc, nI_lec, nI_eqc, nI_ne5, n5_ne, n5_lt, bI_0, bI_1, nI_add, pk_mul, if_pos, if_neg, ite_not, if_true, if_false, not_true_eq_false, not_false_eq_true, true_and, false_and, and_true, and_false, Nat.reduceAdd, Nat.reduceMul, q1, q2, q3, z_deviceAt_n, m5, z_isCard_n, z_isNumbered_n, u2_oa, m2, z1, z2]
          · rw [u2_s, ps]
          · intro q; exact absurd ps q
theorem z_listItems {R : RV} (hO : OK R) {f a : Nat → Nat} {b s : Nat} (hb : b < 13) (hs : s < 2) (mu : RV) (hR : RowL R mu) (hF : LayF R f a b mu) : ∃ mu', zsem (d + 1) 73 0 [.inr (.inl (some 81)), .inr (.inl (some 1)), .inl (nI b), .inl (nI s), .inr (.inl none), .inr (.inl none), .inr (.inl none)] [] (HH L mu p) = some (none, HH L mu' p) ∧ (∀ r, ¬r = 84 → ¬r = 85 → mu' r = mu r) ∧ LayI (psz R s f b) (pal R s f a b) mu' := by
  obtain ⟨mu', e1, e2, e3⟩ := z_itemsL d L p hO hb hs 12 0 mu (.inr (.inl none)) (.inr (.inl none)) rfl hR hF (fun i hi => by omega)
  refine ⟨mu', ?_, e2, e3⟩
  rw [← e1]
  simp (disch := first | omega | assumption) only [h73_0, h73_1, h73_5, h73_7, h73_10, h73_11, h73_12, h73_14, h73_15, h73_16, h73_19, h73_21, h73_23, h73_24, h73_25, h73_27, h73_28, h73_31, h73_33, h73_34, h73_35, h73_36, h73_38, h73_41, h73_44, h73_45, h73_48, h73_50, h73_52, h73_55, h73_56, h73_57, h73_60, h73_61, h73_64, h73_66, h73_67, h73_70, h73_72, h73_74, h73_77, h73_78, h73_79, h73_80, h73_83, h73_85, h73_86, h73_89, h73_91, h73_92, h73_93, h73_94, h73_96, h73_99, h73_102, h73_104, h73_107, h73_108, h73_111, h73_113, h73_114, h73_117, h73_119, h73_120, h73_121, h73_122, h73_125, h73_127, h73_128, h73_131, h73_133, h73_134, h73_135, h73_138, h73_141, Option.bind_some, Option.toList_some, Option.toList_none, List.cons_append, List.nil_append, nI_ltc, nI_lec, nI_eqc, nI_ne5, n5_ne, n5_lt, bI_0, bI_1, nI_add, pk_mul, if_pos, if_neg, ite_not, if_true, if_false, not_true_eq_false, not_false_eq_true, true_and, false_and, and_true, and_false, Nat.reduceAdd, Nat.reduceMul]
def ovr (o : Option Nat) (x : Int32) : Int32 := match o with
  | none => x
  | some z => nI z
/-- what packing of a list does -/
def PkR (sz al : Nat → Nat) (lim pos : Nat) (l : List Nat) (mu : RV) (r : Option (Option AV × AH)) : Prop := ∃ mu', r = some (some (.inl (nI (pen sz al lim pos l))), HH L mu' p) ∧ (∀ r, ¬r = 86 → mu' r = mu r) ∧ ∀ j, j < 12 → mu' 86 j = ovr (pst sz al lim pos l j) (mu 86 j)
theorem PkR_y {sz al : Nat → Nat} {lim pos k : Nat} {l : List Nat} {mu : RV} {r : Option (Option AV × AH)} (hfit : up pos (al k) + sz k ≤ lim) (h : PkR L p sz al lim (up pos (al k) + sz k) l (u2 mu 86 k (nI (up pos (al k)))) r) : PkR L p sz al lim pos (k :: l) mu r := by
  obtain ⟨mu', e1, e2, e3⟩ := h
  refine ⟨mu', ?_, fun r hr => by rw [e2 r hr, u2_row hr], fun j hj => ?_⟩
  · rw [pen, if_pos hfit]; exact e1
  · rw [e3 j hj, pst, if_pos hfit]
    cases pst sz al lim (up pos (al k) + sz k) l j with
    | some z => rfl
    | none =>
      show u2 mu 86 k _ 86 j = ovr (if j = k then some (up pos (al k)) else none) (mu 86 j)
      by_cases hjk : j = k
      · subst hjk
        rw [u2_s, if_pos rfl]
        rfl
      · rw [u2_o _ _ (by omega), if_neg hjk]
        rfl
theorem PkR_n {sz al : Nat → Nat} {lim pos k : Nat} {l : List Nat} {mu : RV} {r : Option (Option AV × AH)} (hfit : ¬up pos (al k) + sz k ≤ lim) (h : PkR L p sz al lim pos l mu r) : PkR L p sz al lim pos (k :: l) mu r := by
  obtain ⟨mu', e1, e2, e3⟩ := h
  refine ⟨mu', ?_, e2, fun j hj => ?_⟩
  · rw [pen, if_neg hfit]; exact e1
  · rw [e3 j hj, pst, if_neg hfit]
theorem z_packL (sz al : Nat → Nat) (s lim : Nat) (hs : s < 2) (hlim : lim ≤ 1000000) (from' : Int32) (hsz : ∀ i, i < 12 → sz i ≤ 1000000) (hal : ∀ i, i < 12 → sz i ≠ 0 → al i ≤ 4096) : ∀ E, E ≤ 6 → ∀ m k pos mu (w8 w9 : AV), k + m = 12 → pos ≤ lim → LayI sz al mu →
    (∀ pos mu (w6 w7 w8 w9 : AV), pos ≤ lim → LayI sz al mu → PkR L p sz al lim pos (tl sz al (grn s) 12 E) mu (zsem (d + 1) 75 18 [.inr (.inl (some 81)), .inl (nI s), .inl from', .inl (nI lim), .inl (nI pos), .inl (nI E + (-1)), w6, w7, w8, w9] [] (HH L mu p))) →
    PkR L p sz al lim pos ((List.range' k m).filter (fun k => decide (sz k ≠ 0 ∧ al k = grn s * 2 ^ E)) ++ tl sz al (grn s) 12 E) mu (zsem (d + 1) 75 35 [.inr (.inl (some 81)), .inl (nI s), .inl from', .inl (nI lim), .inl (nI pos), .inl (nI E), .inl (nI (grn s * 2 ^ E)), .inl (nI k), w8, w9] [] (HH L mu p)) := by
  intro E hE m
  have hg := @grn_le s
  have h2E : 2 ^ E ≤ 2 ^ 6 := Nat.pow_le_pow_right (by omega) hE
  have hA : grn s * 2 ^ E ≤ 16 * 64 := Nat.mul_le_mul hg.2 h2E
  have hA0 : 0 < grn s * 2 ^ E := Nat.mul_pos (by omega) (Nat.pow_pos (by omega))
  obtain ⟨k0, k1, k2⟩ := grn_pow s
  have hup : ∀ pos, pos ≤ 1000000 → (nI (pos + grn s * 2 ^ E) - nI 1) &&& -nI (grn s * 2 ^ E) = nI (up pos (grn s * 2 ^ E)) := fun pos hp => up_ok (k0 + E) (by rw [k2, Nat.pow_add]) (by omega) (by omega)
  induction m with
  | zero =>
    intro k pos mu w8 w9 hk hpos hI hnext
    have : k = 12 := by omega
    subst this
    have := hnext pos mu (.inl (nI (grn s * 2 ^ E))) (.inl (nI 12)) w8 w9 hpos hI
    have e : zsem (d + 1) 75 35 [.inr (.inl (some 81)), .inl (nI s), .inl from', .inl (nI lim), .inl (nI pos), .inl (nI E), .inl (nI (grn s * 2 ^ E)), .inl (nI 12), w8, w9] [] (HH L mu p) = zsem (d + 1) 75 18 [.inr (.inl (some 81)), .inl (nI s), .inl from', .inl (nI lim), .inl (nI pos), .inl (nI E + (-1)), .inl (nI (grn s * 2 ^ E)), .inl (nI 12), w8, w9] [] (HH L mu p) := by
      rw [h75_35]
      simp (disch := first | omega | assumption) only [h75_0, h75_1, h75_4, h75_6, h75_9, h75_10, h75_12, h75_13, h75_16, h75_20, h75_23, h75_24, h75_27, h75_29, h75_30, h75_32, h75_33, h75_37, h75_39, h75_42, h75_44, h75_46, h75_49, h75_51, h75_52, h75_55, h75_57, h75_58, h75_61, h75_62, h75_65, h75_67, h75_68, h75_70, h75_73, h75_74, h75_77, h75_78, h75_80, h75_82, h75_85, h75_87, h75_88, h75_91, h75_93, h75_94, h75_95, h75_96, h75_99, h75_100, h75_103, h75_105, h75_107, h75_108, h75_110, h75_111, h75_114, h75_116, h75_117, h75_118, h75_120, h75_123, h75_126, h75_129, h75_132, h75_134, Option.bind_some, Option.toList_some, Option.toList_none, List.cons_append, List.nil_append, nI_ltc, nI_lec, nI_eqc, nI_ne5, n5_ne, n5_lt, bI_0, bI_1, nI_add, pk_mul, if_pos, if_neg, ite_not, if_true, if_false, not_true_eq_false, not_false_eq_true, true_and, false_and, and_true, and_false, Nat.reduceAdd, Nat.reduceMul]
    rw [e]
    exact this
  | succ m ih =>
    intro k pos mu w8 w9 hk hpos hI hnext
    have hk12 : k < 12 := by omega
    obtain ⟨i1, i2⟩ := hI k hk12
    have hup := hup pos (by omega)
    have hul := @up_lt pos _ hA0
    have hszk := hsz k hk12
    rw [List.range'_succ]
    by_cases hz : sz k ≠ 0 ∧ al k = grn s * 2 ^ E
    · rw [List.filter_cons, if_pos (decide_eq_true hz), List.cons_append]
      obtain ⟨z1, z2⟩ := hz
      have i2 := i2 z1
      rw [z2] at i2
      by_cases hfit : up pos (grn s * 2 ^ E) + sz k ≤ lim
      · have hI' : LayI sz al (u2 mu 86 k (nI (up pos (al k)))) := fun i hi => by
          rw [u2_row (by omega), u2_row (by omega)]; exact hI i hi
        refine PkR_y L p (by rw [z2]; exact hfit) ?_
        have := ih (k + 1) (up pos (al k) + sz k) (u2 mu 86 k (nI (up pos (al k)))) (.inl (nI (up pos (al k)))) (.inl (nI 1)) (by omega) (by rw [z2]; exact hfit) hI' hnext
        rw [z2] at this ⊢
        have e : zsem (d + 1) 75 35 [.inr (.inl (some 81)), .inl (nI s), .inl from', .inl (nI lim), .inl (nI pos), .inl (nI E), .inl (nI (grn s * 2 ^ E)), .inl (nI k), w8, w9] [] (HH L mu p) = zsem (d + 1) 75 35 [.inr (.inl (some 81)), .inl (nI s), .inl from', .inl (nI lim), .inl (nI (up pos (grn s * 2 ^ E) + sz k)), .inl (nI E), .inl (nI (grn s * 2 ^ E)), .inl (nI (k + 1)), .inl (nI (up pos (grn s * 2 ^ E))), .inl (nI 1)] [] (HH L (u2 mu 86 k (nI (up pos (grn s * 2 ^ E)))) p) := by
          rw [h75_35]
          simp (disch := first | omega | assumption) only [h75_0, h75_1, h75_4, h75_6, h75_9, h75_10, h75_12, h75_13, h75_16, h75_20, h75_23, h75_24, h75_27, h75_29, h75_30, h75_32, h75_33, h75_37, h75_39, h75_42, h75_44, h75_46, h75_49, h75_51, h75_52, h75_55, h75_57, h75_58, h75_61, h75_62, h75_65, h75_67, h75_68, h75_70, h75_73, h75_74, h75_77, h75_78, h75_80, h75_82, h75_85, h75_87, h75_88, h75_91, h75_93, h75_94, h75_95, h75_96, h75_99, h75_100, h75_103, h75_105, h75_107, h75_108, h75_110, h75_111, h75_114, h75_116, h75_117, h75_118, h75_120, h75_123, h75_126, h75_129, h75_132, h75_134, Option.bind_some, Option.toList_some, Option.toList_none, List.cons_append, List.nil_append, nI_ltc, nI_lec, nI_eqc, nI_ne5, n5_ne, n5_lt, bI_0, bI_1, nI_add, pk_mul, if_pos, if_neg, ite_not, if_true, if_false, not_true_eq_false, not_false_eq_true, true_and, false_and, and_true, and_false, Nat.reduceAdd, Nat.reduceMul, z_roundUp, hup, i1, i2, u2_oa]
        rw [e]
        exact this
      · refine PkR_n L p (by rw [z2]; exact hfit) ?_
        have := ih (k + 1) pos mu (.inl (nI (up pos (grn s * 2 ^ E)))) (.inl (nI 1)) (by omega) hpos hI hnext
        have e : zsem (d + 1) 75 35 [.inr (.inl (some 81)), .inl (nI s), .inl from', .inl (nI lim), .inl (nI pos), .inl (nI E), .inl (nI (grn s * 2 ^ E)), .inl (nI k), w8, w9] [] (HH L mu p) = zsem (d + 1) 75 35 [.inr (.inl (some 81)), .inl (nI s), .inl from', .inl (nI lim), .inl (nI pos), .inl (nI E), .inl (nI (grn s * 2 ^ E)), .inl (nI (k + 1)), .inl (nI (up pos (grn s * 2 ^ E))), .inl (nI 1)] [] (HH L mu p) := by
          rw [h75_35]
          simp (disch := first | omega | assumption) only [h75_0, h75_1, h75_4, h75_6, h75_9, h75_10, h75_12, h75_13, h75_16, h75_20, h75_23, h75_24, h75_27, h75_29, h75_30, h75_32, h75_33, h75_37, h75_39, h75_42, h75_44, h75_46, h75_49, h75_51, h75_52, h75_55, h75_57, h75_58, h75_61, h75_62, h75_65, h75_67, h75_68, h75_70, h75_73, h75_74, h75_77, h75_78, h75_80, h75_82, h75_85, h75_87, h75_88, h75_91, h75_93, h75_94, h75_95, h75_96, h75_99, h75_100, h75_103, h75_105, h75_107, h75_108, h75_110, h75_111, h75_114, h75_116, h75_117, h75_118, h75_120, h75_123, h75_126, h75_129, h75_132, h75_134, Option.bind_some, Option.toList_some, Option.toList_none, List.cons_append, List.nil_append, nI_ltc, nI_lec, nI_eqc, nI_ne5, n5_ne, n5_lt, bI_0, bI_1, nI_add, pk_mul, if_pos, if_neg, ite_not, if_true, if_false, not_true_eq_false, not_false_eq_true, true_and, false_and, and_true, and_false, Nat.reduceAdd, Nat.reduceMul, z_roundUp, hup, i1, i2]
        rw [e]
        exact this
    · rw [List.filter_cons, if_neg (fun q => hz (of_decide_eq_true q))]
      have := ih (k + 1) pos mu (.inl (nI (up pos (grn s * 2 ^ E)))) (.inl (nI 0)) (by omega) hpos hI hnext
      have e : zsem (d + 1) 75 35 [.inr (.inl (some 81)), .inl (nI s), .inl from', .inl (nI lim), .inl (nI pos), .inl (nI E), .inl (nI (grn s * 2 ^ E)), .inl (nI k), w8, w9] [] (HH L mu p) = zsem (d + 1) 75 35 [.inr (.inl (some 81)), .inl (nI s), .inl from', .inl (nI lim), .inl (nI pos), .inl (nI E), .inl (nI (grn s * 2 ^ E)), .inl (nI (k + 1)), .inl (nI (up pos (grn s * 2 ^ E))), .inl (nI 0)] [] (HH L mu p) := by
        rw [h75_35]
        by_cases hs0 : sz k = 0
        · rw [hs0] at i1
          simp (disch := first | omega | assumption) only [h75_0, h75_1, h75_4, h75_6, h75_9, h75_10, h75_12, h75_13, h75_16, h75_20, h75_23, h75_24, h75_27, h75_29, h75_30, h75_32, h75_33, h75_37, h75_39, h75_42, h75_44, h75_46, h75_49, h75_51, h75_52, h75_55, h75_57, h75_58, h75_61, h75_62, h75_65, h75_67, h75_68, h75_70, h75_73, h75_74, h75_77, h75_78, h75_80, h75_82, h75_85, h75_87, h75_88, h75_91, h75_93, h75_94, h75_95, h75_96, h75_99, h75_100, h75_103, h75_105, h75_107, h75_108, h75_110, h75_111, h75_114, h75_116, h75_117, h75_118, h75_120, h75_123, h75_126, h75_129, h75_132, h75_134, Option.bind_some, Option.toList_some, Option.toList_none, List.cons_append, List.nil_append, nI_ltc, nI_lec, nI_eqc, nI_ne5, n5_ne, n5_lt, bI_0, bI_1, nI_add, pk_mul, if_pos, if_neg, ite_not, if_true, if_false, not_true_eq_false, not_false_eq_true, true_and, false_and, and_true, and_false, Nat.reduceAdd, Nat.reduceMul, z_roundUp, hup, i1]
        · have ha : ¬mu 85 k = nI (grn s * 2 ^ E) := by
            rw [i2 hs0]
            intro q
            have := hal k hk12 hs0
            rw [nI_eqc (by omega) (by omega)] at q
            exact hz ⟨hs0, q⟩
          simp (disch := first | omega | assumption) only [h75_0, h75_1, h75_4, h75_6, h75_9, h75_10, h75_12, h75_13, h75_16, h75_20, h75_23, h75_24, h75_27, h75_29, h75_30, h75_32, h75_33, h75_37, h75_39, h75_42, h75_44, h75_46, h75_49, h75_51, h75_52, h75_55, h75_57, h75_58, h75_61, h75_62, h75_65, h75_67, h75_68, h75_70, h75_73, h75_74, h75_77, h75_78, h75_80, h75_82, h75_85, h75_87, h75_88, h75_91, h75_93, h75_94, h75_95, h75_96, h75_99, h75_100, h75_103, h75_105, h75_107, h75_108, h75_110, h75_111, h75_114, h75_116, h75_117, h75_118, h75_120, h75_123, h75_126, h75_129, h75_132, h75_134, Option.bind_some, Option.toList_some, Option.toList_none, List.cons_append, List.nil_append, nI_ltc, nI_lec, nI_eqc, nI_ne5, n5_ne, n5_lt, bI_0, bI_1, nI_add, pk_mul, if_pos, if_neg, ite_not, if_true, if_false, not_true_eq_false, not_false_eq_true, true_and, false_and, and_true, and_false, Nat.reduceAdd, Nat.reduceMul, z_roundUp, hup, i1, ha]
      rw [e]
      exact this
end
