/-! measuring: class -/
section
variable (d L : Nat) (p : Nat → Nat)
/-- the rows of needs hold what is measured from depth D on -/
def MSt (R : RV) (s D k : Nat) (mu : RV) : Prop := ∀ j, j < 12 → R 2 j = nI 2 → (D < dq R j + 1 ∨ (dq R j + 1 = D ∧ j < k)) → mu 82 j = nI (fN R s j) ∧ mu 83 j = nI (aN R s j)
theorem z_measureBridge {R : RV} (hO : OK R) {b s : Nat} (hb : b < 12) (hk : R 2 b = nI 2) (hs : s < 2) (mu : RV) (hR : rk mu 1 = R) (hF : LayF R (fN R s) (aN R s) b mu) :
    ∃ mu', zsem (d + 2) 72 0 [.inr (.inl (some 81)), .inr (.inl (some 1)), .inl (nI b), .inl (nI s)] [] (HH L mu p) = some (none, HH L mu' p) ∧ (∀ r, (r < 82 ∨ 86 < r) → mu' r = mu r) ∧ (∀ j, ¬j = b → mu' 82 j = mu 82 j ∧ mu' 83 j = mu 83 j) ∧ mu' 82 b = nI (fN R s b) ∧ mu' 83 b = nI (aN R s b) := by
  obtain ⟨mu1, e1, e2, e3⟩ := z_listItems d L p hO (f := fN R s) (a := aN R s) (b := b) (by omega) hs mu (RowL_of (by rw [hR]; exact SameL.rfl' R)) hF
  obtain ⟨q1, q2, q3⟩ := part_ok hO (b := b) hs (by omega)
  obtain ⟨n1, n2, n3, n4⟩ := need_ok hO hs hb hk
  obtain ⟨f1, f2⟩ := fN_eq hO.T (s := s) hb hk
  obtain ⟨mu2, e4, e5, -⟩ := z_pack d L p (SZ R s b) (AL R s b) s 1000000 0 hs (by omega) (by omega) (fun i _ => by have := q3 i; omega) q1 mu1 e3
  have hpos : ∀ x, x ∈ IT R s b → 0 < AL R s b x := fun x hx => by
    obtain ⟨x1, x2⟩ := (itl_mem 12).mp hx
    obtain ⟨e, -, h⟩ := q1 x x1 x2
    rw [h]
    exact Nat.mul_pos (by have := @grn_le s; omega) (Nat.pow_pos (by omega))
  have hpn : pen (SZ R s b) (AL R s b) 1000000 0 (itl (SZ R s b) (AL R s b) 12) = pnl (SZ R s b) (AL R s b) 0 (IT R s b) := pen_pnl (IT R s b) 0 hpos (by omega)
  rw [hpn] at e4
  obtain ⟨m, m1, m2⟩ := hO.2.2.2.2.1 b s hb hs
  have hm : m * grn s ≤ 16 * 16 := Nat.mul_le_mul m1 (@grn_le s).2
  have hr9 : mu2 9 (b * 2 + s) = nI (m * grn s) := by
    rw [e5 9 (by omega), e2 9 (by omega) (by omega), ← m2, ← hR, rk_9 (by omega)]
  rw [m2, vn_n (by omega)] at f1
  have hI : LayI (SZ R s b) (AL R s b) (u2 mu2 82 b (nI (fN R s b))) := fun i hi => by
    rw [u2_row (by omega), u2_row (by omega), e5 84 (by omega), e5 85 (by omega)]
    exact e3 i hi
  have e6 := z_greatest d L p (SZ R s b) (AL R s b) s hs (fun i _ => by have := q3 i; omega) (fun i hi hz => by
    obtain ⟨e, h1, h2⟩ := q1 i hi hz
    have := sz_lt h1
    omega) _ hI
  rw [← f2, f1] at e6
  rw [f1]
  refine ⟨u2 (u2 mu2 82 b (nI (pnl (SZ R s b) (AL R s b) 0 (IT R s b) + m * grn s))) 83 b (nI (aN R s b)), ?_, fun r hr => ?_, fun j hj => ⟨?_, ?_⟩, ?_, u2_s _ _ _ _⟩
  · simp (disch := first | omega | assumption) only [h72_0, h72_1, h72_2, h72_3, h72_4, h72_7, h72_8, h72_11, h72_12, h72_13, h72_14, h72_15, h72_17, h72_20, h72_21, h72_24, h72_25, h72_26, h72_29, h72_30, h72_31, h72_32, h72_33, h72_36, h72_37, h72_38, h72_39, h72_42, h72_43, Option.bind_some, Option.toList_some, Option.toList_none, List.cons_append, List.nil_append, nI_ltc, nI_lec, nI_eqc, nI_ne5, n5_ne, n5_lt, bI_0, bI_1, nI_add, pk_mul, if_pos, if_neg, ite_not, if_true, if_false, not_true_eq_false, not_false_eq_true, true_and, false_and, and_true, and_false, Nat.reduceAdd, Nat.reduceMul, e1, e4, z_windowIndex, hr9, e6]
  · rw [u2_row (by omega), u2_row (by omega), e5 r (by omega), e2 r (by omega) (by omega)]
  · rw [u2_row (by omega), u2_o _ _ (by omega), e5 82 (by omega), e2 82 (by omega) (by omega)]
  · rw [u2_o _ _ (by omega), u2_row (by omega), e5 83 (by omega), e2 83 (by omega) (by omega)]
  · rw [u2_row (by omega), u2_s]
theorem z_measI {R : RV} (hO : OK R) {s D : Nat} (hs : s < 2) (hDb : D ≤ 5) : ∀ m k mu, k + m = 12 → rk mu 1 = R → MSt R s D k mu → ∃ mu', zsem (d + 3) 71 9 [.inr (.inl (some 81)), .inr (.inl (some 1)), .inl (nI s), .inl (nI D), .inl (nI k)] [] (HH L mu p) = zsem (d + 3) 71 9 [.inr (.inl (some 81)), .inr (.inl (some 1)), .inl (nI s), .inl (nI D), .inl (nI 12)] [] (HH L mu' p) ∧ (∀ r, (r < 82 ∨ 86 < r) → mu' r = mu r) ∧ MSt R s D 12 mu' := by
  intro m
  induction m with
  | zero =>
    intro k mu hk hR hM
    have : k = 12 := by omega
    subst this
    exact ⟨mu, rfl, fun r _ => rfl, hM⟩
  | succ m ih =>
    intro k mu hk hR hM
    have hk12 : k < 12 := by omega
    have m2 : mu 2 k = R 2 k := by rw [← hR, rk_2 hk12]
    have pass : ∀ mu1, zsem (d + 3) 71 9 [.inr (.inl (some 81)), .inr (.inl (some 1)), .inl (nI s), .inl (nI D), .inl (nI k)] [] (HH L mu p) = zsem (d + 3) 71 9 [.inr (.inl (some 81)), .inr (.inl (some 1)), .inl (nI s), .inl (nI D), .inl (nI (k + 1))] [] (HH L mu1 p) → (∀ r, (r < 82 ∨ 86 < r) → mu1 r = mu r) → MSt R s D (k + 1) mu1 → ∃ mu', zsem (d + 3) 71 9 [.inr (.inl (some 81)), .inr (.inl (some 1)), .inl (nI s), .inl (nI D), .inl (nI k)] [] (HH L mu p) = zsem (d + 3) 71 9 [.inr (.inl (some 81)), .inr (.inl (some 1)), .inl (nI s), .inl (nI D), .inl (nI 12)] [] (HH L mu' p) ∧ (∀ r, (r < 82 ∨ 86 < r) → mu' r = mu r) ∧ MSt R s D 12 mu' := by
      intro mu1 e h1 h2
      obtain ⟨mu', e1, e2, e3⟩ := ih (k + 1) mu1 (by omega) (by rw [← hR]; exact rk_cong (fun r _ _ => h1 r (by omega))) h2
      exact ⟨mu', e.trans e1, fun r hr => by rw [e2 r hr, h1 r hr], e3⟩
    by_cases hb : R 2 k = nI 2
    · have hupb : ∀ x, x < 12 → mu 2 x = nI 2 → ∃ y, y < 13 ∧ mu 3 x = nI y := fun x hx h2 => by
        have h2' : R 2 x = nI 2 := by rw [← h2, ← hR, rk_2 hx]
        obtain ⟨b1, b2, -⟩ := hO.T.bus hx (k2_ne0 h2')
        exact ⟨_, b1, by rw [← b2, ← hR, rk_3 hx]⟩
      have hdp := z_depthOfBus (d + 1) L mu p hupb k (by omega)
      rw [hR, dpt_dq hO.T hk12 hb] at hdp
      have hdq := dq_le hO.T hk12 (k2_ne0 hb)
      rw [hb] at m2
      by_cases hD : dq R k + 1 = D
      · subst hD
        have hF : LayF R (fN R s) (aN R s) k mu := fun j hj h2 hbj => by
          have e := dq_s hO.T hj (k2_ne0 h2) (by omega)
          rw [hbj] at e
          obtain ⟨g1, g2⟩ := hM j hj h2 (Or.inl (by omega))
          have := (need_ok hO hs hj h2).1
          exact ⟨g1, g2, by omega⟩
        obtain ⟨mu1, e1, e2, e3, e4, e5⟩ := z_measureBridge d L p hO hk12 hb hs mu hR hF
        refine pass mu1 ?_ e2 (fun j hj h2 hc => ?_)
        · rw [h71_9]
          simp (disch := first | omega | assumption) only [h71_0, h71_1, h71_3, h71_6, h71_7, h71_11, h71_13, h71_16, h71_17, h71_19, h71_22, h71_25, h71_26, h71_28, h71_31, h71_32, h71_35, h71_36, h71_37, h71_39, h71_40, h71_43, h71_46, h71_49, h71_52, h71_55, Option.bind_some, Option.toList_some, Option.toList_none, List.cons_append, List.nil_append, nI_ltc, nI_lec, nI_eqc, nI_ne5, n5_ne, n5_lt, bI_0, bI_1, nI_add, pk_mul, if_pos, if_neg, ite_not, if_true, if_false, not_true_eq_false, not_false_eq_true, true_and, false_and, and_true, and_false, Nat.reduceAdd, Nat.reduceMul, z_isBridge_n, m2, hdp, e1]
        · by_cases hjk : j = k
          · subst hjk; exact ⟨e4, e5⟩
          · rw [(e3 j hjk).1, (e3 j hjk).2]
            exact hM j hj h2 (by omega)
      · refine pass mu ?_ (fun r _ => rfl) (fun j hj h2 hc => hM j hj h2 ?_)
        · rw [h71_9]
          simp (disch := first | omega | assumption) only [h71_0, h71_1, h71_3, h71_6, h71_7, h71_11, h71_13, h71_16, h71_17, h71_19, h71_22, h71_25, h71_26, h71_28, h71_31, h71_32, h71_35, h71_36, h71_37, h71_39, h71_40, h71_43, h71_46, h71_49, h71_52, h71_55, Option.bind_some, Option.toList_some, Option.toList_none, List.cons_append, List.nil_append, nI_ltc, nI_lec, nI_eqc, nI_ne5, n5_ne, n5_lt, bI_0, bI_1, nI_add, pk_mul, if_pos, if_neg, ite_not, if_true, if_false, not_true_eq_false, not_false_eq_true, true_and, false_and, and_true, and_false, Nat.reduceAdd, Nat.reduceMul, z_isBridge_n, m2, hdp]
        · by_cases hjk : j = k
          · subst hjk; omega
          · omega
    · refine pass mu ?_ (fun r _ => rfl) (fun j hj h2 hc => hM j hj h2 ?_)
      · rw [← m2] at hb
        rw [h71_9]
        simp (disch := first | omega | assumption) only [h71_0, h71_1, h71_3, h71_6, h71_7, h71_11, h71_13, h71_16, h71_17, h71_19, h71_22, h71_25, h71_26, h71_28, h71_31, h71_32, h71_35, h71_36, h71_37, h71_39, h71_40, h71_43, h71_46, h71_49, h71_52, h71_55, Option.bind_some, Option.toList_some, Option.toList_none, List.cons_append, List.nil_append, nI_ltc, nI_lec, nI_eqc, nI_ne5, n5_ne, n5_lt, bI_0, bI_1, nI_add, pk_mul, if_pos, if_neg, ite_not, if_true, if_false, not_true_eq_false, not_false_eq_true, true_and, false_and, and_true, and_false, Nat.reduceAdd, Nat.reduceMul, z_isBridge_n, hb]
      · by_cases hjk : j = k
        · subst hjk; exact absurd h2 hb
        · omega
theorem z_measO {R : RV} (hO : OK R) {s : Nat} (hs : s < 2) : ∀ D mu (w : AV), D ≤ 5 → rk mu 1 = R → MSt R s D 0 mu → ∃ mu', zsem (d + 3) 71 2 [.inr (.inl (some 81)), .inr (.inl (some 1)), .inl (nI s), .inl (nI D), w] [] (HH L mu p) = some (none, HH L mu' p) ∧ (∀ r, (r < 82 ∨ 86 < r) → mu' r = mu r) ∧ MSt R s 0 0 mu' := by
  intro D
  induction D with
  | zero =>
    intro mu w hD hR hM
    refine ⟨mu, ?_, fun r _ => rfl, hM⟩
    rw [h71_2]
    simp (disch := first | omega | assumption) only [h71_0, h71_1, h71_3, h71_6, h71_7, h71_11, h71_13, h71_16, h71_17, h71_19, h71_22, h71_25, h71_26, h71_28, h71_31, h71_32, h71_35, h71_36, h71_37, h71_39, h71_40, h71_43, h71_46, h71_49, h71_52, h71_55, Option.bind_some, Option.toList_some, Option.toList_none, List.cons_append, List.nil_append, nI_ltc, nI_lec, nI_eqc, nI_ne5, n5_ne, n5_lt, bI_0, bI_1, nI_add, pk_mul, if_pos, if_neg, ite_not, if_true, if_false, not_true_eq_false, not_false_eq_true, true_and, false_and, and_true, and_false, Nat.reduceAdd, Nat.reduceMul]
  | succ D ih =>
    intro mu w hD hR hM
    obtain ⟨mu1, e1, e2, e3⟩ := z_measI d L p hO (D := D + 1) hs hD 12 0 mu rfl hR hM
    obtain ⟨mu2, e4, e5, e6⟩ := ih mu1 (.inl (nI 12)) (by omega) (by rw [← hR]; exact rk_cong (fun r _ _ => e2 r (by omega))) (fun j hj h2 hc => e3 j hj h2 (by omega))
    refine ⟨mu2, ?_, fun r hr => by rw [e5 r hr, e2 r hr], e6⟩
    have e0 := dec_ok D
    have l1 : ¬nI (D + 1) ≤ nI 0 := by rw [nI_lec (by omega) (by omega)]; omega
    rw [h71_2]
    simp (disch := first | omega | assumption) only [h71_0, h71_1, h71_3, h71_6, h71_7, h71_11, h71_13, h71_16, h71_17, h71_19, h71_22, h71_25, h71_26, h71_28, h71_31, h71_32, h71_35, h71_36, h71_37, h71_39, h71_40, h71_43, h71_46, h71_49, h71_52, h71_55, Option.bind_some, Option.toList_some, Option.toList_none, List.cons_append, List.nil_append, nI_ltc, nI_lec, nI_eqc, nI_ne5, n5_ne, n5_lt, bI_0, bI_1, nI_add, pk_mul, if_pos, if_neg, ite_not, if_true, if_false, not_true_eq_false, not_false_eq_true, true_and, false_and, and_true, and_false, Nat.reduceAdd, Nat.reduceMul, e1, l1]
    rw [h71_9]
    simp (disch := first | omega | assumption) only [h71_0, h71_1, h71_3, h71_6, h71_7, h71_11, h71_13, h71_16, h71_17, h71_19, h71_22, h71_25, h71_26, h71_28, h71_31, h71_32, h71_35, h71_36, h71_37, h71_39, h71_40, h71_43, h71_46, h71_49, h71_52, h71_55, Option.bind_some, Option.toList_some, Option.toList_none, List.cons_append, List.nil_append, nI_ltc, nI_lec, nI_eqc, nI_ne5, n5_ne, n5_lt, bI_0, bI_1, nI_add, pk_mul, if_pos, if_neg, ite_not, if_true, if_false, not_true_eq_false, not_false_eq_true, true_and, false_and, and_true, and_false, Nat.reduceAdd, Nat.reduceMul, e0, e4]
theorem z_measure {R : RV} (hO : OK R) {s : Nat} (hs : s < 2) (mu : RV) (hR : rk mu 1 = R) : ∃ mu', zsem (d + 3) 71 0 [.inr (.inl (some 81)), .inr (.inl (some 1)), .inl (nI s), .inr (.inl none), .inr (.inl none)] [] (HH L mu p) = some (none, HH L mu' p) ∧ (∀ r, (r < 82 ∨ 86 < r) → mu' r = mu r) ∧ ∀ j, j < 12 → R 2 j = nI 2 → mu' 82 j = nI (fN R s j) ∧ mu' 83 j = nI (aN R s j) := by
  obtain ⟨mu', e1, e2, e3⟩ := z_measO d L p hO hs 5 mu (.inr (.inl none)) (by omega) hR (fun j hj h2 hc => by
    have := dq_le hO.T hj (k2_ne0 h2)
    omega)
  refine ⟨mu', ?_, e2, fun j hj h2 => e3 j hj h2 (by omega)⟩
  rw [← e1]
  simp (disch := first | omega | assumption) only [h71_0, h71_1, h71_3, h71_6, h71_7, h71_11, h71_13, h71_16, h71_17, h71_19, h71_22, h71_25, h71_26, h71_28, h71_31, h71_32, h71_35, h71_36, h71_37, h71_39, h71_40, h71_43, h71_46, h71_49, h71_52, h71_55, Option.bind_some, Option.toList_some, Option.toList_none, List.cons_append, List.nil_append, nI_ltc, nI_lec, nI_eqc, nI_ne5, n5_ne, n5_lt, bI_0, bI_1, nI_add, pk_mul, if_pos, if_neg, ite_not, if_true, if_false, not_true_eq_false, not_false_eq_true, true_and, false_and, and_true, and_false, Nat.reduceAdd, Nat.reduceMul]
end
