/-! load -/
def pat (X Y : RV) : RV := fun a i => if a = 116 ∨ a = 117 ∨ (a = 105 ∧ (i = 15 ∨ i = 16 ∨ i = 19)) ∨ (a = 106 ∧ 1446 ≤ i) then Y a i else X a i
theorem pat_o {X Y : RV} {a i : Nat} (h : ¬(a = 116 ∨ a = 117 ∨ (a = 105 ∧ (i = 15 ∨ i = 16 ∨ i = 19)) ∨ (a = 106 ∧ 1446 ≤ i))) : pat X Y a i = X a i := if_neg h
theorem pat_y {X Y : RV} {a i : Nat} (h : a = 116 ∨ a = 117 ∨ (a = 105 ∧ (i = 15 ∨ i = 16 ∨ i = 19)) ∨ (a = 106 ∧ 1446 ≤ i)) : pat X Y a i = Y a i := if_pos h
theorem cnt_lo (P : Nat → Prop) [DecidablePred P] (c : Nat) (h : ∀ j, j < 12 → (P j ↔ j < c)) : ∀ n, n ≤ 12 → cntP P n = min n c := by
  intro n
  induction n with
  | zero => intro _; exact (Nat.zero_min c).symm
  | succ n ih =>
    intro hn
    by_cases q : n < c
    · rw [cnt_s P ((h n (by omega)).mpr q), ih (by omega)]
      omega
    · rw [cnt_n P (fun z => q ((h n (by omega)).mp z)), ih (by omega)]
      omega
theorem OK_gap {R R' : RV} (h : OK R) (hr : ∀ a, ¬a = 1 → R' a = R a) (hg : ∃ g, g < 3 ∧ R' 1 12 = nI g) : OK R' := by
  obtain ⟨i1, i2, i3, i4, i5, i6, i7, i8⟩ := h
  refine ⟨InvT_cong ?_ ?_ ?_ ?_ i1, InvA_cong ?_ ?_ ?_ ?_ ?_ ?_ ?_ ?_ i2, hg, InvS_cong ?_ ?_ ?_ i4, InvR_cong ?_ i5, InvN_cong ?_ ?_ ?_ i6, InvW_cong ?_ ?_ ?_ ?_ ?_ ?_ ?_ i7, InvW_cong ?_ ?_ ?_ ?_ ?_ ?_ ?_ i8⟩ <;> exact hr _ (by decide)
section
variable (d L : Nat) (mu : RV) (p : Nat → Nat)
theorem op_load (h : Rel mu p) : Pair (d + 6) L 89 [.inr none, .inr none] 173 [.inr none, .inr none] mu p := by
  obtain ⟨n, tx, hn, h7, hT, h104⟩ := h.tx
  obtain ⟨m1, f1, z1, c1⟩ := z_read (d + 1) L mu p tx n hn h104
  have hR1 : Rel m1 p := Rel_Fr h f1
  have hTx : ∀ m : RV, m 105 = mu 105 → m 107 = mu 107 → TX m n tx := fun m e1 e2 => ⟨hT.1, by rw [e1]; exact hT.2.1, fun j hj => by rw [e2]; exact hT.2.2 j hj⟩
  obtain ⟨hW, hcn, hcm⟩ := rdr_ok tx n 0 s0 WF_0
  generalize hr : rdr tx n 0 s0 = q at z1 c1 hW hcn hcm
  obtain ⟨o, s⟩ := q
  obtain ⟨⟨du, lv, rg, sp, cn⟩, ob, ls, R⟩ := s
  cases o with
  | some i =>
    obtain ⟨m2, f2, z2, c2⟩ := m_reads (d + 1) L m1 p tx n (hTx m1 (f1 105 (by omega)) (f1 107 (by omega)))
    rw [hr] at z2
    have hf : flt (some i) = nI i := rfl
    dsimp only at z1 z2
    rw [hf] at z1 z2
    have hi : i ≤ n := by
      have key : ∀ m i0 s, i0 + m = n → (rdr tx m i0 s).1 = some i → i ≤ n := by
        intro m
        induction m with
        | zero =>
          intro i0 s hi0 e
          rw [rdr_n] at e
          dsimp only at e
          split at e
          · cases e
          · cases e; omega
        | succ m ih =>
          intro i0 s hi0 e
          cases et : tk s (tx i0) with
          | none => rw [rdr_f tx m i0 s et] at e; cases e; omega
          | some s' => rw [rdr_s tx m i0 s s' et] at e; exact ih _ _ (by omega) e
      exact key n 0 s0 (by omega) (by rw [hr])
    refine ⟨(-100 : Int32) - nI i, m1, p, m2, ?_, ?_, Rel_FM hR1 f2⟩
    · simp (disch := first | omega | assumption) only [h89_0, h89_1, h89_4, h89_5, h89_8, h89_9, h89_12, h89_15, h89_16, h89_17, h89_19, h89_22, h89_24, h89_25, h89_26, h89_27, h89_28, h89_31, h89_34, h89_36, h89_39, h89_41, h89_42, h89_43, h89_46, h89_47, h89_50, h89_53, h89_54, h89_57, h89_60, h89_61, h89_62, h89_65, h89_66, h89_69, h89_72, h89_75, h89_76, h89_79, h89_80, h89_83, h89_84, h89_87, h89_90, Option.bind_some, Option.toList_some, Option.toList_none, List.cons_append, List.nil_append, nI_ltc, nI_lec, nI_eqc, nI_ne5, n5_ne, n5_lt, bI_0, bI_1, nI_add, pk_mul, if_pos, if_neg, ite_not, if_true, if_false, not_true_eq_false, not_false_eq_true, true_and, false_and, and_true, and_false, Nat.reduceAdd, Nat.reduceMul, h7, z1]
    · simp (disch := first | omega | assumption) only [h173_0, h173_1, h173_4, h173_5, h173_6, h173_8, h173_11, h173_13, h173_14, h173_15, h173_16, h173_17, h173_20, h173_22, h173_25, h173_27, h173_28, h173_29, h173_32, h173_33, h173_36, h173_39, h173_40, h173_41, h173_42, h173_44, h173_45, h173_48, h173_49, h173_52, h173_55, h173_56, h173_57, h173_58, h173_61, Option.bind_some, Option.toList_some, Option.toList_none, List.cons_append, List.nil_append, nI_ltc, nI_lec, nI_eqc, nI_ne5, n5_ne, n5_lt, bI_0, bI_1, nI_add, pk_mul, if_pos, if_neg, ite_not, if_true, if_false, not_true_eq_false, not_false_eq_true, true_and, false_and, and_true, and_false, Nat.reduceAdd, Nat.reduceMul, z2]
  | none =>
    have hf : flt none = -5 := rfl
    dsimp only at z1 c1 hcn
    rw [hf] at z1
    have hcr := c1 rfl
    obtain ⟨r1, r2, r3, r4, r5, r6, r7⟩ := hcr
    dsimp only at r5 r7
    have hcn : cn ≤ 80 := by
      have hcn : cn ≤ 0 + n := hcn
      omega
    by_cases hc : cn ≤ 12
    · have hc' : ¬12 < cn := by omega
      obtain ⟨mA, pA, eA, hA⟩ := z_rec (d + 4) L m1 p hR1
      obtain ⟨mB, eB, b1, b2⟩ := z_copyFrom (d + 5) L mA pA 1 89 (Or.inl rfl) (by unfold isRk; omega) (by omega)
      obtain ⟨g, hg, hg2⟩ := h.2.2.1.2.2.1
      have hg2 : mu 1 12 = nI g := hg2
      have gA : mA 1 12 = nI g := by rw [hA.2.1 1 (by omega), f1 1 (by omega)]; exact hg2
      have fC : ∀ a, 104 ≤ a → u2 mB 1 12 (nI g) a = mu a := fun a ha => by
        rw [u2_row (by omega), b2 a (by omega), hA.2.1 a (by omega), f1 a (by omega)]
      obtain ⟨mD, fD, zD, cD⟩ := m_reads (d + 1) L (u2 mB 1 12 (nI g)) pA tx n (hTx _ (fC 105 (by omega)) (fC 107 (by omega)))
      rw [hr] at zD cD
      dsimp only at zD cD
      rw [hf] at zD
      obtain ⟨cD1, cD2⟩ := cD rfl
      obtain ⟨c, hc4, hc1, hc2, -⟩ := hR1.2.1
      obtain ⟨mE, eE, hE⟩ := m_records (d + 4) L mD pA c hc4 (by rw [fD 105 1 (by omega), fC 105 (by omega), ← f1 105 (by omega)]; exact hc2)
      have hcp := m_copies (d + 5) L mE pA 6 0 (by omega) (by omega) (by omega)
      have hrow : ∀ a, ¬a = 1 → rk (u2 mB 1 12 (nI g)) 1 a = R a := fun a ha => by
        rw [rk_ug, u2_row ha, b1, ← r7]
        have : rk mA 89 = rk m1 89 := rk_cong (fun b h1 h2 => hA.2.1 b (by omega))
        rw [this]
        funext i
        unfold zr
        rw [if_neg ha]
      obtain ⟨w1, w2, w3, w4, w5, w6, w7, w8, w9, w10, w11, w12, w13⟩ := hW
      have hOK : OK (rk (u2 mB 1 12 (nI g)) 1) := OK_gap w6 hrow ⟨g, hg, by rw [rk_ug, u2_s]⟩
      obtain ⟨m, m', hm, hm1, hm2, hm3, hm4, hm5, hm6, hm7⟩ := hE
      have gE : mE 106 240 = nI g := by
        rw [hm6 240 (by omega), fD 106 240 (by omega), fC 106 (by omega), ← hg2]
        exact Rel.gapv mu p h
      have bE : mE 105 15 = nI cn := by rw [hm7 105 15 (by omega) (by omega)]; exact cD1
      have hcnt : cntP (fun j => ¬u2 mB 1 12 (nI g) 2 j = nI 0) 12 = cn := by
        rw [cnt_lo _ cn (fun j hj => ?_) 12 (Nat.le_refl _)]
        · omega
        · have e2 : u2 mB 1 12 (nI g) 2 j = R 2 j := by
            rw [← hrow 2 (by omega), rk_2 hj]
          rw [e2, (w12 hc).1 j hj]
          omega
      have hPM : MRec (u2 mB 1 12 (nI g)) (pat mE (u2 mB 1 12 (nI g))) := by
        refine ⟨m, m', hm, by rw [← fD 105 1 (by omega)]; exact hm1, by rw [pat_o (by omega)]; exact hm2, hm3, ?_, fun t ht => ?_, fun t ht => ?_, fun a i ha hb => ?_⟩
        · rcases hm4 with ⟨x1, x2, x3⟩ | ⟨x1, x2, x3⟩
          · exact Or.inl ⟨x1, x2, fun i hi t ht => by rw [pat_o (by omega), ← fD 106 _ (by omega)]; exact x3 i hi t ht⟩
          · exact Or.inr ⟨x1, x2, fun i hi t ht => by rw [pat_o (by omega), ← fD 106 _ (by omega)]; exact x3 i hi t ht⟩
        · rw [pat_o (by omega), ← fD 106 t (by omega)]
          exact hm5 t ht
        · by_cases z : 1446 ≤ t
          · exact pat_y (by omega)
          · rw [pat_o (by omega), ← fD 106 t (by omega)]
            exact hm6 t ht
        · by_cases z : a = 116 ∨ a = 117 ∨ (a = 105 ∧ (i = 15 ∨ i = 16 ∨ i = 19)) ∨ (a = 106 ∧ 1446 ≤ i)
          · exact pat_y z
          · rw [pat_o z, ← fD a i z]
            exact hm7 a i ha hb
      have hMid : Mid m1 p mA pA (u2 mB 1 12 (nI g)) (pat mE (u2 mB 1 12 (nI g))) := ⟨hR1, hA, fun a ha => by rw [u2_row (by omega), b2 a (by omega)], hPM⟩
      have bF : ∀ t, t < 240 → u2 (cpB mE 6 0 241) 106 240 (nI g) 106 t = mD 106 (1446 + t) := fun t ht => by
        have := cpB_i (mu := mE) (f := 6) (t := 0) (i := t) (by omega)
        rw [Nat.mul_zero, Nat.zero_add] at this
        rw [u2_o _ _ (by omega), this]
        exact hm6 (1446 + t) (by omega)
      have hFin : Rel (pat (u2 (cpB mE 6 0 241) 106 240 (nI g)) (u2 mB 1 12 (nI g))) pA := by
        refine hMid.fin (fun a ha => ?_) (fun i hi => ?_) (fun t h1 h2 => ?_) hOK (RelB_of ?_ (fun dd hd => ?_))
        · funext i
          rw [pat_o (by omega), pat_o (by omega), u2_o _ _ (by omega), cpB_o (by omega)]
        · rw [pat_o (by omega), pat_o (by omega), u2_o _ _ (by omega), cpB_o (by omega)]
        · rw [pat_o (by omega), pat_o (by omega), u2_o _ _ (by omega), cpB_o (by omega)]
        · show pat (u2 (cpB mE 6 0 241) 106 240 (nI g)) (u2 mB 1 12 (nI g)) 106 240 = _
          rw [pat_o (by omega), u2_s, rk_ug, u2_s]
        · refine RelD_cong (cD2.1 dd hd) (fun t ht => ?_) (fun a ha => by rw [hrow a (by omega)]) (fun a q ha hq => by rw [hrow a (by omega)]) (fun a q ha hq => by rw [hrow a (by omega)])
          show pat (u2 (cpB mE 6 0 241) 106 240 (nI g)) (u2 mB 1 12 (nI g)) 106 (20 * dd + t) = mD 106 (1446 + (20 * dd + t))
          rw [pat_o (by omega)]
          exact bF _ (by omega)
      refine ⟨nI cn, u2 mB 1 12 (nI g), pA, u2 (cpB mE 6 0 241) 106 240 (nI g), ?_, ?_, ?_⟩
      · have r5A : m1 88 1 = nI cn := r5
        simp (disch := first | omega | assumption) only [h89_0, h89_1, h89_4, h89_5, h89_8, h89_9, h89_12, h89_15, h89_16, h89_17, h89_19, h89_22, h89_24, h89_25, h89_26, h89_27, h89_28, h89_31, h89_34, h89_36, h89_39, h89_41, h89_42, h89_43, h89_46, h89_47, h89_50, h89_53, h89_54, h89_57, h89_60, h89_61, h89_62, h89_65, h89_66, h89_69, h89_72, h89_75, h89_76, h89_79, h89_80, h89_83, h89_84, h89_87, h89_90, Option.bind_some, Option.toList_some, Option.toList_none, List.cons_append, List.nil_append, nI_ltc, nI_lec, nI_eqc, nI_ne5, n5_ne, n5_lt, bI_0, bI_1, nI_add, pk_mul, if_pos, if_neg, ite_not, if_true, if_false, not_true_eq_false, not_false_eq_true, true_and, false_and, and_true, and_false, Nat.reduceAdd, Nat.reduceMul, h7, z1, r5A, hc', eA, gA, eB, z_countDevices, hcnt]
      · have bE' : u2 (cpB mE 6 0 241) 106 240 (nI g) 105 15 = nI cn := by rw [u2_o _ _ (by omega), cpB_o (by omega)]; exact bE
        simp (disch := first | omega | assumption) only [h173_0, h173_1, h173_4, h173_5, h173_6, h173_8, h173_11, h173_13, h173_14, h173_15, h173_16, h173_17, h173_20, h173_22, h173_25, h173_27, h173_28, h173_29, h173_32, h173_33, h173_36, h173_39, h173_40, h173_41, h173_42, h173_44, h173_45, h173_48, h173_49, h173_52, h173_55, h173_56, h173_57, h173_58, h173_61, Option.bind_some, Option.toList_some, Option.toList_none, List.cons_append, List.nil_append, nI_ltc, nI_lec, nI_eqc, nI_ne5, n5_ne, n5_lt, bI_0, bI_1, nI_add, pk_mul, if_pos, if_neg, ite_not, if_true, if_false, not_true_eq_false, not_false_eq_true, true_and, false_and, and_true, and_false, Nat.reduceAdd, Nat.reduceMul, zD, cD1, hc', eE, gE, hcp, bE']
      · refine Rel_scr hFin (fun a ha => ?_) (fun i hi => ?_) (fun t ht => ?_)
        · funext i
          rw [pat_o (by omega)]
        · rw [pat_o (by omega)]
        · rw [pat_o (by omega)]
    · have hc' : 12 < cn := by omega
      obtain ⟨m2, f2, z2, c2⟩ := m_reads (d + 1) L m1 p tx n (hTx m1 (f1 105 (by omega)) (f1 107 (by omega)))
      rw [hr] at z2 c2
      dsimp only at z2 c2
      rw [hf] at z2
      have c3 := (c2 rfl).1
      refine ⟨-3, m1, p, m2, ?_, ?_, Rel_FM hR1 f2⟩
      · simp (disch := first | omega | assumption) only [h89_0, h89_1, h89_4, h89_5, h89_8, h89_9, h89_12, h89_15, h89_16, h89_17, h89_19, h89_22, h89_24, h89_25, h89_26, h89_27, h89_28, h89_31, h89_34, h89_36, h89_39, h89_41, h89_42, h89_43, h89_46, h89_47, h89_50, h89_53, h89_54, h89_57, h89_60, h89_61, h89_62, h89_65, h89_66, h89_69, h89_72, h89_75, h89_76, h89_79, h89_80, h89_83, h89_84, h89_87, h89_90, Option.bind_some, Option.toList_some, Option.toList_none, List.cons_append, List.nil_append, nI_ltc, nI_lec, nI_eqc, nI_ne5, n5_ne, n5_lt, bI_0, bI_1, nI_add, pk_mul, if_pos, if_neg, ite_not, if_true, if_false, not_true_eq_false, not_false_eq_true, true_and, false_and, and_true, and_false, Nat.reduceAdd, Nat.reduceMul, h7, z1, r5, hc']
      · simp (disch := first | omega | assumption) only [h173_0, h173_1, h173_4, h173_5, h173_6, h173_8, h173_11, h173_13, h173_14, h173_15, h173_16, h173_17, h173_20, h173_22, h173_25, h173_27, h173_28, h173_29, h173_32, h173_33, h173_36, h173_39, h173_40, h173_41, h173_42, h173_44, h173_45, h173_48, h173_49, h173_52, h173_55, h173_56, h173_57, h173_58, h173_61, Option.bind_some, Option.toList_some, Option.toList_none, List.cons_append, List.nil_append, nI_ltc, nI_lec, nI_eqc, nI_ne5, n5_ne, n5_lt, bI_0, bI_1, nI_add, pk_mul, if_pos, if_neg, ite_not, if_true, if_false, not_true_eq_false, not_false_eq_true, true_and, false_and, and_true, and_false, Nat.reduceAdd, Nat.reduceMul, z2, c3, hc']
end
