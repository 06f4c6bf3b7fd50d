/-! what changes keep -/
theorem u2_row {R : RV} {a i b : Nat} {x : Int32} (h : ¬b = a) : u2 R a i x b = R b := by funext j; exact u2_oa h
theorem bn_cong {R R' : RV} (h3 : R' 3 = R 3) : bn R' = bn R := by funext d; unfold bn; rw [h3]
theorem rt_cong {R R' : RV} (h2 : R' 2 = R 2) (h3 : R' 3 = R 3) : ∀ n b, rt R' n b = rt R n b := by
  intro n
  induction n with
  | zero => intro b; rfl
  | succ n ih =>
    intro b
    show (b = 12 ∨ (b < 12 ∧ R' 2 b = nI 2 ∧ rt R' n (bn R' b))) = (b = 12 ∨ (b < 12 ∧ R 2 b = nI 2 ∧ rt R n (bn R b)))
    rw [h2, bn_cong h3, ih]
theorem InvT_cong {R R' : RV} (h2 : R' 2 = R 2) (h3 : R' 3 = R 3) (h4 : R' 4 = R 4) (h5 : R' 5 = R 5) (h : InvT R) : InvT R' := by
  obtain ⟨a, b, c, e⟩ := h
  refine ⟨fun d hd => by rw [h2]; exact a d hd, fun d hd hk => ?_, fun x s hb hs => ?_, fun d hd hk => ?_⟩
  · rw [h3, h4, h5, h2]
    rw [h2] at hk
    exact b d hd hk
  · rw [h3, h4, h5, h2]
    exact c x s hb hs
  · rw [rt_cong h2 h3, bn_cong h3]
    rw [h2] at hk
    exact e d hd hk
theorem InvA_cong {R R' : RV} (h2 : R' 2 = R 2) (h7 : R' 7 = R 7) (h8 : R' 8 = R 8) (h9 : R' 9 = R 9) (h10 : R' 10 = R 10) (h11 : R' 11 = R 11) (h12 : R' 12 = R 12) (h13 : R' 13 = R 13) (h : InvA R) : InvA R' := by
  unfold InvA at *
  rw [h2, h7, h8, h9, h10, h11, h12, h13]
  exact h
theorem InvG_cong {R R' : RV} (h1 : R' 1 = R 1) (h : InvG R) : InvG R' := by
  unfold InvG at *
  rw [h1]
  exact h
theorem InvS_cong {R R' : RV} (h6 : R' 6 = R 6) (h7 : R' 7 = R 7) (h8 : R' 8 = R 8) (h : InvS R) : InvS R' := by
  unfold InvS at *
  rw [h6, h7, h8]
  exact h
theorem InvR_cong {R R' : RV} (h9 : R' 9 = R 9) (h : InvR R) : InvR R' := by
  unfold InvR at *
  rw [h9]
  exact h
theorem InvN_cong {R R' : RV} (h3 : R' 3 = R 3) (h12 : R' 12 = R 12) (h13 : R' 13 = R 13) (h : InvN R) : InvN R' := by
  unfold InvN numd at *
  rw [bn_cong h3, h12, h13]
  exact h
theorem InvW_cong {R R' : RV} {s : Nat} (h2 : R' 2 = R 2) (h3 : R' 3 = R 3) (h6 : R' 6 = R 6) (h7 : R' 7 = R 7) (h8 : R' 8 = R 8) (h10 : R' 10 = R 10) (h11 : R' 11 = R 11) (h : InvW R s) : InvW R' s := by
  unfold InvW cov room at *
  rw [bn_cong h3, h2, h6, h7, h8, h10, h11]
  exact h
/-- one device of both sides -/
def RelD (R : RV) (B : Nat → Int32) (d : Nat) : Prop := B (20 * d) = R 2 d ∧ (¬R 2 d = nI 0 → B (20 * d + 1) = R 3 d ∧ B (20 * d + 2) = R 4 d ∧
    (∀ q, q < 3 → B (20 * d + 3 + 3 * q + 1) = R 7 (d * 3 + q) ∧ B (20 * d + 3 + 3 * q + 2) = R 8 (d * 3 + q) ∧ (¬R 7 (d * 3 + q) = nI 0 → B (20 * d + 3 + 3 * q) = R 6 (d * 3 + q))) ∧
    B (20 * d + 12) = R 12 d ∧ B (20 * d + 13) = R 13 d ∧ ∀ s, s < 2 → B (20 * d + 14 + s) = R 10 (d * 2 + s) ∧ B (20 * d + 16 + s) = R 11 (d * 2 + s) ∧ B (20 * d + 18 + s) = R 9 (d * 2 + s))
theorem RelB.gap {R : RV} {B : Nat → Int32} (h : RelB R B) : B 240 = R 1 12 := h.1
theorem RelB.dv {R : RV} {B : Nat → Int32} (h : RelB R B) {d : Nat} (hd : d < 12) : RelD R B d := h.2 d hd
theorem RelB_of {R : RV} {B : Nat → Int32} (h : B 240 = R 1 12) (h2 : ∀ d, d < 12 → RelD R B d) : RelB R B := ⟨h, h2⟩
theorem RelD_cong {R R' : RV} {B B' : Nat → Int32} {d : Nat} (h : RelD R B d) (e : ∀ k, k < 20 → B' (20 * d + k) = B (20 * d + k)) (r : ∀ a, a = 2 ∨ a = 3 ∨ a = 4 ∨ a = 12 ∨ a = 13 → R' a d = R a d)
    (r3 : ∀ a q, a = 6 ∨ a = 7 ∨ a = 8 → q < 3 → R' a (d * 3 + q) = R a (d * 3 + q)) (r2 : ∀ a s, a = 9 ∨ a = 10 ∨ a = 11 → s < 2 → R' a (d * 2 + s) = R a (d * 2 + s)) : RelD R' B' d := by
  obtain ⟨h0, h1⟩ := h
  have e0 := e 0 (by omega)
  rw [Nat.add_zero] at e0
  refine ⟨by rw [e0, r 2 (by omega)]; exact h0, fun hk => ?_⟩
  rw [r 2 (by omega)] at hk
  obtain ⟨a1, a2, a3, a4, a5, a6⟩ := h1 hk
  refine ⟨by rw [e 1 (by omega), r 3 (by omega)]; exact a1, by rw [e 2 (by omega), r 4 (by omega)]; exact a2, fun q hq => ?_, by rw [e 12 (by omega), r 12 (by omega)]; exact a4, by rw [e 13 (by omega), r 13 (by omega)]; exact a5, fun s hs => ?_⟩
  · obtain ⟨b1, b2, b3⟩ := a3 q hq
    have e1 := e (3 + 3 * q + 1) (by omega)
    have e2 := e (3 + 3 * q + 2) (by omega)
    have e3 := e (3 + 3 * q) (by omega)
    rw [r3 6 q (by omega) hq, r3 7 q (by omega) hq, r3 8 q (by omega) hq]
    rw [show 20 * d + (3 + 3 * q + 1) = 20 * d + 3 + 3 * q + 1 by omega] at e1
    rw [show 20 * d + (3 + 3 * q + 2) = 20 * d + 3 + 3 * q + 2 by omega] at e2
    rw [show 20 * d + (3 + 3 * q) = 20 * d + 3 + 3 * q by omega] at e3
    rw [e1, e2, e3]
    exact ⟨b1, b2, b3⟩
  · obtain ⟨b1, b2, b3⟩ := a6 s hs
    have e1 := e (14 + s) (by omega)
    have e2 := e (16 + s) (by omega)
    have e3 := e (18 + s) (by omega)
    rw [r2 9 s (by omega) hs, r2 10 s (by omega) hs, r2 11 s (by omega) hs]
    rw [← Nat.add_assoc] at e1 e2 e3
    rw [e1, e2, e3]
    exact ⟨b1, b2, b3⟩
/-- the class has done, the reference has recorded -/
def Mid (mu : RV) (p : Nat → Nat) (mu1 : RV) (p1 : Nat → Nat) (mu2 mu3 : RV) : Prop := Rel mu p ∧ Rec mu p mu1 p1 ∧ (∀ a, a = 0 ∨ (14 ≤ a ∧ a ≤ 80) ∨ 104 ≤ a → mu2 a = mu1 a) ∧ MRec mu2 mu3
theorem Mid.b0 {mu mu1 mu2 mu3 : RV} {p p1 : Nat → Nat} (h : Mid mu p mu1 p1 mu2 mu3) {t : Nat} (ht : t < 241) : mu3 106 t = mu 106 t := by
  obtain ⟨-, h1, h2, m, m', hm, hm1, hm2, hm3, hm4, hm5, hm6, hm7⟩ := h
  rw [hm6 t (by omega), h2 106 (by omega), h1.2.1 106 (by omega)]
theorem Mid.c {mu mu1 mu2 mu3 : RV} {p p1 : Nat → Nat} (h : Mid mu p mu1 p1 mu2 mu3) {a : Nat} (ha : a < 105) : mu3 a = mu2 a := by
  obtain ⟨-, h1, h2, m, m', hm, hm1, hm2, hm3, hm4, hm5, hm6, hm7⟩ := h
  funext i
  exact hm7 a i (by omega) (by omega)
theorem rec_m (d L : Nat) {mu mu1 mu2 : RV} {p p1 : Nat → Nat} (h : Rel mu p) (h1 : Rec mu p mu1 p1) (h2 : ∀ a, a = 0 ∨ (14 ≤ a ∧ a ≤ 80) ∨ 104 ≤ a → mu2 a = mu1 a) : ∃ mu3, zsem (d + 1) 127 0 [.inr (some 105), .inr none] [] (HH L mu2 p1) = some (none, HH L mu3 p1) ∧ Mid mu p mu1 p1 mu2 mu3 := by
  have hh := h
  obtain ⟨hp, ⟨c, hc, hc1, hc2, hcr⟩, -⟩ := h
  obtain ⟨mu3, e, hM⟩ := m_records d L mu2 p1 c hc (by rw [h2 105 (by omega), h1.2.1 105 (by omega)]; exact hc2)
  exact ⟨mu3, e, hh, h1, h2, hM⟩
theorem Rec.rk {mu mu1 : RV} {p p1 : Nat → Nat} (h : Rec mu p mu1 p1) : rk mu1 1 = rk mu 1 := rk_cong (fun a h1 h2 => h.2.1 a (by omega))
theorem Mid.fin {mu mu1 mu2 mu3 mu4 : RV} {p p1 : Nat → Nat} (h : Mid mu p mu1 p1 mu2 mu3)
    (h4 : ∀ a, a < 105 ∨ a = 107 → mu4 a = mu3 a) (h5 : ∀ i, i = 1 ∨ i = 2 ∨ i = 4 → mu4 105 i = mu3 105 i) (h6 : ∀ t, 241 ≤ t → t < 1446 → mu4 106 t = mu3 106 t)
    (hO : OK (rk mu2 1)) (hB : RelB (rk mu2 1) (fun t => mu4 106 t)) : Rel mu4 p1 := by
  have e : _root_.Eq (rk mu4 1) (rk mu2 1) := rk_cong (fun a ha hb => by rw [h4 a (by omega), h.c (by omega)])
  exact asm_rec h.1 h.2.1 h.2.2.1 h.2.2.2 h4 h5 h6 (by rw [e]; exact hO) (by rw [e]; exact hB)
section
variable (d L : Nat) (mu : RV) (p : Nat → Nat)
theorem Rel.gapv (h : Rel mu p) : mu 106 240 = mu 1 12 := h.B.1
theorem op_setGap (h : Rel mu p) (x : Int32) : Pair (d + 2) L 36 [.inl x, .inr none] 139 [.inl x, .inr none] mu p := by
  rcases ixo x 3 (by omega) with ⟨g, hg, rfl⟩ | hx
  · obtain ⟨mu1, p1, e1, hr⟩ := z_rec d L mu p h
    obtain ⟨mu3, e2, hm⟩ := rec_m d L h hr (mu2 := u2 mu1 1 12 (nI g)) (fun a ha => u2_row (by omega))
    have g1 : mu1 1 12 = mu 1 12 := by rw [hr.2.1 1 (by omega)]
    have g2 : mu3 106 240 = mu 1 12 := by rw [hm.b0 (by omega)]; exact Rel.gapv mu p h
    refine ⟨mu 1 12, u2 mu1 1 12 (nI g), p1, u2 mu3 106 240 (nI g), ?_, ?_, ?_⟩
    · simp (disch := first | omega | assumption) only [h36_0, h36_1, h36_4, h36_5, h36_6, h36_9, h36_11, h36_12, h36_13, h36_16, h36_17, h36_20, h36_23, h36_24, h36_27, h36_30, h36_31, h36_32, h36_35, h36_36, h36_39, h36_40, Option.bind_some, Option.toList_some, Option.toList_none, List.cons_append, List.nil_append, nI_ltc, nI_lec, nI_eqc, nI_ne5, n5_ne, n5_lt, bI_0, bI_1, nI_add, pk_mul, if_pos, if_neg, ite_not, if_true, if_false, not_true_eq_false, not_false_eq_true, true_and, false_and, and_true, and_false, Nat.reduceAdd, Nat.reduceMul, e1, g1]
    · simp (disch := first | omega | assumption) only [h139_0, h139_1, h139_2, h139_3, h139_6, h139_9, h139_11, h139_12, h139_13, h139_16, h139_17, h139_20, h139_23, h139_24, h139_25, h139_26, h139_29, h139_32, h139_33, h139_34, h139_35, Option.bind_some, Option.toList_some, Option.toList_none, List.cons_append, List.nil_append, nI_ltc, nI_lec, nI_eqc, nI_ne5, n5_ne, n5_lt, bI_0, bI_1, nI_add, pk_mul, if_pos, if_neg, ite_not, if_true, if_false, not_true_eq_false, not_false_eq_true, true_and, false_and, and_true, and_false, Nat.reduceAdd, Nat.reduceMul, m_in_n, e2, g2]
    · have eR : rk (u2 mu1 1 12 (nI g)) 1 = u2 (rk mu 1) 1 12 (nI g) := by rw [rk_ug, hr.rk]
      refine hm.fin (fun a ha => u2_row (by omega)) (fun i hi => by rw [u2_row (by omega)]) (fun t h1 h2 => u2_o _ _ (by omega)) ?_ ?_
      · rw [eR]
        obtain ⟨i1, i2, i3, i4, i5, i6, i7, i8⟩ := h.2.2.1
        refine ⟨InvT_cong ?_ ?_ ?_ ?_ i1, InvA_cong ?_ ?_ ?_ ?_ ?_ ?_ ?_ ?_ i2, ⟨g, hg, u2_s _ _ _ _⟩, InvS_cong ?_ ?_ ?_ i4, InvR_cong ?_ i5, InvN_cong ?_ ?_ ?_ i6, InvW_cong ?_ ?_ ?_ ?_ ?_ ?_ ?_ i7, InvW_cong ?_ ?_ ?_ ?_ ?_ ?_ ?_ i8⟩ <;> exact u2_row (by omega)
      · rw [eR]
        refine RelB_of ?_ (fun d hd => RelD_cong (h.B.dv hd) (fun k hk => ?_) (fun a ha => by rw [u2_row (by omega)]) (fun a q ha hq => by rw [u2_row (by omega)]) (fun a q ha hq => by rw [u2_row (by omega)]))
        · show u2 mu3 106 240 (nI g) 106 240 = _
          rw [u2_s, u2_s]
        · show u2 mu3 106 240 (nI g) 106 (20 * d + k) = _
          rw [u2_o _ _ (by omega)]
          exact hm.b0 (by omega)
  · have e := m_in_o (d + 1) L mu p x 2 (by omega) hx
    refine ⟨-2, mu, p, mu, ?_, ?_, h⟩
    · by_cases h1 : x < nI 0
      · simp (disch := first | omega | assumption) only [h36_0, h36_1, h36_4, h36_5, h36_6, h36_9, h36_11, h36_12, h36_13, h36_16, h36_17, h36_20, h36_23, h36_24, h36_27, h36_30, h36_31, h36_32, h36_35, h36_36, h36_39, h36_40, Option.bind_some, Option.toList_some, Option.toList_none, List.cons_append, List.nil_append, nI_ltc, nI_lec, nI_eqc, nI_ne5, n5_ne, n5_lt, bI_0, bI_1, nI_add, pk_mul, if_pos, if_neg, ite_not, if_true, if_false, not_true_eq_false, not_false_eq_true, true_and, false_and, and_true, and_false, Nat.reduceAdd, Nat.reduceMul, h1]
      · have h2 : ¬x ≤ nI 2 := by
          intro q
          rcases hx with h | h
          · exact h1 h
          · rw [Int32.le_iff_toInt_le] at q h
            rw [nI_toInt (by omega)] at q h
            omega
        simp (disch := first | omega | assumption) only [h36_0, h36_1, h36_4, h36_5, h36_6, h36_9, h36_11, h36_12, h36_13, h36_16, h36_17, h36_20, h36_23, h36_24, h36_27, h36_30, h36_31, h36_32, h36_35, h36_36, h36_39, h36_40, Option.bind_some, Option.toList_some, Option.toList_none, List.cons_append, List.nil_append, nI_ltc, nI_lec, nI_eqc, nI_ne5, n5_ne, n5_lt, bI_0, bI_1, nI_add, pk_mul, if_pos, if_neg, ite_not, if_true, if_false, not_true_eq_false, not_false_eq_true, true_and, false_and, and_true, and_false, Nat.reduceAdd, Nat.reduceMul, h1, h2]
    · simp (disch := first | omega | assumption) only [h139_0, h139_1, h139_2, h139_3, h139_6, h139_9, h139_11, h139_12, h139_13, h139_16, h139_17, h139_20, h139_23, h139_24, h139_25, h139_26, h139_29, h139_32, h139_33, h139_34, h139_35, Option.bind_some, Option.toList_some, Option.toList_none, List.cons_append, List.nil_append, nI_ltc, nI_lec, nI_eqc, nI_ne5, n5_ne, n5_lt, bI_0, bI_1, nI_add, pk_mul, if_pos, if_neg, ite_not, if_true, if_false, not_true_eq_false, not_false_eq_true, true_and, false_and, and_true, and_false, Nat.reduceAdd, Nat.reduceMul, e]
end
