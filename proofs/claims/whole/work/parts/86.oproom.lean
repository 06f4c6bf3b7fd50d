/-! firstFit, freeRoom -/
theorem LF_r {mu : RV} {P : Nat → Prop} {r : Nat} (h : ¬r = 114) : LF mu P r = mu r := by
  funext t
  exact LF_o h
theorem Rel_LF {mu : RV} {p : Nat → Nat} {P : Nat → Prop} (h : Rel mu p) : Rel (LF mu P) p :=
  Rel_scr h (fun a ha => LF_r (by omega)) (fun i hi => LF_o (by omega)) (fun t ht => LF_o (by omega))
theorem cnt_int (u c : Nat) : ∀ n, cntP (fun t => u ≤ t ∧ t < u + c) n = min n (u + c) - min n u := by
  intro n
  induction n with
  | zero => simp [cntP]
  | succ n ih =>
    by_cases h : u ≤ n ∧ n < u + c
    · rw [cnt_s (fun t => u ≤ t ∧ t < u + c) h, ih]
      omega
    · rw [cnt_n (fun t => u ≤ t ∧ t < u + c) h, ih]
      omega
/-- free but for the parts from k on -/
def frk (R : RV) (s b A E k t : Nat) : Prop := inR s A E t ∧ ∀ i a n, i < k → CP R s b i a n → ¬(a ≤ t * grn s ∧ t * grn s < a + n)
theorem cp_bus {R : RV} (hO : OK R) {s b i a n : Nat} (hb : b < 13) (hi : i < 12) (hc : CP R s b i a n) : ∃ j, j < 12 ∧ bn R j = b ∧ R 4 j = nI (i / 3) ∧ cov R s j (i % 3) a n := by
  obtain ⟨j, c1, c2, c3⟩ := hc
  rcases hO.T.2.2.1 b (i / 3) hb (by omega) with hv | ⟨j', g1, g2, g3, g4, g5⟩
  · rw [hv, n5_ne (by omega)] at c2; exact c2.elim
  · rw [g2, nI_eqc (by omega) (by omega)] at c2
    subst c2
    exact ⟨j', c1, bn_of g4 hb, g5, c3⟩
theorem cp_apart {R : RV} (hO : OK R) {s b i a n i' a' n' : Nat} (hs : s < 2) (hb : b < 13) (hi : i < 12) (hi' : i' < 12) (hne : ¬i = i') (hc : CP R s b i a n) (hc' : CP R s b i' a' n') : a + n ≤ a' ∨ a' + n' ≤ a := by
  obtain ⟨j, j1, j2, j3, j4⟩ := cp_bus hO hb hi hc
  obtain ⟨j', k1, k2, k3, k4⟩ := cp_bus hO hb hi' hc'
  refine (hO.W hs).2.2.2 j (i % 3) j' (i' % 3) a n a' n' j1 (by omega) k1 (by omega) ?_ (by rw [j2, k2]) j4 k4
  rintro ⟨rfl, q⟩
  rw [j3, nI_eqc (by omega) (by omega)] at k3
  omega
theorem cp_room {R : RV} (hO : OK R) {s b i a n A E : Nat} (hs : s < 2) (hb : b < 13) (hi : i < 12) (hc : CP R s b i a n) (hr : room R s b A E) : A ≤ a ∧ a + n ≤ A + E := by
  obtain ⟨j, j1, j2, j3, j4⟩ := cp_bus hO hb hi hc
  obtain ⟨-, -, -, a0, n0, r1, r2, r3⟩ := (hO.W hs).2.2.1 j (i % 3) a n j1 (by omega) j4
  rw [j2] at r1
  obtain ⟨e1, e2⟩ := room_one hr r1
  omega
theorem cnt_free {R : RV} (hO : OK R) {s b A' E' : Nat} (hs : s < 2) (hb : b < 13) (hr : room R s b (grn s * A') (grn s * E')) (hAE : A' + E' ≤ 256) : ∀ k, k ≤ 12 → grn s * cntP (fun t => tb (frk R s b (grn s * A') (grn s * E') k t) = true) 256 + sumC R s b k = grn s * E' := by
  have hg := @grn_le s
  have hg0 : 0 < grn s := by omega
  intro k
  induction k with
  | zero =>
    intro _
    have e : cntP (fun t => tb (frk R s b (grn s * A') (grn s * E') 0 t) = true) 256 = cntP (fun t => A' ≤ t ∧ t < A' + E') 256 := cnt_cong _ _ 256 (fun t _ => by
      rw [tb_iff]
      unfold frk inR
      rw [Nat.mul_comm t, ← Nat.mul_add, gle hg0, glt hg0]
      exact ⟨fun q => q.1, fun q => ⟨q, fun i a n hi => by omega⟩⟩)
    rw [e, cnt_int]
    show grn s * _ + 0 = _
    rw [Nat.add_zero]
    congr 1
    omega
  | succ k ih =>
    intro hk
    have ih := ih (by omega)
    by_cases hc : ∃ a n, CP R s b k a n
    · obtain ⟨a, n, hc⟩ := hc
      obtain ⟨j, j1, j2, j3, j4⟩ := cp_bus hO hb (by omega) hc
      obtain ⟨u, c, rfl, rfl, e3, -⟩ := cov_grn hO.T (hO.W hs) j1 (by omega) j4
      have hrm := cp_room hO hs hb (by omega) hc hr
      rw [← Nat.mul_add, ← Nat.mul_add, gle hg0, gle hg0] at hrm
      have e : cntP (fun t => tb (frk R s b (grn s * A') (grn s * E') k t) = true) 256 = cntP (fun t => tb (frk R s b (grn s * A') (grn s * E') (k + 1) t) = true) 256 + cntP (fun t => u ≤ t ∧ t < u + c) 256 := by
        refine cnt_split _ _ _ (fun t => ⟨?_, ?_⟩) 256
        · rw [tb_iff, tb_iff]
          constructor
          · intro q
            by_cases hu : u ≤ t ∧ t < u + c
            · exact Or.inr hu
            · refine Or.inl ⟨q.1, fun i a n hi hcp => ?_⟩
              by_cases hik : i = k
              · subst hik
                obtain ⟨g1, g2⟩ := CP_un hc hcp
                rw [g1, g2]
                exact fun z => hu ((cov_t hg0).mp z)
              · exact q.2 i a n (by omega) hcp
          · rintro (q | q)
            · exact ⟨q.1, fun i a n hi hcp => q.2 i a n (by omega) hcp⟩
            · refine ⟨?_, fun i a n hi hcp z => ?_⟩
              · unfold inR
                rw [Nat.mul_comm t, ← Nat.mul_add, gle hg0, glt hg0]
                omega
              · have h1 := cp_apart hO hs hb (i := i) (i' := k) (by omega) (by omega) (by omega) hcp hc
                have h2 := (cov_t (g := grn s) hg0).mpr q
                omega
        · rw [tb_iff]
          rintro ⟨q1, q2⟩
          exact q1.2 k _ _ (by omega) hc ((cov_t hg0).mpr q2)
      have e2 : sumC R s b (k + 1) = sumC R s b k + grn s * c := by
        show _ + _ = _
        rw [szc_y hc]
      rw [cnt_int] at e
      rw [e, show min 256 (u + c) - min 256 u = c by omega, Nat.mul_add] at ih
      rw [e2]
      omega
    · have hno : ∀ a n, ¬CP R s b k a n := fun a n q => hc ⟨a, n, q⟩
      have e : cntP (fun t => tb (frk R s b (grn s * A') (grn s * E') k t) = true) 256 = cntP (fun t => tb (frk R s b (grn s * A') (grn s * E') (k + 1) t) = true) 256 := cnt_cong _ _ 256 (fun t _ => by
        rw [tb_iff, tb_iff]
        refine ⟨fun q => ⟨q.1, fun i a n hi hcp => ?_⟩, fun q => ⟨q.1, fun i a n hi hcp => q.2 i a n (by omega) hcp⟩⟩
        by_cases hik : i = k
        · subst hik; exact absurd hcp (hno a n)
        · exact q.2 i a n (by omega) hcp)
      have e2 : sumC R s b (k + 1) = sumC R s b k := by
        show _ + _ = _
        rw [szc_n hno, Nat.add_zero]
      rw [e2, ← e]
      exact ih
section
variable (d L : Nat) (mu : RV) (p : Nat → Nat)
theorem op_firstFit (h : Rel mu p) (x y z : Int32) : Pair (d + 5) L 114 [.inl x, .inl y, .inl z] 191 [.inl x, .inl y, .inl z] mu p := by
  have slots : ∀ b, b < 13 → (b = 12 ∨ mu 2 b = nI 2) → Pair (d + 5) L 114 [.inl (nI b), .inl y, .inl z] 191 [.inl (nI b), .inl y, .inl z] mu p := by
    intro b hb hk
    have c1 : zsem (d + 4) 10 0 [.inr (some 1), .inl (nI b)] [] (HH L mu p) = some (some (.inl (nI 1)), HH L mu p) := by
      rcases hk with rfl | hk
      · exact z_isBus_r (d + 3) L mu p
      · by_cases hb2 : b < 12
        · rw [z_isBus_n (d + 3) L mu p b hb2, bI_t hk]
        · have : b = 12 := by omega
          subst this; exact z_isBus_r (d + 3) L mu p
    have c2 : zsem (d + 4) 118 0 [.inr (some 105), .inl (nI b)] [] (HH L mu p) = some (some (.inl (nI 1)), HH L mu p) := by
      by_cases hb2 : b < 12
      · rw [m_isBus_n (d + 1) L mu p b hb2, bI_t]
        rw [h.kind hb2]
        exact hk.resolve_left (by omega)
      · have : b = 12 := by omega
        subst this; exact m_isBus_r (d + 1) L mu p
    rcases spx y with ⟨s, hs, rfl⟩ | ⟨hy, hy2⟩
    · obtain ⟨v1, e1, e2, e3⟩ := z_isSizeOf (d + 2) L mu p s hs z
      obtain ⟨v2, f1, f2, f3⟩ := m_isSize (d + 3) L mu p s hs z
      by_cases hz : szP s z
      · rw [e2 hz] at e1
        rw [f2 hz] at f1
        obtain ⟨e, he, rfl⟩ := hz
        have hsz := @sz_lt s e he
        have hpos : 0 < 2 ^ e := Nat.pow_pos (by omega)
        have hb' : b = 12 ∨ (b < 12 ∧ rk mu 1 2 b = nI 2) := by
          rcases hk with q | q
          · exact Or.inl q
          · by_cases hb2 : b < 12
            · exact Or.inr ⟨hb2, by rw [rk_2 hb2]; exact q⟩
            · exact Or.inl (by omega)
        have hb2 : b = 12 ∨ (b < 12 ∧ mu 2 b = nI 2) := by
          rcases hk with q | q
          · exact Or.inl q
          · by_cases hb2 : b < 12
            · exact Or.inr ⟨hb2, q⟩
            · exact Or.inl (by omega)
        obtain ⟨kk, k1, k2⟩ : ∃ kk, grn s * 2 ^ e = 2 ^ kk ∧ (kk = 2 ∨ kk = 3 ∨ kk = 4 ∨ kk = 5 ∨ kk = 6 ∨ kk = 7 ∨ kk = 8 ∨ kk = 9 ∨ kk = 10) := by
          rcases (show s = 0 ∨ s = 1 by omega) with rfl | rfl
          · refine ⟨4 + e, by rw [Nat.pow_add]; rfl, ?_⟩
            have : e ≤ 6 := he
            omega
          · refine ⟨2 + e, by rw [Nat.pow_add]; rfl, ?_⟩
            have : e ≤ 4 := he
            omega
        obtain ⟨v, g1, g2⟩ := z_fit (d + 1) L mu p h.2.2.1 b s (2 ^ e) (2 ^ e) kk hs hb2 k1 k2 hpos (by omega)
        obtain ⟨v', P, g3, g4⟩ := m_fits d L mu p h.2.2.1 h.B b s (2 ^ e) (2 ^ e) hs hb' hpos (by omega) hpos (by omega)
        have := FSp_one g2 g4
        subst this
        refine ⟨v', mu, p, LF mu P, ?_, ?_, Rel_LF h⟩
        · simp (disch := first | omega | assumption) only [h114_0, h114_1, h114_4, h114_5, h114_8, h114_11, h114_12, h114_13, h114_14, h114_17, h114_20, h114_21, h114_22, h114_25, h114_28, h114_30, h114_31, h114_32, h114_35, h114_36, h114_37, h114_38, h114_39, h114_42, Option.bind_some, Option.toList_some, Option.toList_none, List.cons_append, List.nil_append, nI_ltc, nI_lec, nI_eqc, nI_ne5, n5_ne, n5_lt, bI_0, bI_1, nI_add, pk_mul, if_pos, if_neg, ite_not, if_true, if_false, not_true_eq_false, not_false_eq_true, true_and, false_and, and_true, and_false, Nat.reduceAdd, Nat.reduceMul, c1, z_isSpace_n, e1, g1]
        · simp (disch := first | omega | assumption) only [h191_0, h191_1, h191_2, h191_5, h191_8, h191_9, h191_10, h191_11, h191_14, h191_17, h191_18, h191_19, h191_22, h191_25, h191_27, h191_28, h191_29, h191_30, h191_31, h191_32, h191_33, h191_36, Option.bind_some, Option.toList_some, Option.toList_none, List.cons_append, List.nil_append, nI_ltc, nI_lec, nI_eqc, nI_ne5, n5_ne, n5_lt, bI_0, bI_1, nI_add, pk_mul, if_pos, if_neg, ite_not, if_true, if_false, not_true_eq_false, not_false_eq_true, true_and, false_and, and_true, and_false, Nat.reduceAdd, Nat.reduceMul, c2, m_isSpace_n, f1, g3]
      · rw [e3 hz] at e1
        rw [f3 hz] at f1
        refine ⟨-2, mu, p, mu, ?_, ?_, h⟩
        · simp (disch := first | omega | assumption) only [h114_0, h114_1, h114_4, h114_5, h114_8, h114_11, h114_12, h114_13, h114_14, h114_17, h114_20, h114_21, h114_22, h114_25, h114_28, h114_30, h114_31, h114_32, h114_35, h114_36, h114_37, h114_38, h114_39, h114_42, Option.bind_some, Option.toList_some, Option.toList_none, List.cons_append, List.nil_append, nI_ltc, nI_lec, nI_eqc, nI_ne5, n5_ne, n5_lt, bI_0, bI_1, nI_add, pk_mul, if_pos, if_neg, ite_not, if_true, if_false, not_true_eq_false, not_false_eq_true, true_and, false_and, and_true, and_false, Nat.reduceAdd, Nat.reduceMul, c1, z_isSpace_n, e1]
        · simp (disch := first | omega | assumption) only [h191_0, h191_1, h191_2, h191_5, h191_8, h191_9, h191_10, h191_11, h191_14, h191_17, h191_18, h191_19, h191_22, h191_25, h191_27, h191_28, h191_29, h191_30, h191_31, h191_32, h191_33, h191_36, Option.bind_some, Option.toList_some, Option.toList_none, List.cons_append, List.nil_append, nI_ltc, nI_lec, nI_eqc, nI_ne5, n5_ne, n5_lt, bI_0, bI_1, nI_add, pk_mul, if_pos, if_neg, ite_not, if_true, if_false, not_true_eq_false, not_false_eq_true, true_and, false_and, and_true, and_false, Nat.reduceAdd, Nat.reduceMul, c2, m_isSpace_n, f1]
    · refine ⟨-2, mu, p, mu, ?_, ?_, h⟩
      · simp (disch := first | omega | assumption) only [h114_0, h114_1, h114_4, h114_5, h114_8, h114_11, h114_12, h114_13, h114_14, h114_17, h114_20, h114_21, h114_22, h114_25, h114_28, h114_30, h114_31, h114_32, h114_35, h114_36, h114_37, h114_38, h114_39, h114_42, Option.bind_some, Option.toList_some, Option.toList_none, List.cons_append, List.nil_append, nI_ltc, nI_lec, nI_eqc, nI_ne5, n5_ne, n5_lt, bI_0, bI_1, nI_add, pk_mul, if_pos, if_neg, ite_not, if_true, if_false, not_true_eq_false, not_false_eq_true, true_and, false_and, and_true, and_false, Nat.reduceAdd, Nat.reduceMul, c1, z_isSpace_o]
      · simp (disch := first | omega | assumption) only [h191_0, h191_1, h191_2, h191_5, h191_8, h191_9, h191_10, h191_11, h191_14, h191_17, h191_18, h191_19, h191_22, h191_25, h191_27, h191_28, h191_29, h191_30, h191_31, h191_32, h191_33, h191_36, Option.bind_some, Option.toList_some, Option.toList_none, List.cons_append, List.nil_append, nI_ltc, nI_lec, nI_eqc, nI_ne5, n5_ne, n5_lt, bI_0, bI_1, nI_add, pk_mul, if_pos, if_neg, ite_not, if_true, if_false, not_true_eq_false, not_false_eq_true, true_and, false_and, and_true, and_false, Nat.reduceAdd, Nat.reduceMul, c2, m_isSpace_o]
  rcases busx x with ⟨b, hb, rfl⟩ | rfl | ⟨h1, h2⟩
  · by_cases hk : mu 2 b = nI 2
    · exact slots b (by omega) (Or.inr hk)
    · have hk2 := h.kind hb
      refine ⟨-1, mu, p, mu, ?_, ?_, h⟩
      · simp (disch := first | omega | assumption) only [h114_0, h114_1, h114_4, h114_5, h114_8, h114_11, h114_12, h114_13, h114_14, h114_17, h114_20, h114_21, h114_22, h114_25, h114_28, h114_30, h114_31, h114_32, h114_35, h114_36, h114_37, h114_38, h114_39, h114_42, Option.bind_some, Option.toList_some, Option.toList_none, List.cons_append, List.nil_append, nI_ltc, nI_lec, nI_eqc, nI_ne5, n5_ne, n5_lt, bI_0, bI_1, nI_add, pk_mul, if_pos, if_neg, ite_not, if_true, if_false, not_true_eq_false, not_false_eq_true, true_and, false_and, and_true, and_false, Nat.reduceAdd, Nat.reduceMul, z_isBus_n, hk]
      · simp (disch := first | omega | assumption) only [h191_0, h191_1, h191_2, h191_5, h191_8, h191_9, h191_10, h191_11, h191_14, h191_17, h191_18, h191_19, h191_22, h191_25, h191_27, h191_28, h191_29, h191_30, h191_31, h191_32, h191_33, h191_36, Option.bind_some, Option.toList_some, Option.toList_none, List.cons_append, List.nil_append, nI_ltc, nI_lec, nI_eqc, nI_ne5, n5_ne, n5_lt, bI_0, bI_1, nI_add, pk_mul, if_pos, if_neg, ite_not, if_true, if_false, not_true_eq_false, not_false_eq_true, true_and, false_and, and_true, and_false, Nat.reduceAdd, Nat.reduceMul, m_isBus_n, hk2, hk]
  · exact slots 12 (by omega) (Or.inl rfl)
  · refine ⟨-1, mu, p, mu, ?_, ?_, h⟩
    · simp (disch := first | omega | assumption) only [h114_0, h114_1, h114_4, h114_5, h114_8, h114_11, h114_12, h114_13, h114_14, h114_17, h114_20, h114_21, h114_22, h114_25, h114_28, h114_30, h114_31, h114_32, h114_35, h114_36, h114_37, h114_38, h114_39, h114_42, Option.bind_some, Option.toList_some, Option.toList_none, List.cons_append, List.nil_append, nI_ltc, nI_lec, nI_eqc, nI_ne5, n5_ne, n5_lt, bI_0, bI_1, nI_add, pk_mul, if_pos, if_neg, ite_not, if_true, if_false, not_true_eq_false, not_false_eq_true, true_and, false_and, and_true, and_false, Nat.reduceAdd, Nat.reduceMul, z_isBus_o]
    · simp (disch := first | omega | assumption) only [h191_0, h191_1, h191_2, h191_5, h191_8, h191_9, h191_10, h191_11, h191_14, h191_17, h191_18, h191_19, h191_22, h191_25, h191_27, h191_28, h191_29, h191_30, h191_31, h191_32, h191_33, h191_36, Option.bind_some, Option.toList_some, Option.toList_none, List.cons_append, List.nil_append, nI_ltc, nI_lec, nI_eqc, nI_ne5, n5_ne, n5_lt, bI_0, bI_1, nI_add, pk_mul, if_pos, if_neg, ite_not, if_true, if_false, not_true_eq_false, not_false_eq_true, true_and, false_and, and_true, and_false, Nat.reduceAdd, Nat.reduceMul, m_isBus_o]
theorem m_frL (b s : Int32) (P : Nat → Prop) : ∀ m k, k + m = 256 → zsem (d + 4) 190 31 [.inr (some 105), .inl b, .inl s, .inl (nI (cntP (fun t => tb (P t) = true) k)), .inl (nI k)] [] (HH L (LF mu P) p) = zsem (d + 4) 190 31 [.inr (some 105), .inl b, .inl s, .inl (nI (cntP (fun t => tb (P t) = true) 256)), .inl (nI 256)] [] (HH L (LF mu P) p) := by
  intro m
  induction m with
  | zero =>
    intro k hk
    have : k = 256 := by omega
    subst this
    rfl
  | succ m ih =>
    intro k hk
    rw [← ih (k + 1) (by omega), h190_31]
    by_cases hP : P k
    · have e := LF_y (mu := mu) (P := P) (show k < 256 by omega) hP
      rw [cnt_s (fun t => tb (P t) = true) ((tb_iff _).mpr hP)]
      simp (disch := first | omega | assumption) only [h190_0, h190_1, h190_2, h190_5, h190_8, h190_9, h190_10, h190_11, h190_14, h190_17, h190_19, h190_20, h190_21, h190_22, h190_23, h190_26, h190_27, h190_28, h190_29, h190_33, h190_36, h190_39, h190_40, h190_41, h190_44, h190_46, h190_47, h190_48, h190_49, h190_52, h190_55, h190_56, h190_57, h190_60, h190_61, Option.bind_some, Option.toList_some, Option.toList_none, List.cons_append, List.nil_append, nI_ltc, nI_lec, nI_eqc, nI_ne5, n5_ne, n5_lt, bI_0, bI_1, nI_add, pk_mul, if_pos, if_neg, ite_not, if_true, if_false, not_true_eq_false, not_false_eq_true, true_and, false_and, and_true, and_false, Nat.reduceAdd, Nat.reduceMul, e]
    · have e := LF_n (mu := mu) (P := P) (show k < 256 by omega) hP
      rw [cnt_n (fun t => tb (P t) = true) (fun q => hP ((tb_iff _).mp q))]
      simp (disch := first | omega | assumption) only [h190_0, h190_1, h190_2, h190_5, h190_8, h190_9, h190_10, h190_11, h190_14, h190_17, h190_19, h190_20, h190_21, h190_22, h190_23, h190_26, h190_27, h190_28, h190_29, h190_33, h190_36, h190_39, h190_40, h190_41, h190_44, h190_46, h190_47, h190_48, h190_49, h190_52, h190_55, h190_56, h190_57, h190_60, h190_61, Option.bind_some, Option.toList_some, Option.toList_none, List.cons_append, List.nil_append, nI_ltc, nI_lec, nI_eqc, nI_ne5, n5_ne, n5_lt, bI_0, bI_1, nI_add, pk_mul, if_pos, if_neg, ite_not, if_true, if_false, not_true_eq_false, not_false_eq_true, true_and, false_and, and_true, and_false, Nat.reduceAdd, Nat.reduceMul, e, Nat.add_zero]
theorem op_freeRoom (h : Rel mu p) (x y : Int32) : Pair (d + 4) L 112 [.inl x, .inl y] 190 [.inl x, .inl y, .inr none, .inr none] mu p := by
  have hO := h.2.2.1
  have slots : ∀ b, b < 13 → (b = 12 ∨ mu 2 b = nI 2) → Pair (d + 4) L 112 [.inl (nI b), .inl y] 190 [.inl (nI b), .inl y, .inr none, .inr none] mu p := by
    intro b hb hk
    have c1 : zsem (d + 3) 10 0 [.inr (some 1), .inl (nI b)] [] (HH L mu p) = some (some (.inl (nI 1)), HH L mu p) := by
      rcases hk with rfl | hk
      · exact z_isBus_r (d + 2) L mu p
      · by_cases hb2 : b < 12
        · rw [z_isBus_n (d + 2) L mu p b hb2, bI_t hk]
        · have : b = 12 := by omega
          subst this; exact z_isBus_r (d + 2) L mu p
    have c2 : zsem (d + 3) 118 0 [.inr (some 105), .inl (nI b)] [] (HH L mu p) = some (some (.inl (nI 1)), HH L mu p) := by
      by_cases hb2 : b < 12
      · rw [m_isBus_n d L mu p b hb2, bI_t]
        rw [h.kind hb2]
        exact hk.resolve_left (by omega)
      · have : b = 12 := by omega
        subst this; exact m_isBus_r d L mu p
    rcases spx y with ⟨s, hs, rfl⟩ | ⟨hy, hy2⟩
    · have hg := @grn_le s
      have hg0 : 0 < grn s := by omega
      -- with a room
      have go : ∀ A E, room (rk mu 1) s b A E → zsem (d + 2) 65 0 [.inr (some 1), .inl (nI b), .inl (nI s)] [] (HH L mu p) = some (some (.inl (nI E)), HH L mu p) → Pair (d + 4) L 112 [.inl (nI b), .inl (nI s)] 190 [.inl (nI b), .inl (nI s), .inr none, .inr none] mu p := by
        intro A E hr e1
        have hkk : b = 12 ∨ ¬rk mu 1 2 b = nI 0 := by
          rcases hk with q | q
          · exact Or.inl q
          · by_cases hb2 : b < 12
            · exact Or.inr (by rw [rk_2 hb2]; exact k2_ne0 q)
            · exact Or.inl (by omega)
        obtain ⟨A', E', rfl, rfl, e3, e4⟩ := room_grn hO hs hr hkk
        have ha := @adr_fac s
        have hAE : A' + E' ≤ 256 := by
          rw [← gle (g := grn s) hg0, Nat.mul_add]
          omega
        obtain ⟨P, l1, l2⟩ := m_looksF d L mu p hO h.B b s (grn s * A') (grn s * E') hb hs (by omega) e3 (by
          rcases hr with q | ⟨q1, q2, q3, q4, q5, q6⟩
          · exact Or.inl q
          · exact Or.inr ⟨q1, q4, q5, q6⟩)
        have hcf := cnt_free hO hs hb hr hAE 12 (by omega)
        have ec : cntP (fun t => tb (P t) = true) 256 = cntP (fun t => tb (frk (rk mu 1) s b (grn s * A') (grn s * E') 12 t) = true) 256 := cnt_cong _ _ 256 (fun t ht => by
          rw [tb_iff, tb_iff, l2 t ht]
          exact Iff.rfl)
        rw [← ec] at hcf
        have hL := z_countL (d + 1) L mu p hO b s hb hs (nI (grn s * E')) 12 0 rfl
        have s0 : nI (grn s * E') - nI (sumC (rk mu 1) s b 0) = nI (grn s * E') := by
          show nI (grn s * E') - nI 0 = _
          rw [nI_sub (by omega), Nat.sub_zero]
        have s1 : nI (grn s * E') - nI (sumC (rk mu 1) s b 12) = nI (grn s * cntP (fun t => tb (P t) = true) 256) := by
          rw [nI_sub (by omega)]
          congr 1
          omega
        rw [s0, s1] at hL
        have hC : zsem (d + 3) 113 0 [.inr (some 1), .inl (nI b), .inl (nI s), .inr none, .inr none] [] (HH L mu p) = some (some (.inl (nI (grn s * cntP (fun t => tb (P t) = true) 256))), HH L mu p) := by
          rw [← hL]
          simp (disch := first | omega | assumption) only [h113_0, h113_1, h113_2, h113_3, h113_6, h113_7, h113_8, h113_12, h113_14, h113_17, h113_18, h113_19, h113_20, h113_22, h113_25, h113_27, h113_30, h113_31, h113_32, h113_33, h113_34, h113_36, h113_39, h113_40, h113_41, h113_44, h113_47, h113_48, Option.bind_some, Option.toList_some, Option.toList_none, List.cons_append, List.nil_append, nI_ltc, nI_lec, nI_eqc, nI_ne5, n5_ne, n5_lt, bI_0, bI_1, nI_add, pk_mul, if_pos, if_neg, ite_not, if_true, if_false, not_true_eq_false, not_false_eq_true, true_and, false_and, and_true, and_false, Nat.reduceAdd, Nat.reduceMul, e1]
        have hM := m_frL d L mu p (nI b) (nI s) P 256 0 rfl
        have hz : cntP (fun t => tb (P t) = true) 0 = 0 := rfl
        rw [hz] at hM
        refine ⟨nI (grn s * cntP (fun t => tb (P t) = true) 256), mu, p, LF mu P, ?_, ?_, Rel_LF h⟩
        · simp (disch := first | omega | assumption) only [h112_0, h112_1, h112_4, h112_5, h112_8, h112_11, h112_12, h112_13, h112_14, h112_17, h112_20, h112_21, h112_24, h112_25, h112_26, h112_29, h112_32, h112_34, Option.bind_some, Option.toList_some, Option.toList_none, List.cons_append, List.nil_append, nI_ltc, nI_lec, nI_eqc, nI_ne5, n5_ne, n5_lt, bI_0, bI_1, nI_add, pk_mul, if_pos, if_neg, ite_not, if_true, if_false, not_true_eq_false, not_false_eq_true, true_and, false_and, and_true, and_false, Nat.reduceAdd, Nat.reduceMul, c1, z_isSpace_n, hC]
        · simp (disch := first | omega | assumption) only [h190_0, h190_1, h190_2, h190_5, h190_8, h190_9, h190_10, h190_11, h190_14, h190_17, h190_19, h190_20, h190_21, h190_22, h190_23, h190_26, h190_27, h190_28, h190_29, h190_33, h190_36, h190_39, h190_40, h190_41, h190_44, h190_46, h190_47, h190_48, h190_49, h190_52, h190_55, h190_56, h190_57, h190_60, h190_61, Option.bind_some, Option.toList_some, Option.toList_none, List.cons_append, List.nil_append, nI_ltc, nI_lec, nI_eqc, nI_ne5, n5_ne, n5_lt, bI_0, bI_1, nI_add, pk_mul, if_pos, if_neg, ite_not, if_true, if_false, not_true_eq_false, not_false_eq_true, true_and, false_and, and_true, and_false, Nat.reduceAdd, Nat.reduceMul, c2, m_isSpace_n, l1, hM]
          rw [h190_31]
          have hcm := Nat.mul_comm (cntP (fun t => tb (P t) = true) 256) (grn s)
          simp (disch := first | omega | assumption) only [h190_0, h190_1, h190_2, h190_5, h190_8, h190_9, h190_10, h190_11, h190_14, h190_17, h190_19, h190_20, h190_21, h190_22, h190_23, h190_26, h190_27, h190_28, h190_29, h190_33, h190_36, h190_39, h190_40, h190_41, h190_44, h190_46, h190_47, h190_48, h190_49, h190_52, h190_55, h190_56, h190_57, h190_60, h190_61, Option.bind_some, Option.toList_some, Option.toList_none, List.cons_append, List.nil_append, nI_ltc, nI_lec, nI_eqc, nI_ne5, n5_ne, n5_lt, bI_0, bI_1, nI_add, pk_mul, if_pos, if_neg, ite_not, if_true, if_false, not_true_eq_false, not_false_eq_true, true_and, false_and, and_true, and_false, Nat.reduceAdd, Nat.reduceMul, m_grain, hcm]
      rcases hk with rfl | hk
      · exact go 0 (adr s) (Or.inl ⟨rfl, rfl, rfl⟩) (z_extentOf_r (d + 1) L mu p s hs)
      · by_cases hb2 : b < 12
        · have e2 := z_extentOf_b (d + 1) L mu p b s hb2 hs hk
          have hkk : rk mu 1 2 b = nI 2 := by rw [rk_2 hb2]; exact hk
          rcases (hO.W hs).2.1 b hb2 with ⟨g1, g2⟩ | ⟨a, n, g1, g2, g3, g4⟩
          · obtain ⟨P, l1, l2⟩ := m_looksZ d L mu p hO h.B b s hb2 hs hkk g1 g2
            have hno : ∀ k, k ≤ 12 → sumC (rk mu 1) s b k = 0 := by
              intro k
              induction k with
              | zero => intro _; rfl
              | succ k ih =>
                intro hk12
                show sumC _ _ _ k + szc _ _ _ k = 0
                rw [ih (by omega), szc_n]
                intro a n hc
                obtain ⟨j, j1, j2, j3, j4⟩ := cp_bus hO hb (by omega) hc
                obtain ⟨-, -, -, a0, n0, r1, r2, r3⟩ := (hO.W hs).2.2.1 j (k % 3) a n j1 (by omega) j4
                rw [j2] at r1
                rcases r1 with ⟨q1, -⟩ | ⟨q1, q2, q3, q4, q5, q6⟩
                · omega
                · rw [g1, n5_ne (by omega)] at q5; exact q5
            rw [rk_11 (by omega)] at g2
            rw [g2] at e2
            have hL := z_countL (d + 1) L mu p hO b s hb hs (nI 0) 12 0 rfl
            rw [hno 12 (by omega), hno 0 (by omega), show nI 0 - nI 0 = nI 0 from by decide] at hL
            have hC : zsem (d + 3) 113 0 [.inr (some 1), .inl (nI b), .inl (nI s), .inr none, .inr none] [] (HH L mu p) = some (some (.inl (nI 0)), HH L mu p) := by
              rw [← hL]
              simp (disch := first | omega | assumption) only [h113_0, h113_1, h113_2, h113_3, h113_6, h113_7, h113_8, h113_12, h113_14, h113_17, h113_18, h113_19, h113_20, h113_22, h113_25, h113_27, h113_30, h113_31, h113_32, h113_33, h113_34, h113_36, h113_39, h113_40, h113_41, h113_44, h113_47, h113_48, Option.bind_some, Option.toList_some, Option.toList_none, List.cons_append, List.nil_append, nI_ltc, nI_lec, nI_eqc, nI_ne5, n5_ne, n5_lt, bI_0, bI_1, nI_add, pk_mul, if_pos, if_neg, ite_not, if_true, if_false, not_true_eq_false, not_false_eq_true, true_and, false_and, and_true, and_false, Nat.reduceAdd, Nat.reduceMul, e2]
            have hM := m_frL d L mu p (nI b) (nI s) P 256 0 rfl
            have hz : cntP (fun t => tb (P t) = true) 0 = 0 := rfl
            have hz2 : cntP (fun t => tb (P t) = true) 256 = 0 := by
              have e : cntP (fun t => tb (P t) = true) 256 = cntP (fun t => False) 256 := cnt_cong _ _ 256 (fun t ht => by
                rw [tb_iff]
                exact ⟨fun q => l2 t ht q, fun q => q.elim⟩)
              rw [e]
              have : ∀ n, cntP (fun t => False) n = 0 := by
                intro n
                induction n with
                | zero => rfl
                | succ n ih => rw [cnt_n (fun t => False) (fun q => q)]; exact ih
              exact this 256
            rw [hz, hz2] at hM
            refine ⟨nI 0, mu, p, LF mu P, ?_, ?_, Rel_LF h⟩
            · simp (disch := first | omega | assumption) only [h112_0, h112_1, h112_4, h112_5, h112_8, h112_11, h112_12, h112_13, h112_14, h112_17, h112_20, h112_21, h112_24, h112_25, h112_26, h112_29, h112_32, h112_34, Option.bind_some, Option.toList_some, Option.toList_none, List.cons_append, List.nil_append, nI_ltc, nI_lec, nI_eqc, nI_ne5, n5_ne, n5_lt, bI_0, bI_1, nI_add, pk_mul, if_pos, if_neg, ite_not, if_true, if_false, not_true_eq_false, not_false_eq_true, true_and, false_and, and_true, and_false, Nat.reduceAdd, Nat.reduceMul, c1, z_isSpace_n, hC]
            · simp (disch := first | omega | assumption) only [h190_0, h190_1, h190_2, h190_5, h190_8, h190_9, h190_10, h190_11, h190_14, h190_17, h190_19, h190_20, h190_21, h190_22, h190_23, h190_26, h190_27, h190_28, h190_29, h190_33, h190_36, h190_39, h190_40, h190_41, h190_44, h190_46, h190_47, h190_48, h190_49, h190_52, h190_55, h190_56, h190_57, h190_60, h190_61, Option.bind_some, Option.toList_some, Option.toList_none, List.cons_append, List.nil_append, nI_ltc, nI_lec, nI_eqc, nI_ne5, n5_ne, n5_lt, bI_0, bI_1, nI_add, pk_mul, if_pos, if_neg, ite_not, if_true, if_false, not_true_eq_false, not_false_eq_true, true_and, false_and, and_true, and_false, Nat.reduceAdd, Nat.reduceMul, c2, m_isSpace_n, l1, hM]
              rw [h190_31]
              simp (disch := first | omega | assumption) only [h190_0, h190_1, h190_2, h190_5, h190_8, h190_9, h190_10, h190_11, h190_14, h190_17, h190_19, h190_20, h190_21, h190_22, h190_23, h190_26, h190_27, h190_28, h190_29, h190_33, h190_36, h190_39, h190_40, h190_41, h190_44, h190_46, h190_47, h190_48, h190_49, h190_52, h190_55, h190_56, h190_57, h190_60, h190_61, Option.bind_some, Option.toList_some, Option.toList_none, List.cons_append, List.nil_append, nI_ltc, nI_lec, nI_eqc, nI_ne5, n5_ne, n5_lt, bI_0, bI_1, nI_add, pk_mul, if_pos, if_neg, ite_not, if_true, if_false, not_true_eq_false, not_false_eq_true, true_and, false_and, and_true, and_false, Nat.reduceAdd, Nat.reduceMul, m_grain, Nat.zero_mul]
          · have hr : room (rk mu 1) s b a n := Or.inr ⟨hb2, g1, g2, hkk, g3, g4⟩
            rw [rk_11 (by omega)] at g4
            rw [g4] at e2
            exact go a n hr e2
        · have : b = 12 := by omega
          subst this
          exact go 0 (adr s) (Or.inl ⟨rfl, rfl, rfl⟩) (z_extentOf_r (d + 1) L mu p s hs)
    · refine ⟨-2, mu, p, mu, ?_, ?_, h⟩
      · simp (disch := first | omega | assumption) only [h112_0, h112_1, h112_4, h112_5, h112_8, h112_11, h112_12, h112_13, h112_14, h112_17, h112_20, h112_21, h112_24, h112_25, h112_26, h112_29, h112_32, h112_34, Option.bind_some, Option.toList_some, Option.toList_none, List.cons_append, List.nil_append, nI_ltc, nI_lec, nI_eqc, nI_ne5, n5_ne, n5_lt, bI_0, bI_1, nI_add, pk_mul, if_pos, if_neg, ite_not, if_true, if_false, not_true_eq_false, not_false_eq_true, true_and, false_and, and_true, and_false, Nat.reduceAdd, Nat.reduceMul, c1, z_isSpace_o]
      · simp (disch := first | omega | assumption) only [h190_0, h190_1, h190_2, h190_5, h190_8, h190_9, h190_10, h190_11, h190_14, h190_17, h190_19, h190_20, h190_21, h190_22, h190_23, h190_26, h190_27, h190_28, h190_29, h190_33, h190_36, h190_39, h190_40, h190_41, h190_44, h190_46, h190_47, h190_48, h190_49, h190_52, h190_55, h190_56, h190_57, h190_60, h190_61, Option.bind_some, Option.toList_some, Option.toList_none, List.cons_append, List.nil_append, nI_ltc, nI_lec, nI_eqc, nI_ne5, n5_ne, n5_lt, bI_0, bI_1, nI_add, pk_mul, if_pos, if_neg, ite_not, if_true, if_false, not_true_eq_false, not_false_eq_true, true_and, false_and, and_true, and_false, Nat.reduceAdd, Nat.reduceMul, c2, m_isSpace_o]
  rcases busx x with ⟨b, hb, rfl⟩ | rfl | ⟨h1, h2⟩
  · by_cases hk : mu 2 b = nI 2
    · exact slots b (by omega) (Or.inr hk)
    · have hk2 := h.kind hb
      refine ⟨-1, mu, p, mu, ?_, ?_, h⟩
      · simp (disch := first | omega | assumption) only [h112_0, h112_1, h112_4, h112_5, h112_8, h112_11, h112_12, h112_13, h112_14, h112_17, h112_20, h112_21, h112_24, h112_25, h112_26, h112_29, h112_32, h112_34, Option.bind_some, Option.toList_some, Option.toList_none, List.cons_append, List.nil_append, nI_ltc, nI_lec, nI_eqc, nI_ne5, n5_ne, n5_lt, bI_0, bI_1, nI_add, pk_mul, if_pos, if_neg, ite_not, if_true, if_false, not_true_eq_false, not_false_eq_true, true_and, false_and, and_true, and_false, Nat.reduceAdd, Nat.reduceMul, z_isBus_n, hk]
      · simp (disch := first | omega | assumption) only [h190_0, h190_1, h190_2, h190_5, h190_8, h190_9, h190_10, h190_11, h190_14, h190_17, h190_19, h190_20, h190_21, h190_22, h190_23, h190_26, h190_27, h190_28, h190_29, h190_33, h190_36, h190_39, h190_40, h190_41, h190_44, h190_46, h190_47, h190_48, h190_49, h190_52, h190_55, h190_56, h190_57, h190_60, h190_61, Option.bind_some, Option.toList_some, Option.toList_none, List.cons_append, List.nil_append, nI_ltc, nI_lec, nI_eqc, nI_ne5, n5_ne, n5_lt, bI_0, bI_1, nI_add, pk_mul, if_pos, if_neg, ite_not, if_true, if_false, not_true_eq_false, not_false_eq_true, true_and, false_and, and_true, and_false, Nat.reduceAdd, Nat.reduceMul, m_isBus_n, hk2, hk]
  · exact slots 12 (by omega) (Or.inl rfl)
  · refine ⟨-1, mu, p, mu, ?_, ?_, h⟩
    · simp (disch := first | omega | assumption) only [h112_0, h112_1, h112_4, h112_5, h112_8, h112_11, h112_12, h112_13, h112_14, h112_17, h112_20, h112_21, h112_24, h112_25, h112_26, h112_29, h112_32, h112_34, Option.bind_some, Option.toList_some, Option.toList_none, List.cons_append, List.nil_append, nI_ltc, nI_lec, nI_eqc, nI_ne5, n5_ne, n5_lt, bI_0, bI_1, nI_add, pk_mul, if_pos, if_neg, ite_not, if_true, if_false, not_true_eq_false, not_false_eq_true, true_and, false_and, and_true, and_false, Nat.reduceAdd, Nat.reduceMul, z_isBus_o]
    · simp (disch := first | omega | assumption) only [h190_0, h190_1, h190_2, h190_5, h190_8, h190_9, h190_10, h190_11, h190_14, h190_17, h190_19, h190_20, h190_21, h190_22, h190_23, h190_26, h190_27, h190_28, h190_29, h190_33, h190_36, h190_39, h190_40, h190_41, h190_44, h190_46, h190_47, h190_48, h190_49, h190_52, h190_55, h190_56, h190_57, h190_60, h190_61, Option.bind_some, Option.toList_some, Option.toList_none, List.cons_append, List.nil_append, nI_ltc, nI_lec, nI_eqc, nI_ne5, n5_ne, n5_lt, bI_0, bI_1, nI_add, pk_mul, if_pos, if_neg, ite_not, if_true, if_false, not_true_eq_false, not_false_eq_true, true_and, false_and, and_true, and_false, Nat.reduceAdd, Nat.reduceMul, m_isBus_o]
end
