/-! fitIn: class -/
theorem cnt_mono (P Q : Nat → Prop) [DecidablePred P] [DecidablePred Q] : ∀ n, (∀ i, i < n → P i → Q i) → cntP P n ≤ cntP Q n := by
  intro n
  induction n with
  | zero => intro _; exact Nat.le_refl _
  | succ n ih =>
    intro h
    have := ih (fun i hi => h i (by omega))
    unfold cntP
    by_cases hp : P n
    · rw [if_pos hp, if_pos (h n (by omega) hp)]
      omega
    · rw [if_neg hp]
      omega
theorem cnt_strict (P Q : Nat → Prop) [DecidablePred P] [DecidablePred Q] : ∀ n j, (∀ i, i < n → P i → Q i) → j < n → Q j → ¬P j → cntP P n < cntP Q n := by
  intro n
  induction n with
  | zero => intro j _ h; omega
  | succ n ih =>
    intro j h hj hq hp
    by_cases e : j = n
    · subst e
      have := cnt_mono P Q j (fun i hi => h i (by omega))
      rw [cnt_n P hp, cnt_s Q hq]
      omega
    · have := ih j (fun i hi => h i (by omega)) (by omega) hq hp
      unfold cntP
      by_cases hp : P n
      · rw [if_pos hp, if_pos (h n (by omega) hp)]
        omega
      · rw [if_neg hp]
        omega
/-- how many parts end beyond x -/
noncomputable def msr (R : RV) (s b x : Nat) : Nat := cntP (fun i => tb (∃ a n, CP R s b i a n ∧ x < a + n) = true) 12
/-- no part covers any of the size addresses from x -/
def FR (R : RV) (s b size x : Nat) : Prop := ∀ i a n, i < 12 → CP R s b i a n → ¬(a < x + size ∧ x < a + n)
theorem ceil_le {x a : Nat} (h0 : 0 < a) : x ≤ (x + a - 1) / a * a ∧ (x + a - 1) / a * a < x + a ∧ (x + a - 1) / a * a % a = 0 := by
  have h1 := Nat.div_add_mod (x + a - 1) a
  have h2 := Nat.mod_lt (x + a - 1) h0
  rw [Nat.mul_comm] at h1
  exact ⟨by omega, by omega, Nat.mul_mod_left _ _⟩
theorem mult_lt {y c a : Nat} (h0 : 0 < a) (hy : y % a = 0) (h : y < (c + a - 1) / a * a) : y < c := by
  have h1 := Nat.div_add_mod y a
  rw [hy, Nat.add_zero] at h1
  have h2 : y / a < (c + a - 1) / a := by
    rw [← h1, Nat.mul_comm] at h
    exact Nat.lt_of_mul_lt_mul_right h
  have h3 : (y / a + 1) * a ≤ (c + a - 1) / a * a := Nat.mul_le_mul_right _ h2
  have h4 := @ceil_le c a h0
  rw [Nat.add_mul, Nat.mul_comm (y / a), h1] at h3
  omega
section
variable (d L : Nat) (mu : RV) (p : Nat → Nat)
theorem z_fitL (h : OK (rk mu 1)) (b s size al kk en : Nat) (hb : b < 13) (hs : s < 2) (hal : al = 2 ^ kk) (hkk : kk ≤ 12) (hsz : size ≤ 1000000) (hsz0 : 0 < size) (hen : en ≤ 10000) : ∀ fuel k x (w : AV), msr (rk mu 1) s b x ≤ fuel → k + msr (rk mu 1) s b x ≤ 12 → x % al = 0 → x < 20000 →
    ∃ v, zsem (d + 3) 66 31 [.inr (.inl (some 1)), .inl (nI b), .inl (nI s), .inl (nI size), .inl (nI al), .inl (nI en), .inl (nI x), .inl (nI k), w] [] (HH L mu p) = some (some (.inl v), HH L mu p) ∧
      ((∃ y, y % al = 0 ∧ x ≤ y ∧ y + size ≤ en ∧ FR (rk mu 1) s b size y ∧ (∀ y', y' % al = 0 → x ≤ y' → y' < y → ¬FR (rk mu 1) s b size y') ∧ v = nI y) ∨
       ((∀ y, y % al = 0 → x ≤ y → y + size ≤ en → ¬FR (rk mu 1) s b size y) ∧ v = -5)) := by
  have h0 : 0 < al := by rw [hal]; exact Nat.pow_pos (by omega)
  have hal2 : al ≤ 4096 := by rw [hal]; exact Nat.pow_le_pow_right (n := 2) (by omega) hkk
  intro fuel
  induction fuel with
  | zero =>
    intro k x w hf hk hx hx2
    by_cases hfit : x + size ≤ en
    · rcases z_eocL d L mu p h b s x (x + size) hb hs (by omega) (by omega) 12 0 (.inr (.inl none)) (.inr (.inl none)) rfl with ⟨i, a, n, hi, hc, g1, g2, e⟩ | ⟨hno, e⟩
      · exfalso
        have : 0 < msr (rk mu 1) s b x := by
          have := cnt_strict (fun i => False) (fun i => tb (∃ a n, CP (rk mu 1) s b i a n ∧ x < a + n) = true) 12 i (fun _ _ q => q.elim) hi ((tb_iff _).mpr ⟨a, n, hc, g2⟩) id
          unfold msr
          omega
        omega
      · have e0 : zsem (d + 2) 69 0 [.inr (.inl (some 1)), .inl (nI b), .inl (nI s), .inl (nI x), .inl (nI (x + size)), .inr (.inl none), .inr (.inl none), .inr (.inl none)] [] (HH L mu p) = some (some (.inl (-5)), HH L mu p) := by
          rw [← e]
          simp (disch := first | omega | assumption) only [h69_0, h69_1, h69_5, h69_7, h69_10, h69_11, h69_12, h69_13, h69_15, h69_18, h69_20, h69_22, h69_23, h69_24, h69_25, h69_27, h69_30, h69_31, h69_33, h69_35, h69_37, h69_40, h69_42, h69_44, h69_47, h69_49, h69_50, h69_53, h69_55, h69_56, h69_59, h69_62, h69_64, Option.bind_some, Option.toList_some, Option.toList_none, List.cons_append, List.nil_append, nI_ltc, nI_lec, nI_eqc, nI_ne5, n5_ne, n5_lt, bI_0, bI_1, nI_add, pk_mul, if_pos, if_neg, ite_not, if_true, if_false, not_true_eq_false, not_false_eq_true, true_and, false_and, and_true, and_false, Nat.reduceAdd, Nat.reduceMul]
        refine ⟨nI x, ?_, Or.inl ⟨x, hx, Nat.le_refl _, hfit, fun i a n hi hc => hno i a n (by omega) hi hc, fun y' _ h1 h2 => by omega, rfl⟩⟩
        rw [h66_31]
        simp (disch := first | omega | assumption) only [h66_0, h66_1, h66_2, h66_3, h66_6, h66_7, h66_8, h66_9, h66_12, h66_13, h66_15, h66_16, h66_17, h66_18, h66_21, h66_23, h66_26, h66_28, h66_29, h66_33, h66_35, h66_38, h66_40, h66_41, h66_42, h66_44, h66_47, h66_48, h66_49, h66_50, h66_52, h66_54, h66_55, h66_56, h66_59, h66_61, h66_63, h66_65, h66_68, h66_70, h66_71, h66_73, h66_75, h66_78, h66_80, h66_83, h66_86, h66_88, Option.bind_some, Option.toList_some, Option.toList_none, List.cons_append, List.nil_append, nI_ltc, nI_lec, nI_eqc, nI_ne5, n5_ne, n5_lt, bI_0, bI_1, nI_add, pk_mul, if_pos, if_neg, ite_not, if_true, if_false, not_true_eq_false, not_false_eq_true, true_and, false_and, and_true, and_false, Nat.reduceAdd, Nat.reduceMul, e0]
    · refine ⟨-5, ?_, Or.inr ⟨fun y _ h1 h2 => by omega, rfl⟩⟩
      rw [h66_31]
      simp (disch := first | omega | assumption) only [h66_0, h66_1, h66_2, h66_3, h66_6, h66_7, h66_8, h66_9, h66_12, h66_13, h66_15, h66_16, h66_17, h66_18, h66_21, h66_23, h66_26, h66_28, h66_29, h66_33, h66_35, h66_38, h66_40, h66_41, h66_42, h66_44, h66_47, h66_48, h66_49, h66_50, h66_52, h66_54, h66_55, h66_56, h66_59, h66_61, h66_63, h66_65, h66_68, h66_70, h66_71, h66_73, h66_75, h66_78, h66_80, h66_83, h66_86, h66_88, Option.bind_some, Option.toList_some, Option.toList_none, List.cons_append, List.nil_append, nI_ltc, nI_lec, nI_eqc, nI_ne5, n5_ne, n5_lt, bI_0, bI_1, nI_add, pk_mul, if_pos, if_neg, ite_not, if_true, if_false, not_true_eq_false, not_false_eq_true, true_and, false_and, and_true, and_false, Nat.reduceAdd, Nat.reduceMul]
  | succ fuel ih =>
    intro k x w hf hk hx hx2
    by_cases hfit : x + size ≤ en
    · rcases z_eocL d L mu p h b s x (x + size) hb hs (by omega) (by omega) 12 0 (.inr (.inl none)) (.inr (.inl none)) rfl with ⟨i, a, n, hi, hc, g1, g2, e⟩ | ⟨hno, e⟩
      · have e0 : zsem (d + 2) 69 0 [.inr (.inl (some 1)), .inl (nI b), .inl (nI s), .inl (nI x), .inl (nI (x + size)), .inr (.inl none), .inr (.inl none), .inr (.inl none)] [] (HH L mu p) = some (some (.inl (nI (a + n))), HH L mu p) := by
          rw [← e]
          simp (disch := first | omega | assumption) only [h69_0, h69_1, h69_5, h69_7, h69_10, h69_11, h69_12, h69_13, h69_15, h69_18, h69_20, h69_22, h69_23, h69_24, h69_25, h69_27, h69_30, h69_31, h69_33, h69_35, h69_37, h69_40, h69_42, h69_44, h69_47, h69_49, h69_50, h69_53, h69_55, h69_56, h69_59, h69_62, h69_64, Option.bind_some, Option.toList_some, Option.toList_none, List.cons_append, List.nil_append, nI_ltc, nI_lec, nI_eqc, nI_ne5, n5_ne, n5_lt, bI_0, bI_1, nI_add, pk_mul, if_pos, if_neg, ite_not, if_true, if_false, not_true_eq_false, not_false_eq_true, true_and, false_and, and_true, and_false, Nat.reduceAdd, Nat.reduceMul]
        have han : a < 4096 ∧ n ≤ 4096 := by
          obtain ⟨j, -, -, c1, c2, -⟩ := hc
          exact ⟨c1, c2⟩
        have hup := up_ok (x := a + n) (a := al) kk hal (by omega) (by omega)
        obtain ⟨u1, u2, u3⟩ := @ceil_le (a + n) al h0
        have hlt : msr (rk mu 1) s b ((a + n + al - 1) / al * al) < msr (rk mu 1) s b x := by
          refine cnt_strict _ _ 12 i (fun t ht q => ?_) hi ((tb_iff _).mpr ⟨a, n, hc, g2⟩) (fun q => ?_)
          · obtain ⟨a', n', q1, q2⟩ := (tb_iff _).mp q
            exact (tb_iff _).mpr ⟨a', n', q1, by omega⟩
          · obtain ⟨a', n', q1, q2⟩ := (tb_iff _).mp q
            obtain ⟨j, g1, g2, c1, c2, c3⟩ := hc
            obtain ⟨j', g1', g2', c1', c2', c3'⟩ := q1
            rw [g2, nI_eqc (by omega) (by omega)] at g2'
            subst g2'
            have : a' + n' = a + n := by
              rcases c3 with ⟨x1, x2, x3, x4⟩ | ⟨x1, x2, x3, x4⟩ <;> rcases c3' with ⟨y1, y2, y3, y4⟩ | ⟨y1, y2, y3, y4⟩
              · rw [x3, nI_eqc (by omega) (by omega)] at y3
                rw [x4, nI_eqc (by omega) (by omega)] at y4
                omega
              · rw [x1] at y2; exact absurd y2 (by decide)
              · rw [x2] at y1; exact absurd y1 (by decide)
              · rw [x3, nI_eqc (by omega) (by omega)] at y3
                rw [x4, nI_eqc (by omega) (by omega)] at y4
                omega
            omega
        obtain ⟨v, e1, e2⟩ := ih (k + 1) ((a + n + al - 1) / al * al) (.inl (nI (a + n))) (by omega) (by omega) u3 (by omega)
        have skip : ∀ y, y % al = 0 → x ≤ y → y < (a + n + al - 1) / al * al → ¬FR (rk mu 1) s b size y := fun y hy h1 h2 hF =>
          hF i a n hi hc ⟨by omega, mult_lt h0 hy h2⟩
        refine ⟨v, ?_, ?_⟩
        · rw [← e1, h66_31]
          simp (disch := first | omega | assumption) only [h66_0, h66_1, h66_2, h66_3, h66_6, h66_7, h66_8, h66_9, h66_12, h66_13, h66_15, h66_16, h66_17, h66_18, h66_21, h66_23, h66_26, h66_28, h66_29, h66_33, h66_35, h66_38, h66_40, h66_41, h66_42, h66_44, h66_47, h66_48, h66_49, h66_50, h66_52, h66_54, h66_55, h66_56, h66_59, h66_61, h66_63, h66_65, h66_68, h66_70, h66_71, h66_73, h66_75, h66_78, h66_80, h66_83, h66_86, h66_88, Option.bind_some, Option.toList_some, Option.toList_none, List.cons_append, List.nil_append, nI_ltc, nI_lec, nI_eqc, nI_ne5, n5_ne, n5_lt, bI_0, bI_1, nI_add, pk_mul, if_pos, if_neg, ite_not, if_true, if_false, not_true_eq_false, not_false_eq_true, true_and, false_and, and_true, and_false, Nat.reduceAdd, Nat.reduceMul, e0, z_roundUp, hup]
        · rcases e2 with ⟨y, y1, y2, y3, y4, y5, y6⟩ | ⟨y1, y2⟩
          · refine Or.inl ⟨y, y1, by omega, y3, y4, fun y' q1 q2 q3 => ?_, y6⟩
            by_cases hy' : y' < (a + n + al - 1) / al * al
            · exact skip y' q1 q2 hy'
            · exact y5 y' q1 (by omega) q3
          · refine Or.inr ⟨fun y q1 q2 q3 => ?_, y2⟩
            by_cases hy' : y < (a + n + al - 1) / al * al
            · exact skip y q1 q2 hy'
            · exact y1 y q1 (by omega) q3
      · have e0 : zsem (d + 2) 69 0 [.inr (.inl (some 1)), .inl (nI b), .inl (nI s), .inl (nI x), .inl (nI (x + size)), .inr (.inl none), .inr (.inl none), .inr (.inl none)] [] (HH L mu p) = some (some (.inl (-5)), HH L mu p) := by
          rw [← e]
          simp (disch := first | omega | assumption) only [h69_0, h69_1, h69_5, h69_7, h69_10, h69_11, h69_12, h69_13, h69_15, h69_18, h69_20, h69_22, h69_23, h69_24, h69_25, h69_27, h69_30, h69_31, h69_33, h69_35, h69_37, h69_40, h69_42, h69_44, h69_47, h69_49, h69_50, h69_53, h69_55, h69_56, h69_59, h69_62, h69_64, Option.bind_some, Option.toList_some, Option.toList_none, List.cons_append, List.nil_append, nI_ltc, nI_lec, nI_eqc, nI_ne5, n5_ne, n5_lt, bI_0, bI_1, nI_add, pk_mul, if_pos, if_neg, ite_not, if_true, if_false, not_true_eq_false, not_false_eq_true, true_and, false_and, and_true, and_false, Nat.reduceAdd, Nat.reduceMul]
        refine ⟨nI x, ?_, Or.inl ⟨x, hx, Nat.le_refl _, hfit, fun i a n hi hc => hno i a n (by omega) hi hc, fun y' _ h1 h2 => by omega, rfl⟩⟩
        rw [h66_31]
        simp (disch := first | omega | assumption) only [h66_0, h66_1, h66_2, h66_3, h66_6, h66_7, h66_8, h66_9, h66_12, h66_13, h66_15, h66_16, h66_17, h66_18, h66_21, h66_23, h66_26, h66_28, h66_29, h66_33, h66_35, h66_38, h66_40, h66_41, h66_42, h66_44, h66_47, h66_48, h66_49, h66_50, h66_52, h66_54, h66_55, h66_56, h66_59, h66_61, h66_63, h66_65, h66_68, h66_70, h66_71, h66_73, h66_75, h66_78, h66_80, h66_83, h66_86, h66_88, Option.bind_some, Option.toList_some, Option.toList_none, List.cons_append, List.nil_append, nI_ltc, nI_lec, nI_eqc, nI_ne5, n5_ne, n5_lt, bI_0, bI_1, nI_add, pk_mul, if_pos, if_neg, ite_not, if_true, if_false, not_true_eq_false, not_false_eq_true, true_and, false_and, and_true, and_false, Nat.reduceAdd, Nat.reduceMul, e0]
    · refine ⟨-5, ?_, Or.inr ⟨fun y _ h1 h2 => by omega, rfl⟩⟩
      rw [h66_31]
      simp (disch := first | omega | assumption) only [h66_0, h66_1, h66_2, h66_3, h66_6, h66_7, h66_8, h66_9, h66_12, h66_13, h66_15, h66_16, h66_17, h66_18, h66_21, h66_23, h66_26, h66_28, h66_29, h66_33, h66_35, h66_38, h66_40, h66_41, h66_42, h66_44, h66_47, h66_48, h66_49, h66_50, h66_52, h66_54, h66_55, h66_56, h66_59, h66_61, h66_63, h66_65, h66_68, h66_70, h66_71, h66_73, h66_75, h66_78, h66_80, h66_83, h66_86, h66_88, Option.bind_some, Option.toList_some, Option.toList_none, List.cons_append, List.nil_append, nI_ltc, nI_lec, nI_eqc, nI_ne5, n5_ne, n5_lt, bI_0, bI_1, nI_add, pk_mul, if_pos, if_neg, ite_not, if_true, if_false, not_true_eq_false, not_false_eq_true, true_and, false_and, and_true, and_false, Nat.reduceAdd, Nat.reduceMul]
end
