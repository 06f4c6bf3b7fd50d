/-! placing: class, one bus -/
def stK (st : Nat → Nat → Option Nat) (f : Nat → Option Nat) (b k : Nat) : Nat → Nat → Option Nat := fun b' k' => if b' = b ∧ k' < k then f k' else st b' k'
theorem stK_0 (st : Nat → Nat → Option Nat) (f : Nat → Option Nat) (b : Nat) : stK st f b 0 = st := by
  funext b' k'
  unfold stK
  rw [if_neg (by omega)]
theorem stK_n {st : Nat → Nat → Option Nat} {f : Nat → Option Nat} {b k : Nat} (h : f k = st b k) : stK st f b (k + 1) = stK st f b k := by
  funext b' k'
  unfold stK
  by_cases h1 : b' = b ∧ k' < k
  · rw [if_pos h1, if_pos (by omega)]
  · rw [if_neg h1]
    by_cases h2 : b' = b ∧ k' = k
    · obtain ⟨rfl, rfl⟩ := h2
      rw [if_pos ⟨rfl, Nat.lt_succ_self _⟩, h]
    · rw [if_neg (by omega)]
theorem stK_s {st : Nat → Nat → Option Nat} {f : Nat → Option Nat} {b k z : Nat} (h : f k = some z) : stK st f b (k + 1) = st1 (stK st f b k) b k z := by
  funext b' k'
  unfold st1
  by_cases h2 : b' = b ∧ k' = k
  · obtain ⟨rfl, rfl⟩ := h2
    rw [if_pos ⟨rfl, rfl⟩]
    unfold stK
    rw [if_pos ⟨rfl, Nat.lt_succ_self _⟩, h]
  · rw [if_neg h2]
    unfold stK
    by_cases h1 : b' = b ∧ k' < k
    · rw [if_pos h1, if_pos (by omega)]
    · rw [if_neg h1, if_neg (by omega)]
theorem stK_i {st : Nat → Nat → Option Nat} {f : Nat → Option Nat} {b k : Nat} : stK st f b k b k = st b k := by
  unfold stK
  rw [if_neg (by omega)]
/-- the queue -/
def QH (Q : List Nat) (mu : RV) : Prop := mu 81 6 = nI Q.length ∧ ∀ i x, Q[i]? = some x → mu 87 i = nI x
def QN (Q : List Nat) : Prop := ndp Q ∧ ∀ y, y ∈ Q → y < 13
theorem ndp_snoc {x : Nat} : ∀ l : List Nat, ¬x ∈ l → ndp l → ndp (l ++ [x]) := by
  intro l
  induction l with
  | nil => intro _ _; exact ⟨fun h => (by cases h), trivial⟩
  | cons y l ih =>
    intro h ⟨h1, h2⟩
    refine ⟨fun q => ?_, ih (fun q => h (List.mem_cons_of_mem _ q)) h2⟩
    rcases List.mem_append.mp q with q | q
    · exact h1 q
    · have : y = x := by simpa using q
      exact h (by rw [this]; exact List.mem_cons_self ..)
theorem ndp_len : ∀ l : List Nat, ndp l → (∀ y, y ∈ l → y < 13) → l.length ≤ cntP (fun i => tb (i ∈ l) = true) 13 := by
  intro l
  induction l with
  | nil => intro _ _; exact Nat.zero_le _
  | cons x l ih =>
    intro ⟨h1, h2⟩ h3
    have := ih h2 (fun y hy => h3 y (List.mem_cons_of_mem _ hy))
    have e := cnt_split (fun i => tb (i ∈ x :: l) = true) (fun i => tb (i ∈ l) = true) (fun i => i = x) (fun i => by
      rw [tb_iff, tb_iff, List.mem_cons]
      refine ⟨⟨fun q => q.symm, fun q => q.symm⟩, ?_⟩
      rintro ⟨q1, rfl⟩
      exact h1 q1) 13
    rw [cnt_eq1 x 13 (h3 x (List.mem_cons_self ..))] at e
    rw [List.length_cons, e]
    omega
theorem QN_len {Q : List Nat} (h : QN Q) : Q.length ≤ 13 := Nat.le_trans (ndp_len Q h.1 h.2) (cnt_le _ 13)
theorem nI_opt {o : Option Nat} : (o = none ∧ ovr o (-5) = -5) ∨ ∃ z, o = some z ∧ ovr o (-5) = nI z := by
  cases o with
  | none => exact Or.inl ⟨rfl, rfl⟩
  | some z => exact Or.inr ⟨z, rfl, rfl⟩
section
variable (d L : Nat) (p : Nat → Nat)
/-- rows that placing leaves alone -/
def FrP (mu mu' : RV) : Prop := ∀ r, ¬r = 8 → ¬r = 10 → ¬r = 11 → ¬r = 81 → (r < 84 ∨ 87 < r) → mu' r = mu r
theorem FrP.tr {mu mu1 mu2 : RV} (h : FrP mu mu1) (h' : FrP mu1 mu2) : FrP mu mu2 := fun r a b c e g => by rw [h' r a b c e g, h r a b c e g]
theorem FrP.rfl' (mu : RV) : FrP mu mu := fun _ _ _ _ _ _ => rfl
/-- the loop over the parts of bus b -/
theorem z_plI {R : RV} (hO : OK R) {s b : Nat} (hs : s < 2) (hb : b < 13) (f : Nat → Option Nat) (hf : ∀ k z, f k = some z → SZ R s b k ≠ 0 ∧ k < 12 ∧ z < 4096) (st : Nat → Nat → Option Nat) (hst : ∀ k, st b k = none) (Q0 : List Nat) (hQ0 : ∀ y, y ∈ Q0 → ¬(y < 12 ∧ R 2 y = nI 2 ∧ bn R y = b)) : ∀ m k mu c Q (w6 : AV), k + m = 12 → rk mu 1 = ovl R s (stK st f b k) → c + TC R st = TC R (stK st f b k) → QH Q mu → QN Q → (∀ j, j ∈ Q ↔ j ∈ Q0 ∨ (j < 12 ∧ R 2 j = nI 2 ∧ bn R j = b ∧ sn R j * 3 < k ∧ f (sn R j * 3) ≠ none)) → (∀ i, i < 12 → mu 84 i = nI (SZ R s b i) ∧ mu 86 i = ovr (f i) (-5)) →
    ∃ mu' c' Q', zsem (d + 2) 103 29 [.inr (.inl (some 81)), .inr (.inl (some 1)), .inl (nI b), .inl (nI s), .inl (nI c), .inl (nI k), w6] [] (HH L mu p) = some (some (.inl (nI c')), HH L mu' p) ∧ rk mu' 1 = ovl R s (stK st f b 12) ∧ c' + TC R st = TC R (stK st f b 12) ∧ QH Q' mu' ∧ QN Q' ∧ (∀ j, j ∈ Q' ↔ j ∈ Q0 ∨ (j < 12 ∧ R 2 j = nI 2 ∧ bn R j = b ∧ sn R j * 3 < 12 ∧ f (sn R j * 3) ≠ none)) ∧ FrP mu mu' ∧ (∀ i x : Nat, Q[i]? = some x → Q'[i]? = some x) := by
  intro m
  induction m with
  | zero =>
    intro k mu c Q w6 hk hR hc hQ hN hM hI
    have : k = 12 := by omega
    subst this
    refine ⟨mu, c, Q, ?_, hR, hc, hQ, hN, hM, FrP.rfl' mu, fun i x h => h⟩
    rw [h103_29]
    simp (disch := first | omega | assumption) only [h103_0, h103_1, h103_2, h103_3, h103_4, h103_7, h103_8, h103_9, h103_10, h103_11, h103_12, h103_15, h103_16, h103_19, h103_22, h103_23, h103_24, h103_26, h103_27, h103_31, h103_33, h103_36, h103_37, h103_38, h103_40, h103_41, h103_42, h103_45, h103_47, h103_48, h103_51, h103_53, h103_54, h103_56, h103_59, h103_60, h103_62, h103_65, h103_68, h103_69, h103_72, h103_74, h103_76, h103_77, h103_78, h103_81, h103_82, h103_85, h103_87, h103_88, h103_89, h103_92, h103_93, h103_96, h103_98, h103_99, h103_101, h103_104, h103_105, h103_107, h103_110, h103_113, h103_114, h103_117, h103_119, h103_122, h103_123, h103_125, h103_126, h103_127, h103_130, h103_132, h103_133, h103_134, h103_137, h103_139, h103_140, h103_143, h103_144, h103_147, h103_148, h103_151, h103_153, h103_154, h103_155, h103_156, h103_159, h103_160, h103_161, h103_164, h103_167, h103_170, h103_172, Option.bind_some, Option.toList_some, Option.toList_none, List.cons_append, List.nil_append, nI_ltc, nI_lec, nI_eqc, nI_ne5, n5_ne, n5_lt, bI_0, bI_1, nI_add, pk_mul, if_pos, if_neg, ite_not, if_true, if_false, not_true_eq_false, not_false_eq_true, true_and, false_and, and_true, and_false, Nat.reduceAdd, Nat.reduceMul]
  | succ m ih =>
    intro k mu c Q w6 hk hR hc hQ hN hM hI
    have hk12 : k < 12 := by omega
    obtain ⟨i1, i2⟩ := hI k hk12
    have q1 : nI k / nI 3 = nI (k / 3) := by rw [nI_div (by omega) (by omega) (by omega)]
    have q2 : nI k - nI (k / 3 * 3) = nI (k % 3) := by rw [nI_sub (by omega)]; congr 1; omega
    have q3 := n3_0
    have hRow : RowL R mu := RowL_of (by rw [hR]; exact ovl_L R s _)
    have m5 : mu 5 (b * 4 + k / 3) = R 5 (b * 4 + k / 3) := hRow.1 _ (by omega)
    have hpsz : SZ R s b k ≤ 894208 := (part_ok hO hs hb).2.2 k
    -- a part that is passed over
    have pass : f k = none → (∃ w6', zsem (d + 2) 103 29 [.inr (.inl (some 81)), .inr (.inl (some 1)), .inl (nI b), .inl (nI s), .inl (nI c), .inl (nI k), w6] [] (HH L mu p) = zsem (d + 2) 103 29 [.inr (.inl (some 81)), .inr (.inl (some 1)), .inl (nI b), .inl (nI s), .inl (nI c), .inl (nI (k + 1)), w6'] [] (HH L mu p)) → ∃ mu' c' Q', zsem (d + 2) 103 29 [.inr (.inl (some 81)), .inr (.inl (some 1)), .inl (nI b), .inl (nI s), .inl (nI c), .inl (nI k), w6] [] (HH L mu p) = some (some (.inl (nI c')), HH L mu' p) ∧ rk mu' 1 = ovl R s (stK st f b 12) ∧ c' + TC R st = TC R (stK st f b 12) ∧ QH Q' mu' ∧ QN Q' ∧ (∀ j, j ∈ Q' ↔ j ∈ Q0 ∨ (j < 12 ∧ R 2 j = nI 2 ∧ bn R j = b ∧ sn R j * 3 < 12 ∧ f (sn R j * 3) ≠ none)) ∧ FrP mu mu' ∧ (∀ i x : Nat, Q[i]? = some x → Q'[i]? = some x) := by
      rintro hfk ⟨w6', e⟩
      have es : stK st f b (k + 1) = stK st f b k := stK_n (by rw [hfk, hst])
      obtain ⟨mu', c', Q', e1, e2⟩ := ih (k + 1) mu c Q w6' (by omega) (by rw [es]; exact hR) (by rw [es]; exact hc) hQ hN (fun j => by
        rw [hM j]
        refine or_congr Iff.rfl ⟨fun ⟨a1, a2, a3, a4, a5⟩ => ⟨a1, a2, a3, by omega, a5⟩, fun ⟨a1, a2, a3, a4, a5⟩ => ⟨a1, a2, a3, ?_, a5⟩⟩
        by_cases q : sn R j * 3 = k
        · rw [q, hfk] at a5; exact absurd rfl a5
        · omega) hI
      exact ⟨mu', c', Q', e.trans e1, e2⟩
    rcases slot_of hO.T hb hk12 with hv | ⟨j, hj, hv, hbj, h1 | h1⟩
    · rw [hv] at m5
      have hfk : f k = none := by
        rcases nI_opt (o := f k) with ⟨h, -⟩ | ⟨z, h, -⟩
        · exact h
        · exact absurd (psz_n hv) (hf k z h).1
      rw [hfk] at i2
      have i2 : mu 86 k = -5 := i2
      refine pass hfk ⟨.inl (-5), ?_⟩
      rw [h103_29]
      simp (disch := first | omega | assumption) only [h103_0, h103_1, h103_2, h103_3, h103_4, h103_7, h103_8, h103_9, h103_10, h103_11, h103_12, h103_15, h103_16, h103_19, h103_22, h103_23, h103_24, h103_26, h103_27, h103_31, h103_33, h103_36, h103_37, h103_38, h103_40, h103_41, h103_42, h103_45, h103_47, h103_48, h103_51, h103_53, h103_54, h103_56, h103_59, h103_60, h103_62, h103_65, h103_68, h103_69, h103_72, h103_74, h103_76, h103_77, h103_78, h103_81, h103_82, h103_85, h103_87, h103_88, h103_89, h103_92, h103_93, h103_96, h103_98, h103_99, h103_101, h103_104, h103_105, h103_107, h103_110, h103_113, h103_114, h103_117, h103_119, h103_122, h103_123, h103_125, h103_126, h103_127, h103_130, h103_132, h103_133, h103_134, h103_137, h103_139, h103_140, h103_143, h103_144, h103_147, h103_148, h103_151, h103_153, h103_154, h103_155, h103_156, h103_159, h103_160, h103_161, h103_164, h103_167, h103_170, h103_172, Option.bind_some, Option.toList_some, Option.toList_none, List.cons_append, List.nil_append, nI_ltc, nI_lec, nI_eqc, nI_ne5, n5_ne, n5_lt, bI_0, bI_1, nI_add, pk_mul, if_pos, if_neg, ite_not, if_true, if_false, not_true_eq_false, not_false_eq_true, true_and, false_and, and_true, and_false, Nat.reduceAdd, Nat.reduceMul, q1, q3, z_deviceAt_n, m5, i2]
    · rw [hv] at m5
      have m2 : mu 2 j = nI 1 := by rw [(hRow.2.1 j hj).1]; exact h1
      rcases nI_opt (o := f k) with ⟨hfk, ho⟩ | ⟨z, hfk, ho⟩
      · rw [ho] at i2
        refine pass hfk ⟨.inl (nI j), ?_⟩
        rw [h103_29]
        simp (disch := first | omega | assumption) only [h103_0, h103_1, h103_2, h103_3, h103_4, h103_7, h103_8, h103_9, h103_10, h103_11, h103_12, h103_15, h103_16, h103_19, h103_22, h103_23, h103_24, h103_26, h103_27, h103_31, h103_33, h103_36, h103_37, h103_38, h103_40, h103_41, h103_42, h103_45, h103_47, h103_48, h103_51, h103_53, h103_54, h103_56, h103_59, h103_60, h103_62, h103_65, h103_68, h103_69, h103_72, h103_74, h103_76, h103_77, h103_78, h103_81, h103_82, h103_85, h103_87, h103_88, h103_89, h103_92, h103_93, h103_96, h103_98, h103_99, h103_101, h103_104, h103_105, h103_107, h103_110, h103_113, h103_114, h103_117, h103_119, h103_122, h103_123, h103_125, h103_126, h103_127, h103_130, h103_132, h103_133, h103_134, h103_137, h103_139, h103_140, h103_143, h103_144, h103_147, h103_148, h103_151, h103_153, h103_154, h103_155, h103_156, h103_159, h103_160, h103_161, h103_164, h103_167, h103_170, h103_172, Option.bind_some, Option.toList_some, Option.toList_none, List.cons_append, List.nil_append, nI_ltc, nI_lec, nI_eqc, nI_ne5, n5_ne, n5_lt, bI_0, bI_1, nI_add, pk_mul, if_pos, if_neg, ite_not, if_true, if_false, not_true_eq_false, not_false_eq_true, true_and, false_and, and_true, and_false, Nat.reduceAdd, Nat.reduceMul, q1, q3, z_deviceAt_n, m5, i2]
      · rw [ho] at i2
        obtain ⟨g1, g2, g3⟩ := hf k z hfk
        have es : stK st f b (k + 1) = st1 (stK st f b k) b k z := stK_s hfk
        have hO8 : rk (u2 mu 8 (j * 3 + k % 3) (nI z)) 1 = ovl R s (stK st f b (k + 1)) := by
          rw [rk_u (by omega) (show j * 3 + k % 3 < 36 by omega), hR, es, ovl_c hO.T hb hk12 hj hv h1]
        have hT8 : c + 1 + TC R st = TC R (stK st f b (k + 1)) := by
          rw [es, TC_c hO.T hb hk12 hj hv h1 (by rw [stK_i, hst])]
          omega
        have ok5 : ¬nI z = -5 := fun q => by rw [nI_ne5 (by omega)] at q; exact q
        obtain ⟨mu', c', Q', e1, e2, e3, e4, e5, e6, e7, e8⟩ := ih (k + 1) (u2 mu 8 (j * 3 + k % 3) (nI z)) (c + 1) Q (.inl (nI j)) (by omega) hO8 hT8 ⟨by rw [u2_row (by omega)]; exact hQ.1, fun i x h => by rw [u2_row (by omega)]; exact hQ.2 i x h⟩ hN (fun j' => by
          rw [hM j']
          refine or_congr Iff.rfl ⟨fun ⟨a1, a2, a3, a4, a5⟩ => ⟨a1, a2, a3, by omega, a5⟩, fun ⟨a1, a2, a3, a4, a5⟩ => ⟨a1, a2, a3, ?_, a5⟩⟩
          by_cases q : sn R j' * 3 = k
          · exfalso
            have := slot_dev hO.T hj a1 (k2_ne0 a2) hv a3 (by omega)
            rw [this, h1] at a2
            exact absurd a2 (by decide)
          · omega) (fun i hi => by rw [u2_row (by omega), u2_row (by omega)]; exact hI i hi)
        refine ⟨mu', c', Q', ?_, e2, e3, e4, e5, e6, FrP.tr (fun r a1 a2 a3 a4 a5 => u2_row a1) e7, e8⟩
        rw [← e1, h103_29]
        simp (disch := first | omega | assumption) only [h103_0, h103_1, h103_2, h103_3, h103_4, h103_7, h103_8, h103_9, h103_10, h103_11, h103_12, h103_15, h103_16, h103_19, h103_22, h103_23, h103_24, h103_26, h103_27, h103_31, h103_33, h103_36, h103_37, h103_38, h103_40, h103_41, h103_42, h103_45, h103_47, h103_48, h103_51, h103_53, h103_54, h103_56, h103_59, h103_60, h103_62, h103_65, h103_68, h103_69, h103_72, h103_74, h103_76, h103_77, h103_78, h103_81, h103_82, h103_85, h103_87, h103_88, h103_89, h103_92, h103_93, h103_96, h103_98, h103_99, h103_101, h103_104, h103_105, h103_107, h103_110, h103_113, h103_114, h103_117, h103_119, h103_122, h103_123, h103_125, h103_126, h103_127, h103_130, h103_132, h103_133, h103_134, h103_137, h103_139, h103_140, h103_143, h103_144, h103_147, h103_148, h103_151, h103_153, h103_154, h103_155, h103_156, h103_159, h103_160, h103_161, h103_164, h103_167, h103_170, h103_172, Option.bind_some, Option.toList_some, Option.toList_none, List.cons_append, List.nil_append, nI_ltc, nI_lec, nI_eqc, nI_ne5, n5_ne, n5_lt, bI_0, bI_1, nI_add, pk_mul, if_pos, if_neg, ite_not, if_true, if_false, not_true_eq_false, not_false_eq_true, true_and, false_and, and_true, and_false, Nat.reduceAdd, Nat.reduceMul, q1, q2, q3, z_deviceAt_n, m5, i2, ok5, z_isCard_n, z_isBridge_n, m2, z_regionIndex, u2_oa]
    · rw [hv] at m5
      have m2 : mu 2 j = nI 2 := by rw [(hRow.2.1 j hj).1]; exact h1
      obtain ⟨sb1, sb2, sb3⟩ := slot_bk hO.T hb (by omega) hj hv
      rcases nI_opt (o := f k) with ⟨hfk, ho⟩ | ⟨z, hfk, ho⟩
      · rw [ho] at i2
        refine pass hfk ⟨.inl (nI j), ?_⟩
        rw [h103_29]
        simp (disch := first | omega | assumption) only [h103_0, h103_1, h103_2, h103_3, h103_4, h103_7, h103_8, h103_9, h103_10, h103_11, h103_12, h103_15, h103_16, h103_19, h103_22, h103_23, h103_24, h103_26, h103_27, h103_31, h103_33, h103_36, h103_37, h103_38, h103_40, h103_41, h103_42, h103_45, h103_47, h103_48, h103_51, h103_53, h103_54, h103_56, h103_59, h103_60, h103_62, h103_65, h103_68, h103_69, h103_72, h103_74, h103_76, h103_77, h103_78, h103_81, h103_82, h103_85, h103_87, h103_88, h103_89, h103_92, h103_93, h103_96, h103_98, h103_99, h103_101, h103_104, h103_105, h103_107, h103_110, h103_113, h103_114, h103_117, h103_119, h103_122, h103_123, h103_125, h103_126, h103_127, h103_130, h103_132, h103_133, h103_134, h103_137, h103_139, h103_140, h103_143, h103_144, h103_147, h103_148, h103_151, h103_153, h103_154, h103_155, h103_156, h103_159, h103_160, h103_161, h103_164, h103_167, h103_170, h103_172, Option.bind_some, Option.toList_some, Option.toList_none, List.cons_append, List.nil_append, nI_ltc, nI_lec, nI_eqc, nI_ne5, n5_ne, n5_lt, bI_0, bI_1, nI_add, pk_mul, if_pos, if_neg, ite_not, if_true, if_false, not_true_eq_false, not_false_eq_true, true_and, false_and, and_true, and_false, Nat.reduceAdd, Nat.reduceMul, q1, q3, z_deviceAt_n, m5, i2]
      · rw [ho] at i2
        obtain ⟨g1, g2, g3⟩ := hf k z hfk
        have hk0 : k % 3 = 0 := by
          have ps : SZ R s b k = _ := psz_b (s := s) (f := fN R s) hk12 hj hv h1
          by_cases q : ¬R 12 j = -5 ∧ k % 3 = 0
          · exact q.2
          · rw [if_neg q] at ps; exact absurd ps g1
        have ek : sn R j * 3 = k := by omega
        have es : stK st f b (k + 1) = st1 (stK st f b k) b k z := stK_s hfk
        have hjQ : ¬j ∈ Q := fun q => by
          rcases (hM j).mp q with q | q
          · exact hQ0 j q ⟨hj, h1, hbj⟩
          · omega
        have hN' : QN (Q ++ [j]) := ⟨ndp_snoc Q hjQ hN.1, fun y hy => by
          rcases List.mem_append.mp hy with hy | hy
          · exact hN.2 y hy
          · have : y = j := by simpa using hy
            omega⟩
        have hlen : Q.length + 1 ≤ 13 := by
          have := QN_len hN'
          rw [List.length_append] at this
          exact this
        have ok5 : ¬nI z = -5 := fun q => by rw [nI_ne5 (by omega)] at q; exact q
        have hw := hQ.1
        have l13 : nI Q.length < nI 13 := by rw [nI_ltc (by omega) (by omega)]; omega
        have l13' : ¬nI 13 ≤ nI Q.length := by rw [nI_lec (by omega) (by omega)]; omega
        have hop := z_openWindow d L mu p j s (nI z) (nI (SZ R s b k)) hj hs
        have hwk : u2 (u2 mu 10 (j * 2 + s) (nI z)) 11 (j * 2 + s) (nI (SZ R s b k)) 81 6 = nI Q.length := by rw [u2_row (by omega), u2_row (by omega)]; exact hw
        have hwk2 : u2 (u2 (u2 mu 10 (j * 2 + s) (nI z)) 11 (j * 2 + s) (nI (SZ R s b k))) 87 Q.length (nI j) 81 6 = nI Q.length := by rw [u2_row (by omega)]; exact hwk
        have hO8 : rk (u2 (u2 (u2 (u2 mu 10 (j * 2 + s) (nI z)) 11 (j * 2 + s) (nI (SZ R s b k))) 87 Q.length (nI j)) 81 6 (nI (Q.length + 1))) 1 = ovl R s (stK st f b (k + 1)) := by
          rw [rk_cong (mu := u2 (u2 mu 10 (j * 2 + s) (nI z)) 11 (j * 2 + s) (nI (SZ R s b k))) (fun r a1 a2 => by rw [u2_row (by omega), u2_row (by omega)]), rk_u (by omega) (show j * 2 + s < 24 by omega), rk_u (by omega) (show j * 2 + s < 24 by omega), hR, es, ovl_b hO.T hs hb hk12 hj hk0 hv h1]
        have hT8 : c + TC R st = TC R (stK st f b (k + 1)) := by
          rw [es, TC_b hO.T hb hk12 hj hv h1]; exact hc
        obtain ⟨mu', c', Q', e1, e2, e3, e4, e5, e6, e7, e8⟩ := ih (k + 1) (u2 (u2 (u2 (u2 mu 10 (j * 2 + s) (nI z)) 11 (j * 2 + s) (nI (SZ R s b k))) 87 Q.length (nI j)) 81 6 (nI (Q.length + 1))) c (Q ++ [j]) (.inl (nI j)) (by omega) hO8 hT8 ⟨by rw [u2_s, List.length_append]; rfl, fun i x h => by
            rw [u2_row (by omega)]
            by_cases hi : i < Q.length
            · rw [List.getElem?_append_left hi] at h
              rw [u2_o _ _ (by omega), u2_row (by omega), u2_row (by omega)]
              exact hQ.2 i x h
            · by_cases hi2 : i = Q.length
              · rw [hi2, List.getElem?_concat_length] at h
                cases h
                rw [hi2, u2_s]
              · rw [List.getElem?_eq_none (by rw [List.length_append]; show Q.length + 1 ≤ i; omega)] at h
                cases h⟩ hN' (fun j' => by
            rw [List.mem_append, hM j']
            constructor
            · rintro ((q | ⟨a1, a2, a3, a4, a5⟩) | q)
              · exact Or.inl q
              · exact Or.inr ⟨a1, a2, a3, by omega, a5⟩
              · have : j' = j := by simpa using q
                subst this
                exact Or.inr ⟨hj, h1, hbj, by omega, by rw [ek, hfk]; exact fun q => by cases q⟩
            · rintro (q | ⟨a1, a2, a3, a4, a5⟩)
              · exact Or.inl (Or.inl q)
              · by_cases q : sn R j' * 3 = k
                · have := slot_dev hO.T hj a1 (k2_ne0 a2) hv a3 (by omega)
                  subst this
                  exact Or.inr (by simp)
                · exact Or.inl (Or.inr ⟨a1, a2, a3, by omega, a5⟩)) (fun i hi => by
            rw [u2_row (by omega), u2_row (by omega), u2_row (by omega), u2_row (by omega), u2_row (by omega), u2_row (by omega), u2_row (by omega), u2_row (by omega)]
            exact hI i hi)
        refine ⟨mu', c', Q', ?_, e2, e3, e4, e5, e6, FrP.tr (fun r a1 a2 a3 a4 a5 => by rw [u2_row a4, u2_row (by omega), u2_row a3, u2_row a2]) e7, fun i x h => e8 i x (by
            rw [List.getElem?_append_left]
            · exact h
            · by_cases hi : i < Q.length
              · exact hi
              · rw [List.getElem?_eq_none (by omega)] at h; cases h)⟩
        rw [← e1, h103_29]
        simp (disch := first | omega | assumption) only [h103_0, h103_1, h103_2, h103_3, h103_4, h103_7, h103_8, h103_9, h103_10, h103_11, h103_12, h103_15, h103_16, h103_19, h103_22, h103_23, h103_24, h103_26, h103_27, h103_31, h103_33, h103_36, h103_37, h103_38, h103_40, h103_41, h103_42, h103_45, h103_47, h103_48, h103_51, h103_53, h103_54, h103_56, h103_59, h103_60, h103_62, h103_65, h103_68, h103_69, h103_72, h103_74, h103_76, h103_77, h103_78, h103_81, h103_82, h103_85, h103_87, h103_88, h103_89, h103_92, h103_93, h103_96, h103_98, h103_99, h103_101, h103_104, h103_105, h103_107, h103_110, h103_113, h103_114, h103_117, h103_119, h103_122, h103_123, h103_125, h103_126, h103_127, h103_130, h103_132, h103_133, h103_134, h103_137, h103_139, h103_140, h103_143, h103_144, h103_147, h103_148, h103_151, h103_153, h103_154, h103_155, h103_156, h103_159, h103_160, h103_161, h103_164, h103_167, h103_170, h103_172, Option.bind_some, Option.toList_some, Option.toList_none, List.cons_append, List.nil_append, nI_ltc, nI_lec, nI_eqc, nI_ne5, n5_ne, n5_lt, bI_0, bI_1, nI_add, pk_mul, if_pos, if_neg, ite_not, if_true, if_false, not_true_eq_false, not_false_eq_true, true_and, false_and, and_true, and_false, Nat.reduceAdd, Nat.reduceMul, q1, q2, q3, z_deviceAt_n, m5, i1, i2, ok5, z_isCard_n, z_isBridge_n, m2, hw, l13, l13', hop, hwk, hwk2]
end
