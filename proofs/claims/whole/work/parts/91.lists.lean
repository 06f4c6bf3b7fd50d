/-! items of the reference -/
/-- rows from o on hold the list -/
def Rep (v : Nat → Nat → Int32) (o : Nat) (l : List Nat) (mu : RV) : Prop := ∀ i x, l[i]? = some x → mu 110 (o + i) = v x 0 ∧ mu 111 (o + i) = v x 1 ∧ mu 112 (o + i) = v x 2 ∧ mu 113 (o + i) = v x 3
/-- only the items and their count differ -/
def FrI (mu mu' : RV) : Prop := (∀ r, ¬r = 105 → (r < 110 ∨ 113 < r) → mu' r = mu r) ∧ ∀ i, ¬i = 7 → mu' 105 i = mu 105 i
theorem FrI.tr {mu mu1 mu2 : RV} (h : FrI mu mu1) (h' : FrI mu1 mu2) : FrI mu mu2 := ⟨fun r g1 g2 => by rw [h'.1 r g1 g2, h.1 r g1 g2], fun i hi => by rw [h'.2 i hi, h.2 i hi]⟩
theorem FrI.rfl' (mu : RV) : FrI mu mu := ⟨fun _ _ _ => rfl, fun _ _ => rfl⟩
section
variable (d L : Nat) (p : Nat → Nat)
theorem m_putsL (v : Nat → Nat → Int32) (al : Nat → Nat) (x : Nat) (hv : ∀ y, v y 3 = nI (al y)) (hx : al x < 2147483648) : ∀ n A B mu, A.length = n → A.length + B.length < 12 → Rep v 0 A mu → Rep v (n + 1) B mu → srt al A → (∀ y, y ∈ A → al y < 2147483648) → (∀ y, y ∈ B → al y < al x) → mu 105 7 = nI (A.length + B.length) →
    ∃ mu', zsem d 147 6 [.inr (some 105), .inl (v x 0), .inl (v x 1), .inl (v x 2), .inl (v x 3), .inl (nI n)] [] (HH L mu p) = some (none, HH L mu' p) ∧ Rep v 0 (insL al x (A ++ B)) mu' ∧ mu' 105 7 = nI (A.length + B.length + 1) ∧ FrI mu mu' := by
  have stop : ∀ n A B mu, A.length = n → A.length + B.length < 12 → Rep v 0 A mu → Rep v (n + 1) B mu → (∀ y, y ∈ A → al x ≤ al y) → (∀ y, y ∈ B → al y < al x) → mu 105 7 = nI (A.length + B.length) → zsem d 147 6 [.inr (some 105), .inl (v x 0), .inl (v x 1), .inl (v x 2), .inl (v x 3), .inl (nI n)] [] (HH L mu p) = zsem d 147 95 [.inr (some 105), .inl (v x 0), .inl (v x 1), .inl (v x 2), .inl (v x 3), .inl (nI n)] [] (HH L mu p) →
      ∃ mu', zsem d 147 6 [.inr (some 105), .inl (v x 0), .inl (v x 1), .inl (v x 2), .inl (v x 3), .inl (nI n)] [] (HH L mu p) = some (none, HH L mu' p) ∧ Rep v 0 (insL al x (A ++ B)) mu' ∧ mu' 105 7 = nI (A.length + B.length + 1) ∧ FrI mu mu' := by
    intro n A B mu hn hlen hA hB hle hlt hc e
    rw [insL_app A hle, insL_hd hlt]
    refine ⟨u2 (u2 (u2 (u2 (u2 mu 110 n (v x 0)) 111 n (v x 1)) 112 n (v x 2)) 113 n (v x 3)) 105 7 (nI (A.length + B.length + 1)), ?_, ?_, u2_s _ _ _ _, fun r g1 g2 => ?_, fun i hi => ?_⟩
    · rw [e]
      simp (disch := first | omega | assumption) only [h147_0, h147_1, h147_4, h147_8, h147_11, h147_12, h147_15, h147_17, h147_18, h147_19, h147_20, h147_22, h147_25, h147_26, h147_29, h147_31, h147_32, h147_35, h147_37, h147_38, h147_39, h147_40, h147_41, h147_42, h147_45, h147_47, h147_48, h147_51, h147_53, h147_54, h147_55, h147_56, h147_57, h147_58, h147_61, h147_63, h147_64, h147_67, h147_69, h147_70, h147_71, h147_72, h147_73, h147_74, h147_77, h147_79, h147_80, h147_83, h147_85, h147_86, h147_87, h147_88, h147_89, h147_92, h147_95, h147_96, h147_99, h147_101, h147_102, h147_103, h147_104, h147_107, h147_109, h147_110, h147_111, h147_112, h147_115, h147_117, h147_118, h147_119, h147_120, h147_123, h147_125, h147_127, h147_128, h147_129, h147_130, h147_133, h147_134, h147_135, h147_138, Option.bind_some, Option.toList_some, Option.toList_none, List.cons_append, List.nil_append, nI_ltc, nI_lec, nI_eqc, nI_ne5, n5_ne, n5_lt, bI_0, bI_1, nI_add, pk_mul, if_pos, if_neg, ite_not, if_true, if_false, not_true_eq_false, not_false_eq_true, true_and, false_and, and_true, and_false, Nat.reduceAdd, Nat.reduceMul, u2_oa, hc]
    · intro i y hy
      by_cases h1 : i < n
      · rw [List.getElem?_append_left (by omega)] at hy
        obtain ⟨a0, a1, a2, a3⟩ := hA i y hy
        refine ⟨?_, ?_, ?_, ?_⟩ <;> simp (disch := omega) only [u2_o, a0, a1, a2, a3]
      · rw [List.getElem?_append_right (by omega)] at hy
        by_cases h2 : i = n
        · rw [h2, hn, Nat.sub_self, List.getElem?_cons_zero] at hy
          cases hy
          rw [h2, Nat.zero_add]
          refine ⟨?_, ?_, ?_, ?_⟩ <;> simp (disch := omega) only [u2_o, u2_s]
        · rw [hn, show i - n = (i - n - 1) + 1 by omega, List.getElem?_cons_succ] at hy
          obtain ⟨a0, a1, a2, a3⟩ := hB (i - n - 1) y hy
          rw [show n + 1 + (i - n - 1) = 0 + i by omega] at a0 a1 a2 a3
          refine ⟨?_, ?_, ?_, ?_⟩ <;> simp (disch := omega) only [u2_o, a0, a1, a2, a3]
    · rw [u2_row g1, u2_row (by omega), u2_row (by omega), u2_row (by omega), u2_row (by omega)]
    · rw [u2_o _ _ (by omega), u2_row (by omega), u2_row (by omega), u2_row (by omega), u2_row (by omega)]
  intro n
  induction n with
  | zero =>
    intro A B mu hn hlen hA hB hs hal hlt hc
    have : A = [] := List.eq_nil_of_length_eq_zero hn
    subst this
    refine stop 0 [] B mu rfl hlen hA hB (fun y hy => by cases hy) hlt hc ?_
    rw [h147_6]
    simp (disch := first | omega | assumption) only [h147_0, h147_1, h147_4, h147_8, h147_11, h147_12, h147_15, h147_17, h147_18, h147_19, h147_20, h147_22, h147_25, h147_26, h147_29, h147_31, h147_32, h147_35, h147_37, h147_38, h147_39, h147_40, h147_41, h147_42, h147_45, h147_47, h147_48, h147_51, h147_53, h147_54, h147_55, h147_56, h147_57, h147_58, h147_61, h147_63, h147_64, h147_67, h147_69, h147_70, h147_71, h147_72, h147_73, h147_74, h147_77, h147_79, h147_80, h147_83, h147_85, h147_86, h147_87, h147_88, h147_89, h147_92, h147_95, h147_96, h147_99, h147_101, h147_102, h147_103, h147_104, h147_107, h147_109, h147_110, h147_111, h147_112, h147_115, h147_117, h147_118, h147_119, h147_120, h147_123, h147_125, h147_127, h147_128, h147_129, h147_130, h147_133, h147_134, h147_135, h147_138, Option.bind_some, Option.toList_some, Option.toList_none, List.cons_append, List.nil_append, nI_ltc, nI_lec, nI_eqc, nI_ne5, n5_ne, n5_lt, bI_0, bI_1, nI_add, pk_mul, if_pos, if_neg, ite_not, if_true, if_false, not_true_eq_false, not_false_eq_true, true_and, false_and, and_true, and_false, Nat.reduceAdd, Nat.reduceMul]
  | succ m ih =>
    intro A B mu hn hlen hA hB hs hal hlt hc
    rcases List.eq_nil_or_concat A with rfl | ⟨A', y, hAc⟩
    · cases hn
    · rw [List.concat_eq_append] at hAc
      subst hAc
      have hm : A'.length = m := by
        rw [List.length_append] at hn
        have : [y].length = 1 := rfl
        omega
      obtain ⟨a0, a1, a2, a3⟩ := hA m y (by rw [← hm]; exact List.getElem?_concat_length)
      rw [Nat.zero_add] at a0 a1 a2 a3
      have haly := hal y (by simp)
      have hsub : nI (m + 1) - nI 1 = nI m := by rw [nI_sub (by omega)]; rfl
      have hdec := dec_ok m
      have l1 : ¬nI (m + 1) ≤ nI 0 := by rw [nI_lec (by omega) (by omega)]; omega
      have hlen2 : (A' ++ [y]).length = m + 1 := hn
      by_cases hxy : al y < al x
      · have b3 := a3
        rw [hv y] at b3
        have hx3 := hv x
        have hsA : ∀ l : List Nat, srt al (l ++ [y]) → srt al l ∧ ∀ z, z ∈ l → al y ≤ al z := by
          intro l
          induction l with
          | nil => intro _; exact ⟨trivial, fun z hz => by cases hz⟩
          | cons z l ih =>
            intro h
            obtain ⟨i1, i2⟩ := ih h.2
            refine ⟨⟨fun w hw => h.1 w (List.mem_append_left _ hw), i1⟩, fun w hw => ?_⟩
            rcases List.mem_cons.mp hw with rfl | hw
            · exact h.1 y (by simp)
            · exact i2 w hw
        obtain ⟨s1, s2⟩ := hsA A' hs
        obtain ⟨mu', e1, e2, e3, e4⟩ := ih A' (y :: B) (u2 (u2 (u2 (u2 mu 110 (m + 1) (v y 0)) 111 (m + 1) (v y 1)) 112 (m + 1) (v y 2)) 113 (m + 1) (v y 3)) hm (by rw [List.length_cons]; omega) (fun i z hz => by
            have hi : i < A'.length := by
              by_cases q : i < A'.length
              · exact q
              · rw [List.getElem?_eq_none (by omega)] at hz; cases hz
            obtain ⟨c0, c1, c2, c3⟩ := hA i z (by rw [List.getElem?_append_left hi]; exact hz)
            refine ⟨?_, ?_, ?_, ?_⟩ <;> simp (disch := omega) only [u2_o, c0, c1, c2, c3]) (fun i z hz => by
            cases i with
            | zero =>
              rw [List.getElem?_cons_zero] at hz
              cases hz
              refine ⟨?_, ?_, ?_, ?_⟩ <;> simp (disch := omega) only [u2_o, u2_e]
            | succ i =>
              rw [List.getElem?_cons_succ] at hz
              obtain ⟨c0, c1, c2, c3⟩ := hB i z hz
              rw [show m + 1 + 1 + i = m + 1 + (i + 1) by omega] at c0 c1 c2 c3
              refine ⟨?_, ?_, ?_, ?_⟩ <;> simp (disch := omega) only [u2_o, c0, c1, c2, c3]) s1 (fun z hz => hal z (List.mem_append_left _ hz)) (fun z hz => by
            rcases List.mem_cons.mp hz with rfl | hz
            · exact hxy
            · exact hlt z hz) (by
            rw [u2_row (by omega), u2_row (by omega), u2_row (by omega), u2_row (by omega), hc, List.length_cons]
            congr 1
            omega)
        refine ⟨mu', ?_, ?_, ?_, ?_⟩
        · rw [← e1, h147_6]
          have q3 : ¬v x 3 ≤ v y 3 := by
            rw [hv x, hv y, nI_lec (by omega) (by omega)]; omega
          simp (disch := first | omega | assumption) only [h147_0, h147_1, h147_4, h147_8, h147_11, h147_12, h147_15, h147_17, h147_18, h147_19, h147_20, h147_22, h147_25, h147_26, h147_29, h147_31, h147_32, h147_35, h147_37, h147_38, h147_39, h147_40, h147_41, h147_42, h147_45, h147_47, h147_48, h147_51, h147_53, h147_54, h147_55, h147_56, h147_57, h147_58, h147_61, h147_63, h147_64, h147_67, h147_69, h147_70, h147_71, h147_72, h147_73, h147_74, h147_77, h147_79, h147_80, h147_83, h147_85, h147_86, h147_87, h147_88, h147_89, h147_92, h147_95, h147_96, h147_99, h147_101, h147_102, h147_103, h147_104, h147_107, h147_109, h147_110, h147_111, h147_112, h147_115, h147_117, h147_118, h147_119, h147_120, h147_123, h147_125, h147_127, h147_128, h147_129, h147_130, h147_133, h147_134, h147_135, h147_138, Option.bind_some, Option.toList_some, Option.toList_none, List.cons_append, List.nil_append, nI_ltc, nI_lec, nI_eqc, nI_ne5, n5_ne, n5_lt, bI_0, bI_1, nI_add, pk_mul, if_pos, if_neg, ite_not, if_true, if_false, not_true_eq_false, not_false_eq_true, true_and, false_and, and_true, and_false, Nat.reduceAdd, Nat.reduceMul, hsub, hdec, l1, u2_oa, a0, a1, a2, a3, q3]
        · rw [List.append_assoc]; exact e2
        · rw [e3, List.length_cons]; congr 1; omega
        · exact FrI.tr ⟨fun r g1 g2 => by rw [u2_row (by omega), u2_row (by omega), u2_row (by omega), u2_row (by omega)], fun i hi => by rw [u2_row (by omega), u2_row (by omega), u2_row (by omega), u2_row (by omega)]⟩ e4
      · refine stop (m + 1) (A' ++ [y]) B mu hn hlen hA hB (fun z hz => ?_) hlt hc ?_
        · have hsA : ∀ l : List Nat, srt al (l ++ [y]) → ∀ z, z ∈ l → al y ≤ al z := by
            intro l
            induction l with
            | nil => intro _ z hz; cases hz
            | cons z l ih =>
              intro h w hw
              rcases List.mem_cons.mp hw with rfl | hw
              · exact h.1 y (by simp)
              · exact ih h.2 w hw
          rcases List.mem_append.mp hz with hz | hz
          · have := hsA A' hs z hz; omega
          · have : z = y := by simpa using hz
            subst this; omega
        · have q3 : v x 3 ≤ v y 3 := by
            rw [hv x, hv y, nI_lec (by omega) (by omega)]; omega
          rw [h147_6]
          simp (disch := first | omega | assumption) only [h147_0, h147_1, h147_4, h147_8, h147_11, h147_12, h147_15, h147_17, h147_18, h147_19, h147_20, h147_22, h147_25, h147_26, h147_29, h147_31, h147_32, h147_35, h147_37, h147_38, h147_39, h147_40, h147_41, h147_42, h147_45, h147_47, h147_48, h147_51, h147_53, h147_54, h147_55, h147_56, h147_57, h147_58, h147_61, h147_63, h147_64, h147_67, h147_69, h147_70, h147_71, h147_72, h147_73, h147_74, h147_77, h147_79, h147_80, h147_83, h147_85, h147_86, h147_87, h147_88, h147_89, h147_92, h147_95, h147_96, h147_99, h147_101, h147_102, h147_103, h147_104, h147_107, h147_109, h147_110, h147_111, h147_112, h147_115, h147_117, h147_118, h147_119, h147_120, h147_123, h147_125, h147_127, h147_128, h147_129, h147_130, h147_133, h147_134, h147_135, h147_138, Option.bind_some, Option.toList_some, Option.toList_none, List.cons_append, List.nil_append, nI_ltc, nI_lec, nI_eqc, nI_ne5, n5_ne, n5_lt, bI_0, bI_1, nI_add, pk_mul, if_pos, if_neg, ite_not, if_true, if_false, not_true_eq_false, not_false_eq_true, true_and, false_and, and_true, and_false, Nat.reduceAdd, Nat.reduceMul, hsub, l1, a3, q3]
theorem m_puts (v : Nat → Nat → Int32) (al : Nat → Nat) (x : Nat) (hv : ∀ y, v y 3 = nI (al y)) (hx : al x < 2147483648) (l : List Nat) (mu : RV) (hl : l.length < 12) (hR : Rep v 0 l mu) (hs : srt al l) (hal : ∀ y, y ∈ l → al y < 2147483648) (hc : mu 105 7 = nI l.length) :
    ∃ mu', zsem d 147 0 [.inr (some 105), .inl (v x 0), .inl (v x 1), .inl (v x 2), .inl (v x 3), .inr none] [] (HH L mu p) = some (none, HH L mu' p) ∧ Rep v 0 (insL al x l) mu' ∧ mu' 105 7 = nI (insL al x l).length ∧ FrI mu mu' := by
  obtain ⟨mu', e1, e2, e3, e4⟩ := m_putsL d L p v al x hv hx l.length l [] mu rfl hl hR (fun i y hy => by cases hy) hs hal (fun y hy => by cases hy) hc
  rw [List.append_nil] at e2
  have hlen : ∀ l : List Nat, (insL al x l).length = l.length + 1 := by
    intro l
    induction l with
    | nil => rfl
    | cons y l ih =>
      rw [insL]
      by_cases h : al y < al x
      · rw [if_pos h]; rfl
      · rw [if_neg h, List.length_cons, ih, List.length_cons]
  refine ⟨mu', ?_, e2, ?_, e4⟩
  · rw [← e1]
    simp (disch := first | omega | assumption) only [h147_0, h147_1, h147_4, h147_8, h147_11, h147_12, h147_15, h147_17, h147_18, h147_19, h147_20, h147_22, h147_25, h147_26, h147_29, h147_31, h147_32, h147_35, h147_37, h147_38, h147_39, h147_40, h147_41, h147_42, h147_45, h147_47, h147_48, h147_51, h147_53, h147_54, h147_55, h147_56, h147_57, h147_58, h147_61, h147_63, h147_64, h147_67, h147_69, h147_70, h147_71, h147_72, h147_73, h147_74, h147_77, h147_79, h147_80, h147_83, h147_85, h147_86, h147_87, h147_88, h147_89, h147_92, h147_95, h147_96, h147_99, h147_101, h147_102, h147_103, h147_104, h147_107, h147_109, h147_110, h147_111, h147_112, h147_115, h147_117, h147_118, h147_119, h147_120, h147_123, h147_125, h147_127, h147_128, h147_129, h147_130, h147_133, h147_134, h147_135, h147_138, Option.bind_some, Option.toList_some, Option.toList_none, List.cons_append, List.nil_append, nI_ltc, nI_lec, nI_eqc, nI_ne5, n5_ne, n5_lt, bI_0, bI_1, nI_add, pk_mul, if_pos, if_neg, ite_not, if_true, if_false, not_true_eq_false, not_false_eq_true, true_and, false_and, and_true, and_false, Nat.reduceAdd, Nat.reduceMul, hc]
  · rw [e3, hlen]; rfl
end
theorem itl_len {sz al : Nat → Nat} : ∀ n, (itl sz al n).length ≤ n := by
  intro n
  induction n with
  | zero => exact Nat.le_refl _
  | succ n ih =>
    rw [itl]
    by_cases h : sz n = 0
    · rw [if_pos h]; omega
    · rw [if_neg h]
      have hlen : ∀ l : List Nat, (insL al n l).length = l.length + 1 := by
        intro l
        induction l with
        | nil => rfl
        | cons y l ih =>
          rw [insL]
          by_cases h : al y < al n
          · rw [if_pos h]; rfl
          · rw [if_neg h, List.length_cons, ih, List.length_cons]
      rw [hlen]
      omega
/-- what an item's numbers are -/
def pv (R : RV) (s b k c : Nat) : Int32 := if c = 0 then R 5 (b * 4 + k / 3) else if c = 1 then (if R 2 (vn (R 5 (b * 4 + k / 3))) = nI 1 then nI (k % 3) else -5) else if c = 2 then nI (SZ R s b k) else nI (AL R s b k)
/-- rows 108, 109 of the reference hold the needs of the bridges on bus b -/
def LayM (R : RV) (s b : Nat) (mu : RV) : Prop := ∀ j, j < 12 → R 2 j = nI 2 → bn R j = b → mu 108 (12 * s + j) = nI (fN R s j) ∧ mu 109 (12 * s + j) = nI (aN R s j)
/-- what row 106 says of the items of R -/
def RelL (R mu : RV) : Prop := (∀ j, j < 12 → mu 106 (20 * j) = R 2 j) ∧ (∀ j, j < 12 → ¬R 2 j = nI 0 → ∀ q, q < 3 → mu 106 (20 * j + 3 + 3 * q + 1) = R 7 (j * 3 + q) ∧ (¬R 7 (j * 3 + q) = nI 0 → mu 106 (20 * j + 3 + 3 * q) = R 6 (j * 3 + q))) ∧
  (∀ j, j < 12 → ¬R 2 j = nI 0 → mu 106 (20 * j + 12) = R 12 j) ∧ ∃ R' : RV, InvT R' ∧ RelB R' (fun t => mu 106 t) ∧ R' 5 = R 5
theorem RelL_of {R R' mu : RV} (hI : InvT R) (hS : SameL R R') (hB : RelB R' (fun t => mu 106 t)) : RelL R mu := by
  have e := fun a h1 h2 h3 => hS a h1 h2 h3
  have e2 := e 2 (by omega) (by omega) (by omega)
  have e5 := e 5 (by omega) (by omega) (by omega)
  have e6 := e 6 (by omega) (by omega) (by omega)
  have e7 := e 7 (by omega) (by omega) (by omega)
  have e12 := e 12 (by omega) (by omega) (by omega)
  refine ⟨fun j hj => by rw [hB.kind hj, e2], fun j hj hk q hq => ?_, fun j hj hk => ?_, R', InvT_cong e2 (e 3 (by omega) (by omega) (by omega)) (e 4 (by omega) (by omega) (by omega)) e5 hI, hB, e5⟩
  · obtain ⟨r1, -, r3⟩ := hB.reg hj (by rw [e2]; exact hk) hq
    rw [e7] at r1 r3
    rw [e6] at r3
    exact ⟨r1, r3⟩
  · rw [(hB.dev hj (by rw [e2]; exact hk)).2.2.1, e12]
theorem RelL_cong {R mu mu' : RV} (h : RelL R mu) (e : mu' 106 = mu 106) : RelL R mu' := by
  unfold RelL at *
  rw [e]
  exact h
section
variable (d L : Nat) (p : Nat → Nat)
/-- part k is put, or is no item -/
theorem m_put1 {R : RV} (hO : OK R) {s b : Nat} (hs : s < 2) (hb : b < 13) (k : Nat) (hk : k < 12) (mu : RV) (hz : SZ R s b k ≠ 0) (hR : Rep (pv R s b) 0 (itl (SZ R s b) (AL R s b) k) mu) (hc : mu 105 7 = nI (itl (SZ R s b) (AL R s b) k).length) :
    ∃ mu', zsem d 147 0 [.inr (some 105), .inl (pv R s b k 0), .inl (pv R s b k 1), .inl (nI (SZ R s b k)), .inl (nI (AL R s b k)), .inr none] [] (HH L mu p) = some (none, HH L mu' p) ∧ Rep (pv R s b) 0 (itl (SZ R s b) (AL R s b) (k + 1)) mu' ∧ mu' 105 7 = nI (itl (SZ R s b) (AL R s b) (k + 1)).length ∧ FrI mu mu' := by
  obtain ⟨p1, p2, p3⟩ := part_ok hO (s := s) (b := b) hs hb
  have hal : ∀ y, y < 12 → SZ R s b y ≠ 0 → AL R s b y < 2147483648 := fun y hy hz => by
    obtain ⟨e, e1, e2⟩ := p1 y hy hz
    have := sz_lt e1
    omega
  have hlen := @itl_len (SZ R s b) (AL R s b) k
  obtain ⟨mu', e1, e2, e3, e4⟩ := m_puts d L p (pv R s b) (AL R s b) k (fun y => rfl) (hal k hk hz) _ mu (by omega) hR (srt_itl k) (fun y hy => by
    obtain ⟨y1, y2⟩ := (itl_mem k).mp hy
    exact hal y (by omega) y2) hc
  refine ⟨mu', e1, ?_, ?_, e4⟩
  · rw [itl, if_neg hz]; exact e2
  · rw [itl, if_neg hz]; exact e3
theorem itl_n {sz al : Nat → Nat} {k : Nat} (h : sz k = 0) : itl sz al (k + 1) = itl sz al k := by rw [itl, if_pos h]
theorem m_listsR {R : RV} (hO : OK R) {s b : Nat} (hs : s < 2) (hb : b < 13) (t j : Nat) (ht : t < 4) (hj : j < 12) (hv : R 5 (b * 4 + t) = nI j) (h1 : R 2 j = nI 1) : ∀ m q mu (w : AV), q + m = 3 → RelL R mu → Rep (pv R s b) 0 (itl (SZ R s b) (AL R s b) (t * 3 + q)) mu → mu 105 7 = nI (itl (SZ R s b) (AL R s b) (t * 3 + q)).length →
    ∃ mu' w5 w6, zsem (d + 3) 146 23 [.inr (some 105), .inl (nI b), .inl (nI s), .inl (nI t), .inl (nI j), .inl (nI q), w] [] (HH L mu p) = zsem (d + 3) 146 7 [.inr (some 105), .inl (nI b), .inl (nI s), .inl (nI (t + 1)), .inl (nI j), w5, w6] [] (HH L mu' p) ∧ Rep (pv R s b) 0 (itl (SZ R s b) (AL R s b) (t * 3 + 3)) mu' ∧ mu' 105 7 = nI (itl (SZ R s b) (AL R s b) (t * 3 + 3)).length ∧ FrI mu mu' := by
  intro m
  induction m with
  | zero =>
    intro q mu w hq hB hR hc
    have : q = 3 := by omega
    subst this
    have k2 : mu 106 (20 * j) = nI 1 := by rw [hB.1 j hj]; exact h1
    refine ⟨mu, .inl (nI 3), w, ?_, hR, hc, FrI.rfl' mu⟩
    rw [h146_23]
    simp (disch := first | omega | assumption) only [h146_0, h146_1, h146_2, h146_5, h146_6, h146_8, h146_9, h146_12, h146_13, h146_14, h146_15, h146_18, h146_20, h146_21, h146_25, h146_26, h146_29, h146_30, h146_32, h146_35, h146_38, h146_40, h146_42, h146_45, h146_47, h146_48, h146_51, h146_53, h146_54, h146_55, h146_58, h146_59, h146_62, h146_64, h146_65, h146_66, h146_67, h146_70, h146_71, h146_73, h146_75, h146_76, h146_79, h146_81, h146_82, h146_83, h146_84, h146_85, h146_88, h146_90, h146_91, h146_92, h146_93, h146_96, h146_99, h146_102, h146_103, h146_105, h146_108, h146_111, h146_112, h146_114, h146_117, h146_120, h146_121, h146_124, h146_126, h146_127, h146_128, h146_130, h146_131, h146_132, h146_135, h146_136, h146_138, h146_140, h146_141, h146_144, h146_146, h146_147, h146_148, h146_150, h146_151, h146_152, h146_153, h146_156, h146_158, h146_159, h146_160, h146_162, h146_163, h146_164, h146_167, h146_170, h146_173, Option.bind_some, Option.toList_some, Option.toList_none, List.cons_append, List.nil_append, nI_ltc, nI_lec, nI_eqc, nI_ne5, n5_ne, n5_lt, bI_0, bI_1, nI_add, pk_mul, if_pos, if_neg, ite_not, if_true, if_false, not_true_eq_false, not_false_eq_true, true_and, false_and, and_true, and_false, Nat.reduceAdd, Nat.reduceMul, m_isBridge_n, k2]
  | succ m ih =>
    intro q mu w hq hB hR hc
    have hq3 : q < 3 := by omega
    have k2 : mu 106 (20 * j) = nI 1 := by rw [hB.1 j hj]; exact h1
    obtain ⟨r1, r3⟩ := hB.2.1 j hj (k1_ne0 h1) q hq3
    obtain ⟨n, n1, n2⟩ := hO.sz7 hj hq3
    have hv' : R 5 (b * 4 + (t * 3 + q) / 3) = nI j := by rw [show (t * 3 + q) / 3 = t by omega]; exact hv
    have ps : SZ R s b (t * 3 + q) = if R 6 (j * 3 + q) = nI s then n else 0 := by
      have := psz_c (s := s) (f := fN R s) (k := t * 3 + q) (by omega) hj hv' h1
      rw [show (t * 3 + q) % 3 = q by omega, n2, vn_n (by omega)] at this
      exact this
    have pass : (∃ w', zsem (d + 3) 146 23 [.inr (some 105), .inl (nI b), .inl (nI s), .inl (nI t), .inl (nI j), .inl (nI q), w] [] (HH L mu p) = zsem (d + 3) 146 23 [.inr (some 105), .inl (nI b), .inl (nI s), .inl (nI t), .inl (nI j), .inl (nI (q + 1)), w'] [] (HH L mu p)) → SZ R s b (t * 3 + q) = 0 → ∃ mu' w5 w6, zsem (d + 3) 146 23 [.inr (some 105), .inl (nI b), .inl (nI s), .inl (nI t), .inl (nI j), .inl (nI q), w] [] (HH L mu p) = zsem (d + 3) 146 7 [.inr (some 105), .inl (nI b), .inl (nI s), .inl (nI (t + 1)), .inl (nI j), w5, w6] [] (HH L mu' p) ∧ Rep (pv R s b) 0 (itl (SZ R s b) (AL R s b) (t * 3 + 3)) mu' ∧ mu' 105 7 = nI (itl (SZ R s b) (AL R s b) (t * 3 + 3)).length ∧ FrI mu mu' := by
      rintro ⟨w', e⟩ hz
      obtain ⟨mu', w5, w6, e1, e2⟩ := ih (q + 1) mu w' (by omega) hB (by rw [← Nat.add_assoc, itl_n hz]; exact hR) (by rw [← Nat.add_assoc, itl_n hz]; exact hc)
      exact ⟨mu', w5, w6, e.trans e1, e2⟩
    rw [n2] at r1
    by_cases hn : n = 0
    · subst hn
      refine pass ⟨.inl (nI (20 * j + 3 + 3 * q)), ?_⟩ (by rw [ps]; split <;> rfl)
      rw [h146_23]
      by_cases h6 : mu 106 (20 * j + 3 + 3 * q) = nI s
      · simp (disch := first | omega | assumption) only [h146_0, h146_1, h146_2, h146_5, h146_6, h146_8, h146_9, h146_12, h146_13, h146_14, h146_15, h146_18, h146_20, h146_21, h146_25, h146_26, h146_29, h146_30, h146_32, h146_35, h146_38, h146_40, h146_42, h146_45, h146_47, h146_48, h146_51, h146_53, h146_54, h146_55, h146_58, h146_59, h146_62, h146_64, h146_65, h146_66, h146_67, h146_70, h146_71, h146_73, h146_75, h146_76, h146_79, h146_81, h146_82, h146_83, h146_84, h146_85, h146_88, h146_90, h146_91, h146_92, h146_93, h146_96, h146_99, h146_102, h146_103, h146_105, h146_108, h146_111, h146_112, h146_114, h146_117, h146_120, h146_121, h146_124, h146_126, h146_127, h146_128, h146_130, h146_131, h146_132, h146_135, h146_136, h146_138, h146_140, h146_141, h146_144, h146_146, h146_147, h146_148, h146_150, h146_151, h146_152, h146_153, h146_156, h146_158, h146_159, h146_160, h146_162, h146_163, h146_164, h146_167, h146_170, h146_173, Option.bind_some, Option.toList_some, Option.toList_none, List.cons_append, List.nil_append, nI_ltc, nI_lec, nI_eqc, nI_ne5, n5_ne, n5_lt, bI_0, bI_1, nI_add, pk_mul, if_pos, if_neg, ite_not, if_true, if_false, not_true_eq_false, not_false_eq_true, true_and, false_and, and_true, and_false, Nat.reduceAdd, Nat.reduceMul, m_isCard_n, k2, m_regionAt, h6, r1]
      · simp (disch := first | omega | assumption) only [h146_0, h146_1, h146_2, h146_5, h146_6, h146_8, h146_9, h146_12, h146_13, h146_14, h146_15, h146_18, h146_20, h146_21, h146_25, h146_26, h146_29, h146_30, h146_32, h146_35, h146_38, h146_40, h146_42, h146_45, h146_47, h146_48, h146_51, h146_53, h146_54, h146_55, h146_58, h146_59, h146_62, h146_64, h146_65, h146_66, h146_67, h146_70, h146_71, h146_73, h146_75, h146_76, h146_79, h146_81, h146_82, h146_83, h146_84, h146_85, h146_88, h146_90, h146_91, h146_92, h146_93, h146_96, h146_99, h146_102, h146_103, h146_105, h146_108, h146_111, h146_112, h146_114, h146_117, h146_120, h146_121, h146_124, h146_126, h146_127, h146_128, h146_130, h146_131, h146_132, h146_135, h146_136, h146_138, h146_140, h146_141, h146_144, h146_146, h146_147, h146_148, h146_150, h146_151, h146_152, h146_153, h146_156, h146_158, h146_159, h146_160, h146_162, h146_163, h146_164, h146_167, h146_170, h146_173, Option.bind_some, Option.toList_some, Option.toList_none, List.cons_append, List.nil_append, nI_ltc, nI_lec, nI_eqc, nI_ne5, n5_ne, n5_lt, bI_0, bI_1, nI_add, pk_mul, if_pos, if_neg, ite_not, if_true, if_false, not_true_eq_false, not_false_eq_true, true_and, false_and, and_true, and_false, Nat.reduceAdd, Nat.reduceMul, m_isCard_n, k2, m_regionAt, h6]
    · have r3 := r3 (by rw [n2, nI_eqc (by omega) (by omega)]; exact hn)
      by_cases h6 : R 6 (j * 3 + q) = nI s
      · rw [if_pos h6] at ps
        rw [h6] at r3
        have hz : SZ R s b (t * 3 + q) ≠ 0 := by rw [ps]; exact hn
        have pl : AL R s b (t * 3 + q) = n := by
          have := pal_c (a := aN R s) hj hv' h1 (show psz R s (fN R s) b (t * 3 + q) ≠ 0 from hz)
          rw [show (t * 3 + q) % 3 = q by omega, n2, vn_n (by omega)] at this
          exact this
        obtain ⟨mu1, e1, e2, e3, e4⟩ := m_put1 (d + 2) L p hO hs hb (t * 3 + q) (by omega) mu hz hR hc
        have v0 : pv R s b (t * 3 + q) 0 = nI j := hv'
        have v1 : pv R s b (t * 3 + q) 1 = nI q := by
          show (if R 2 (vn (R 5 (b * 4 + (t * 3 + q) / 3))) = nI 1 then nI ((t * 3 + q) % 3) else -5) = nI q
          rw [hv', vn_n (by omega), if_pos h1, show (t * 3 + q) % 3 = q by omega]
        rw [v0, v1, ps, pl] at e1
        obtain ⟨mu', w5, w6, e5, e6, e7, e8⟩ := ih (q + 1) mu1 (.inl (nI (20 * j + 3 + 3 * q))) (by omega) (RelL_cong hB (e4.1 106 (by omega) (by omega))) e2 e3
        refine ⟨mu', w5, w6, ?_, e6, e7, FrI.tr e4 e8⟩
        rw [← e5, h146_23]
        have l1 : ¬nI n ≤ nI 0 := by rw [nI_lec (by omega) (by omega)]; omega
        simp (disch := first | omega | assumption) only [h146_0, h146_1, h146_2, h146_5, h146_6, h146_8, h146_9, h146_12, h146_13, h146_14, h146_15, h146_18, h146_20, h146_21, h146_25, h146_26, h146_29, h146_30, h146_32, h146_35, h146_38, h146_40, h146_42, h146_45, h146_47, h146_48, h146_51, h146_53, h146_54, h146_55, h146_58, h146_59, h146_62, h146_64, h146_65, h146_66, h146_67, h146_70, h146_71, h146_73, h146_75, h146_76, h146_79, h146_81, h146_82, h146_83, h146_84, h146_85, h146_88, h146_90, h146_91, h146_92, h146_93, h146_96, h146_99, h146_102, h146_103, h146_105, h146_108, h146_111, h146_112, h146_114, h146_117, h146_120, h146_121, h146_124, h146_126, h146_127, h146_128, h146_130, h146_131, h146_132, h146_135, h146_136, h146_138, h146_140, h146_141, h146_144, h146_146, h146_147, h146_148, h146_150, h146_151, h146_152, h146_153, h146_156, h146_158, h146_159, h146_160, h146_162, h146_163, h146_164, h146_167, h146_170, h146_173, Option.bind_some, Option.toList_some, Option.toList_none, List.cons_append, List.nil_append, nI_ltc, nI_lec, nI_eqc, nI_ne5, n5_ne, n5_lt, bI_0, bI_1, nI_add, pk_mul, if_pos, if_neg, ite_not, if_true, if_false, not_true_eq_false, not_false_eq_true, true_and, false_and, and_true, and_false, Nat.reduceAdd, Nat.reduceMul, m_isCard_n, k2, m_regionAt, r3, r1, l1, e1]
      · rw [if_neg h6] at ps
        rw [← r3] at h6
        refine pass ⟨.inl (nI (20 * j + 3 + 3 * q)), ?_⟩ ps
        rw [h146_23]
        simp (disch := first | omega | assumption) only [h146_0, h146_1, h146_2, h146_5, h146_6, h146_8, h146_9, h146_12, h146_13, h146_14, h146_15, h146_18, h146_20, h146_21, h146_25, h146_26, h146_29, h146_30, h146_32, h146_35, h146_38, h146_40, h146_42, h146_45, h146_47, h146_48, h146_51, h146_53, h146_54, h146_55, h146_58, h146_59, h146_62, h146_64, h146_65, h146_66, h146_67, h146_70, h146_71, h146_73, h146_75, h146_76, h146_79, h146_81, h146_82, h146_83, h146_84, h146_85, h146_88, h146_90, h146_91, h146_92, h146_93, h146_96, h146_99, h146_102, h146_103, h146_105, h146_108, h146_111, h146_112, h146_114, h146_117, h146_120, h146_121, h146_124, h146_126, h146_127, h146_128, h146_130, h146_131, h146_132, h146_135, h146_136, h146_138, h146_140, h146_141, h146_144, h146_146, h146_147, h146_148, h146_150, h146_151, h146_152, h146_153, h146_156, h146_158, h146_159, h146_160, h146_162, h146_163, h146_164, h146_167, h146_170, h146_173, Option.bind_some, Option.toList_some, Option.toList_none, List.cons_append, List.nil_append, nI_ltc, nI_lec, nI_eqc, nI_ne5, n5_ne, n5_lt, bI_0, bI_1, nI_add, pk_mul, if_pos, if_neg, ite_not, if_true, if_false, not_true_eq_false, not_false_eq_true, true_and, false_and, and_true, and_false, Nat.reduceAdd, Nat.reduceMul, m_isCard_n, k2, m_regionAt, h6]
theorem m_listsL {R : RV} (hO : OK R) {s b : Nat} (hs : s < 2) (hb : b < 13) : ∀ m t mu (w4 w5 w6 : AV), t + m = 4 → RelL R mu → LayM R s b mu → Rep (pv R s b) 0 (itl (SZ R s b) (AL R s b) (t * 3)) mu → mu 105 7 = nI (itl (SZ R s b) (AL R s b) (t * 3)).length →
    ∃ mu', zsem (d + 3) 146 7 [.inr (some 105), .inl (nI b), .inl (nI s), .inl (nI t), w4, w5, w6] [] (HH L mu p) = some (none, HH L mu' p) ∧ Rep (pv R s b) 0 (IT R s b) mu' ∧ mu' 105 7 = nI (IT R s b).length ∧ FrI mu mu' := by
  intro m
  induction m with
  | zero =>
    intro t mu w4 w5 w6 ht hB hM hR hc
    have : t = 4 := by omega
    subst this
    refine ⟨mu, ?_, hR, hc, FrI.rfl' mu⟩
    rw [h146_7]
    simp (disch := first | omega | assumption) only [h146_0, h146_1, h146_2, h146_5, h146_6, h146_8, h146_9, h146_12, h146_13, h146_14, h146_15, h146_18, h146_20, h146_21, h146_25, h146_26, h146_29, h146_30, h146_32, h146_35, h146_38, h146_40, h146_42, h146_45, h146_47, h146_48, h146_51, h146_53, h146_54, h146_55, h146_58, h146_59, h146_62, h146_64, h146_65, h146_66, h146_67, h146_70, h146_71, h146_73, h146_75, h146_76, h146_79, h146_81, h146_82, h146_83, h146_84, h146_85, h146_88, h146_90, h146_91, h146_92, h146_93, h146_96, h146_99, h146_102, h146_103, h146_105, h146_108, h146_111, h146_112, h146_114, h146_117, h146_120, h146_121, h146_124, h146_126, h146_127, h146_128, h146_130, h146_131, h146_132, h146_135, h146_136, h146_138, h146_140, h146_141, h146_144, h146_146, h146_147, h146_148, h146_150, h146_151, h146_152, h146_153, h146_156, h146_158, h146_159, h146_160, h146_162, h146_163, h146_164, h146_167, h146_170, h146_173, Option.bind_some, Option.toList_some, Option.toList_none, List.cons_append, List.nil_append, nI_ltc, nI_lec, nI_eqc, nI_ne5, n5_ne, n5_lt, bI_0, bI_1, nI_add, pk_mul, if_pos, if_neg, ite_not, if_true, if_false, not_true_eq_false, not_false_eq_true, true_and, false_and, and_true, and_false, Nat.reduceAdd, Nat.reduceMul]
  | succ m ih =>
    intro t mu w4 w5 w6 ht hB hM hR hc
    have ht4 : t < 4 := by omega
    have next : ∀ mu1 (w4' w5' w6' : AV), zsem (d + 3) 146 7 [.inr (some 105), .inl (nI b), .inl (nI s), .inl (nI t), w4, w5, w6] [] (HH L mu p) = zsem (d + 3) 146 7 [.inr (some 105), .inl (nI b), .inl (nI s), .inl (nI (t + 1)), w4', w5', w6'] [] (HH L mu1 p) → Rep (pv R s b) 0 (itl (SZ R s b) (AL R s b) (t * 3 + 3)) mu1 → mu1 105 7 = nI (itl (SZ R s b) (AL R s b) (t * 3 + 3)).length → FrI mu mu1 → ∃ mu', zsem (d + 3) 146 7 [.inr (some 105), .inl (nI b), .inl (nI s), .inl (nI t), w4, w5, w6] [] (HH L mu p) = some (none, HH L mu' p) ∧ Rep (pv R s b) 0 (IT R s b) mu' ∧ mu' 105 7 = nI (IT R s b).length ∧ FrI mu mu' := by
      intro mu1 w4' w5' w6' e h1 h2 h3
      obtain ⟨mu', e1, e2, e3, e4⟩ := ih (t + 1) mu1 w4' w5' w6' (by omega) (RelL_cong hB (h3.1 106 (by omega) (by omega))) (fun j g1 g2 g3 => by rw [h3.1 108 (by omega) (by omega), h3.1 109 (by omega) (by omega)]; exact hM j g1 g2 g3) (by rw [Nat.add_mul, Nat.one_mul]; exact h1) (by rw [Nat.add_mul, Nat.one_mul]; exact h2)
      exact ⟨mu', e.trans e1, e2, e3, FrI.tr h3 e4⟩
    obtain ⟨R', hI', hB', e5'⟩ := hB.2.2.2
    have hin := m_inSlot (d) L mu p hB' hI' b t hb ht4
    rw [e5'] at hin
    have d3 : ∀ q, q < 3 → (t * 3 + q) / 3 = t := fun q hq => by omega
    have hsl := slot_of hO.T (k := t * 3) hb (by omega)
    rw [show t * 3 / 3 = t by omega] at hsl
    rcases hsl with hv | ⟨j, hj, hv, hbj, h1 | h1⟩
    · rw [hv] at hin
      have z : ∀ q, q < 3 → SZ R s b (t * 3 + q) = 0 := fun q hq => psz_n (by rw [d3 q hq]; exact hv)
      have c1 := m_isCard_o d L mu p (-5) (Or.inl (by decide))
      have c2 := m_isBridge_o d L mu p (-5) (Or.inl (by decide))
      have ei : itl (SZ R s b) (AL R s b) (t * 3 + 3) = itl (SZ R s b) (AL R s b) (t * 3) := by
        rw [show t * 3 + 3 = t * 3 + 2 + 1 by omega, itl_n (z 2 (by omega)), show t * 3 + 2 = t * 3 + 1 + 1 by omega, itl_n (z 1 (by omega)), itl_n (z 0 (by omega)), Nat.add_zero]
      refine next mu (.inl (-5)) (.inl (nI 0)) w6 ?_ (by rw [ei]; exact hR) (by rw [ei]; exact hc) (FrI.rfl' mu)
      rw [h146_7]
      simp (disch := first | omega | assumption) only [h146_0, h146_1, h146_2, h146_5, h146_6, h146_8, h146_9, h146_12, h146_13, h146_14, h146_15, h146_18, h146_20, h146_21, h146_25, h146_26, h146_29, h146_30, h146_32, h146_35, h146_38, h146_40, h146_42, h146_45, h146_47, h146_48, h146_51, h146_53, h146_54, h146_55, h146_58, h146_59, h146_62, h146_64, h146_65, h146_66, h146_67, h146_70, h146_71, h146_73, h146_75, h146_76, h146_79, h146_81, h146_82, h146_83, h146_84, h146_85, h146_88, h146_90, h146_91, h146_92, h146_93, h146_96, h146_99, h146_102, h146_103, h146_105, h146_108, h146_111, h146_112, h146_114, h146_117, h146_120, h146_121, h146_124, h146_126, h146_127, h146_128, h146_130, h146_131, h146_132, h146_135, h146_136, h146_138, h146_140, h146_141, h146_144, h146_146, h146_147, h146_148, h146_150, h146_151, h146_152, h146_153, h146_156, h146_158, h146_159, h146_160, h146_162, h146_163, h146_164, h146_167, h146_170, h146_173, Option.bind_some, Option.toList_some, Option.toList_none, List.cons_append, List.nil_append, nI_ltc, nI_lec, nI_eqc, nI_ne5, n5_ne, n5_lt, bI_0, bI_1, nI_add, pk_mul, if_pos, if_neg, ite_not, if_true, if_false, not_true_eq_false, not_false_eq_true, true_and, false_and, and_true, and_false, Nat.reduceAdd, Nat.reduceMul, hin]
      rw [h146_23]
      simp (disch := first | omega | assumption) only [h146_0, h146_1, h146_2, h146_5, h146_6, h146_8, h146_9, h146_12, h146_13, h146_14, h146_15, h146_18, h146_20, h146_21, h146_25, h146_26, h146_29, h146_30, h146_32, h146_35, h146_38, h146_40, h146_42, h146_45, h146_47, h146_48, h146_51, h146_53, h146_54, h146_55, h146_58, h146_59, h146_62, h146_64, h146_65, h146_66, h146_67, h146_70, h146_71, h146_73, h146_75, h146_76, h146_79, h146_81, h146_82, h146_83, h146_84, h146_85, h146_88, h146_90, h146_91, h146_92, h146_93, h146_96, h146_99, h146_102, h146_103, h146_105, h146_108, h146_111, h146_112, h146_114, h146_117, h146_120, h146_121, h146_124, h146_126, h146_127, h146_128, h146_130, h146_131, h146_132, h146_135, h146_136, h146_138, h146_140, h146_141, h146_144, h146_146, h146_147, h146_148, h146_150, h146_151, h146_152, h146_153, h146_156, h146_158, h146_159, h146_160, h146_162, h146_163, h146_164, h146_167, h146_170, h146_173, Option.bind_some, Option.toList_some, Option.toList_none, List.cons_append, List.nil_append, nI_ltc, nI_lec, nI_eqc, nI_ne5, n5_ne, n5_lt, bI_0, bI_1, nI_add, pk_mul, if_pos, if_neg, ite_not, if_true, if_false, not_true_eq_false, not_false_eq_true, true_and, false_and, and_true, and_false, Nat.reduceAdd, Nat.reduceMul, c1, c2]
    · rw [hv] at hin
      obtain ⟨mu1, w5', w6', e1, e2, e3, e4⟩ := m_listsR d L p hO hs hb t j ht4 hj hv h1 3 0 mu w6 rfl hB hR hc
      refine next mu1 (.inl (nI j)) w5' w6' ?_ e2 e3 e4
      rw [← e1, h146_7]
      simp (disch := first | omega | assumption) only [h146_0, h146_1, h146_2, h146_5, h146_6, h146_8, h146_9, h146_12, h146_13, h146_14, h146_15, h146_18, h146_20, h146_21, h146_25, h146_26, h146_29, h146_30, h146_32, h146_35, h146_38, h146_40, h146_42, h146_45, h146_47, h146_48, h146_51, h146_53, h146_54, h146_55, h146_58, h146_59, h146_62, h146_64, h146_65, h146_66, h146_67, h146_70, h146_71, h146_73, h146_75, h146_76, h146_79, h146_81, h146_82, h146_83, h146_84, h146_85, h146_88, h146_90, h146_91, h146_92, h146_93, h146_96, h146_99, h146_102, h146_103, h146_105, h146_108, h146_111, h146_112, h146_114, h146_117, h146_120, h146_121, h146_124, h146_126, h146_127, h146_128, h146_130, h146_131, h146_132, h146_135, h146_136, h146_138, h146_140, h146_141, h146_144, h146_146, h146_147, h146_148, h146_150, h146_151, h146_152, h146_153, h146_156, h146_158, h146_159, h146_160, h146_162, h146_163, h146_164, h146_167, h146_170, h146_173, Option.bind_some, Option.toList_some, Option.toList_none, List.cons_append, List.nil_append, nI_ltc, nI_lec, nI_eqc, nI_ne5, n5_ne, n5_lt, bI_0, bI_1, nI_add, pk_mul, if_pos, if_neg, ite_not, if_true, if_false, not_true_eq_false, not_false_eq_true, true_and, false_and, and_true, and_false, Nat.reduceAdd, Nat.reduceMul, hin]
    · rw [hv] at hin
      obtain ⟨g1, g2⟩ := hM j hj h1 hbj
      have k2 : mu 106 (20 * j) = nI 2 := by rw [hB.1 j hj]; exact h1
      have k12 : mu 106 (20 * j + 12) = R 12 j := hB.2.2.1 j hj (k2_ne0 h1)
      have z : ∀ q, q < 3 → ¬q = 0 → SZ R s b (t * 3 + q) = 0 := fun q hq h0 => by
        have := psz_b (s := s) (f := fN R s) (k := t * 3 + q) (by omega) hj (by rw [d3 q hq]; exact hv) h1
        rw [if_neg (by omega)] at this
        exact this
      have ei : itl (SZ R s b) (AL R s b) (t * 3 + 3) = itl (SZ R s b) (AL R s b) (t * 3 + 1) := by
        rw [show t * 3 + 3 = t * 3 + 2 + 1 by omega, itl_n (z 2 (by omega) (by omega)), show t * 3 + 2 = t * 3 + 1 + 1 by omega, itl_n (z 1 (by omega) (by omega))]
      have hv' : R 5 (b * 4 + t * 3 / 3) = nI j := by rw [show t * 3 / 3 = t by omega]; exact hv
      have ps : SZ R s b (t * 3) = if ¬R 12 j = -5 ∧ t * 3 % 3 = 0 then fN R s j else 0 := psz_b (s := s) (f := fN R s) (k := t * 3) (by omega) hj hv' h1
      have hfN := (need_ok hO hs hj h1).1
      by_cases hz : SZ R s b (t * 3) = 0
      · refine next mu (.inl (nI j)) (.inl (nI 0)) w6 ?_ (by rw [ei, itl_n hz]; exact hR) (by rw [ei, itl_n hz]; exact hc) (FrI.rfl' mu)
        rw [h146_7]
        simp (disch := first | omega | assumption) only [h146_0, h146_1, h146_2, h146_5, h146_6, h146_8, h146_9, h146_12, h146_13, h146_14, h146_15, h146_18, h146_20, h146_21, h146_25, h146_26, h146_29, h146_30, h146_32, h146_35, h146_38, h146_40, h146_42, h146_45, h146_47, h146_48, h146_51, h146_53, h146_54, h146_55, h146_58, h146_59, h146_62, h146_64, h146_65, h146_66, h146_67, h146_70, h146_71, h146_73, h146_75, h146_76, h146_79, h146_81, h146_82, h146_83, h146_84, h146_85, h146_88, h146_90, h146_91, h146_92, h146_93, h146_96, h146_99, h146_102, h146_103, h146_105, h146_108, h146_111, h146_112, h146_114, h146_117, h146_120, h146_121, h146_124, h146_126, h146_127, h146_128, h146_130, h146_131, h146_132, h146_135, h146_136, h146_138, h146_140, h146_141, h146_144, h146_146, h146_147, h146_148, h146_150, h146_151, h146_152, h146_153, h146_156, h146_158, h146_159, h146_160, h146_162, h146_163, h146_164, h146_167, h146_170, h146_173, Option.bind_some, Option.toList_some, Option.toList_none, List.cons_append, List.nil_append, nI_ltc, nI_lec, nI_eqc, nI_ne5, n5_ne, n5_lt, bI_0, bI_1, nI_add, pk_mul, if_pos, if_neg, ite_not, if_true, if_false, not_true_eq_false, not_false_eq_true, true_and, false_and, and_true, and_false, Nat.reduceAdd, Nat.reduceMul, hin]
        rw [h146_23]
        by_cases h12 : R 12 j = -5
        · rw [h12] at k12
          simp (disch := first | omega | assumption) only [h146_0, h146_1, h146_2, h146_5, h146_6, h146_8, h146_9, h146_12, h146_13, h146_14, h146_15, h146_18, h146_20, h146_21, h146_25, h146_26, h146_29, h146_30, h146_32, h146_35, h146_38, h146_40, h146_42, h146_45, h146_47, h146_48, h146_51, h146_53, h146_54, h146_55, h146_58, h146_59, h146_62, h146_64, h146_65, h146_66, h146_67, h146_70, h146_71, h146_73, h146_75, h146_76, h146_79, h146_81, h146_82, h146_83, h146_84, h146_85, h146_88, h146_90, h146_91, h146_92, h146_93, h146_96, h146_99, h146_102, h146_103, h146_105, h146_108, h146_111, h146_112, h146_114, h146_117, h146_120, h146_121, h146_124, h146_126, h146_127, h146_128, h146_130, h146_131, h146_132, h146_135, h146_136, h146_138, h146_140, h146_141, h146_144, h146_146, h146_147, h146_148, h146_150, h146_151, h146_152, h146_153, h146_156, h146_158, h146_159, h146_160, h146_162, h146_163, h146_164, h146_167, h146_170, h146_173, Option.bind_some, Option.toList_some, Option.toList_none, List.cons_append, List.nil_append, nI_ltc, nI_lec, nI_eqc, nI_ne5, n5_ne, n5_lt, bI_0, bI_1, nI_add, pk_mul, if_pos, if_neg, ite_not, if_true, if_false, not_true_eq_false, not_false_eq_true, true_and, false_and, and_true, and_false, Nat.reduceAdd, Nat.reduceMul, m_isCard_n, m_isBridge_n, k2, m_isNumbered, k12]
        · rw [if_pos ⟨h12, by omega⟩, hz] at ps
          rw [← ps] at g1
          rw [← k12] at h12
          simp (disch := first | omega | assumption) only [h146_0, h146_1, h146_2, h146_5, h146_6, h146_8, h146_9, h146_12, h146_13, h146_14, h146_15, h146_18, h146_20, h146_21, h146_25, h146_26, h146_29, h146_30, h146_32, h146_35, h146_38, h146_40, h146_42, h146_45, h146_47, h146_48, h146_51, h146_53, h146_54, h146_55, h146_58, h146_59, h146_62, h146_64, h146_65, h146_66, h146_67, h146_70, h146_71, h146_73, h146_75, h146_76, h146_79, h146_81, h146_82, h146_83, h146_84, h146_85, h146_88, h146_90, h146_91, h146_92, h146_93, h146_96, h146_99, h146_102, h146_103, h146_105, h146_108, h146_111, h146_112, h146_114, h146_117, h146_120, h146_121, h146_124, h146_126, h146_127, h146_128, h146_130, h146_131, h146_132, h146_135, h146_136, h146_138, h146_140, h146_141, h146_144, h146_146, h146_147, h146_148, h146_150, h146_151, h146_152, h146_153, h146_156, h146_158, h146_159, h146_160, h146_162, h146_163, h146_164, h146_167, h146_170, h146_173, Option.bind_some, Option.toList_some, Option.toList_none, List.cons_append, List.nil_append, nI_ltc, nI_lec, nI_eqc, nI_ne5, n5_ne, n5_lt, bI_0, bI_1, nI_add, pk_mul, if_pos, if_neg, ite_not, if_true, if_false, not_true_eq_false, not_false_eq_true, true_and, false_and, and_true, and_false, Nat.reduceAdd, Nat.reduceMul, m_isCard_n, m_isBridge_n, k2, m_isNumbered, h12, g1]
      · have h12 : ¬R 12 j = -5 := fun q => hz (by rw [ps, if_neg (fun g => g.1 q)])
        rw [if_pos ⟨h12, by omega⟩] at ps
        obtain ⟨mu1, e1, e2, e3, e4⟩ := m_put1 (d + 2) L p hO hs hb (t * 3) (by omega) mu hz hR hc
        have v0 : pv R s b (t * 3) 0 = nI j := hv'
        have v1 : pv R s b (t * 3) 1 = -5 := by
          show (if R 2 (vn (R 5 (b * 4 + t * 3 / 3))) = nI 1 then nI (t * 3 % 3) else -5) = -5
          rw [hv', vn_n (by omega), if_neg (by rw [h1]; decide)]
        have pl : AL R s b (t * 3) = aN R s j := pal_b hj hv' h1 hz
        rw [v0, v1, ps, pl] at e1
        rw [← k12] at h12
        have l1 : ¬nI (fN R s j) ≤ nI 0 := by rw [nI_lec (by omega) (by omega)]; omega
        refine next mu1 (.inl (nI j)) (.inl (nI 0)) w6 ?_ (by rw [ei]; exact e2) (by rw [ei]; exact e3) e4
        rw [h146_7]
        simp (disch := first | omega | assumption) only [h146_0, h146_1, h146_2, h146_5, h146_6, h146_8, h146_9, h146_12, h146_13, h146_14, h146_15, h146_18, h146_20, h146_21, h146_25, h146_26, h146_29, h146_30, h146_32, h146_35, h146_38, h146_40, h146_42, h146_45, h146_47, h146_48, h146_51, h146_53, h146_54, h146_55, h146_58, h146_59, h146_62, h146_64, h146_65, h146_66, h146_67, h146_70, h146_71, h146_73, h146_75, h146_76, h146_79, h146_81, h146_82, h146_83, h146_84, h146_85, h146_88, h146_90, h146_91, h146_92, h146_93, h146_96, h146_99, h146_102, h146_103, h146_105, h146_108, h146_111, h146_112, h146_114, h146_117, h146_120, h146_121, h146_124, h146_126, h146_127, h146_128, h146_130, h146_131, h146_132, h146_135, h146_136, h146_138, h146_140, h146_141, h146_144, h146_146, h146_147, h146_148, h146_150, h146_151, h146_152, h146_153, h146_156, h146_158, h146_159, h146_160, h146_162, h146_163, h146_164, h146_167, h146_170, h146_173, Option.bind_some, Option.toList_some, Option.toList_none, List.cons_append, List.nil_append, nI_ltc, nI_lec, nI_eqc, nI_ne5, n5_ne, n5_lt, bI_0, bI_1, nI_add, pk_mul, if_pos, if_neg, ite_not, if_true, if_false, not_true_eq_false, not_false_eq_true, true_and, false_and, and_true, and_false, Nat.reduceAdd, Nat.reduceMul, hin]
        rw [h146_23]
        simp (disch := first | omega | assumption) only [h146_0, h146_1, h146_2, h146_5, h146_6, h146_8, h146_9, h146_12, h146_13, h146_14, h146_15, h146_18, h146_20, h146_21, h146_25, h146_26, h146_29, h146_30, h146_32, h146_35, h146_38, h146_40, h146_42, h146_45, h146_47, h146_48, h146_51, h146_53, h146_54, h146_55, h146_58, h146_59, h146_62, h146_64, h146_65, h146_66, h146_67, h146_70, h146_71, h146_73, h146_75, h146_76, h146_79, h146_81, h146_82, h146_83, h146_84, h146_85, h146_88, h146_90, h146_91, h146_92, h146_93, h146_96, h146_99, h146_102, h146_103, h146_105, h146_108, h146_111, h146_112, h146_114, h146_117, h146_120, h146_121, h146_124, h146_126, h146_127, h146_128, h146_130, h146_131, h146_132, h146_135, h146_136, h146_138, h146_140, h146_141, h146_144, h146_146, h146_147, h146_148, h146_150, h146_151, h146_152, h146_153, h146_156, h146_158, h146_159, h146_160, h146_162, h146_163, h146_164, h146_167, h146_170, h146_173, Option.bind_some, Option.toList_some, Option.toList_none, List.cons_append, List.nil_append, nI_ltc, nI_lec, nI_eqc, nI_ne5, n5_ne, n5_lt, bI_0, bI_1, nI_add, pk_mul, if_pos, if_neg, ite_not, if_true, if_false, not_true_eq_false, not_false_eq_true, true_and, false_and, and_true, and_false, Nat.reduceAdd, Nat.reduceMul, m_isCard_n, m_isBridge_n, k2, m_isNumbered, h12, g1, g2, l1, e1]
theorem m_lists {R : RV} (hO : OK R) {s b : Nat} (hs : s < 2) (hb : b < 13) (mu : RV) (hB : RelL R mu) (hM : LayM R s b mu) :
    ∃ mu', zsem (d + 3) 146 0 [.inr (some 105), .inl (nI b), .inl (nI s), .inr none, .inr none, .inr none, .inr none] [] (HH L mu p) = some (none, HH L mu' p) ∧ Rep (pv R s b) 0 (IT R s b) mu' ∧ mu' 105 7 = nI (IT R s b).length ∧ FrI mu mu' := by
  have f0 : FrI mu (u2 mu 105 7 (nI 0)) := ⟨fun r g1 g2 => u2_row g1, fun i hi => u2_o _ _ (by omega)⟩
  obtain ⟨mu', e1, e2, e3, e4⟩ := m_listsL d L p hO hs hb 4 0 (u2 mu 105 7 (nI 0)) (.inr none) (.inr none) (.inr none) rfl (RelL_cong hB (u2_row (by omega))) (fun j g1 g2 g3 => by rw [u2_row (by omega), u2_row (by omega)]; exact hM j g1 g2 g3) (fun i x hx => by cases hx) (u2_s _ _ _ _)
  refine ⟨mu', ?_, e2, e3, FrI.tr f0 e4⟩
  rw [← e1]
  simp (disch := first | omega | assumption) only [h146_0, h146_1, h146_2, h146_5, h146_6, h146_8, h146_9, h146_12, h146_13, h146_14, h146_15, h146_18, h146_20, h146_21, h146_25, h146_26, h146_29, h146_30, h146_32, h146_35, h146_38, h146_40, h146_42, h146_45, h146_47, h146_48, h146_51, h146_53, h146_54, h146_55, h146_58, h146_59, h146_62, h146_64, h146_65, h146_66, h146_67, h146_70, h146_71, h146_73, h146_75, h146_76, h146_79, h146_81, h146_82, h146_83, h146_84, h146_85, h146_88, h146_90, h146_91, h146_92, h146_93, h146_96, h146_99, h146_102, h146_103, h146_105, h146_108, h146_111, h146_112, h146_114, h146_117, h146_120, h146_121, h146_124, h146_126, h146_127, h146_128, h146_130, h146_131, h146_132, h146_135, h146_136, h146_138, h146_140, h146_141, h146_144, h146_146, h146_147, h146_148, h146_150, h146_151, h146_152, h146_153, h146_156, h146_158, h146_159, h146_160, h146_162, h146_163, h146_164, h146_167, h146_170, h146_173, Option.bind_some, Option.toList_some, Option.toList_none, List.cons_append, List.nil_append, nI_ltc, nI_lec, nI_eqc, nI_ne5, n5_ne, n5_lt, bI_0, bI_1, nI_add, pk_mul, if_pos, if_neg, ite_not, if_true, if_false, not_true_eq_false, not_false_eq_true, true_and, false_and, and_true, and_false, Nat.reduceAdd, Nat.reduceMul]
end
