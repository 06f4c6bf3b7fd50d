/-! numbering: reference -/
theorem RelB_12 {R mu : RV} (h : RelB R (fun t => mu 106 t)) {j : Nat} (hj : j < 12) (hk : ¬R 2 j = nI 0) (x : Int32) : RelB (u2 R 12 j x) (fun t => u2 mu 106 (20 * j + 12) x 106 t) := by
  have h13 := (h.dev hj hk).2.2.2
  have e1 : u2 (u2 R 12 j x) 13 j (R 13 j) = u2 R 12 j x := u2_same (by rw [u2_row (by omega)])
  have e2 : u2 (u2 mu 106 (20 * j + 12) x) 106 (20 * j + 13) (R 13 j) = u2 mu 106 (20 * j + 12) x := u2_same (by rw [u2_o _ _ (by omega)]; exact h13)
  have := RelB_u12 h hj x (R 13 j)
  rw [e1] at this
  refine RelB_cong this (fun t _ => ?_)
  rw [e2]
theorem RelB_13 {R mu : RV} (h : RelB R (fun t => mu 106 t)) {j : Nat} (hj : j < 12) (hk : ¬R 2 j = nI 0) (y : Int32) : RelB (u2 R 13 j y) (fun t => u2 mu 106 (20 * j + 13) y 106 t) := by
  have h12 := (h.dev hj hk).2.2.1
  have e1 : u2 (u2 R 12 j (R 12 j)) 13 j y = u2 R 13 j y := by rw [u2_same (R := R) rfl]
  have e2 : u2 mu 106 (20 * j + 12) (R 12 j) = mu := u2_same h12
  have := RelB_u12 h hj (R 12 j) y
  rw [e1] at this
  refine RelB_cong this (fun t _ => ?_)
  rw [e2]
/-- only the numbers of the current rack differ -/
def FrW (mu mu' : RV) : Prop := (∀ r, ¬r = 106 → mu' r = mu r) ∧ ∀ t, 240 ≤ t → mu' 106 t = mu 106 t
theorem FrW.tr {mu mu1 mu2 : RV} (h : FrW mu mu1) (h' : FrW mu1 mu2) : FrW mu mu2 := ⟨fun r g => by rw [h'.1 r g, h.1 r g], fun t ht => by rw [h'.2 t ht, h.2 t ht]⟩
theorem FrW.rfl' (mu : RV) : FrW mu mu := ⟨fun _ _ => rfl, fun _ _ => rfl⟩
section
variable (d L : Nat) (p : Nat → Nat)
/-- past the slots of a bus without devices -/
theorem m_walkE {R : RV} (hI : InvT R) {b x : Nat} (hb : b < 13) (hno : ∀ t, t < 4 → R 5 (b * 4 + t) = -5) (mu : RV) (hB : RelB R (fun t => mu 106 t)) : ∀ m (w4 w5 : AV), m ≤ 4 → ∃ w4', zsem (d + 3) 144 7 [.inr (some 105), .inl (nI x), .inl (nI b), .inl (nI (4 - m)), w4, w5] [] (HH L mu p) = zsem (d + 3) 144 7 [.inr (some 105), .inl (nI x), .inl (nI b), .inl (nI 4), w4', w5] [] (HH L mu p) := by
  intro m
  induction m with
  | zero => intro w4 w5 _; exact ⟨w4, rfl⟩
  | succ m ih =>
    intro w4 w5 hm
    have ht : 4 - (m + 1) = 3 - m := by omega
    have ht1 : 4 - m = 3 - m + 1 := by omega
    obtain ⟨w4', e⟩ := ih (.inl (-5)) w5 (by omega)
    refine ⟨w4', ?_⟩
    have hin := m_inSlot d L mu p hB hI b (3 - m) hb (by omega)
    rw [hno (3 - m) (by omega)] at hin
    have c2 := m_isBridge_o d L mu p (-5) (Or.inl (by decide))
    rw [← e, ht, ht1, h144_7]
    by_cases h12 : b = 12
    · simp (disch := first | omega | assumption) only [h144_0, h144_1, h144_2, h144_4, h144_5, h144_6, h144_8, h144_10, h144_13, h144_14, h144_15, h144_18, h144_19, h144_20, h144_23, h144_24, h144_25, h144_26, h144_29, h144_32, h144_34, h144_36, h144_37, h144_38, h144_41, h144_42, h144_43, h144_44, h144_45, h144_48, h144_51, h144_52, h144_53, h144_55, h144_56, h144_59, h144_60, h144_63, h144_65, h144_66, h144_68, h144_70, h144_73, h144_75, h144_78, h144_80, h144_81, h144_82, h144_85, h144_86, h144_89, h144_91, h144_92, h144_93, h144_94, h144_95, h144_96, h144_97, h144_100, h144_101, h144_104, h144_105, h144_106, h144_107, h144_108, h144_109, h144_110, h144_111, h144_114, h144_115, h144_118, h144_119, h144_120, h144_121, h144_122, h144_125, h144_126, h144_128, h144_131, h144_134, h144_135, h144_137, h144_140, h144_141, h144_144, h144_146, h144_149, h144_151, h144_152, h144_153, h144_154, h144_157, h144_159, h144_160, h144_161, h144_162, h144_165, h144_168, h144_171, Option.bind_some, Option.toList_some, Option.toList_none, List.cons_append, List.nil_append, nI_ltc, nI_lec, nI_eqc, nI_ne5, n5_ne, n5_lt, bI_0, bI_1, nI_add, pk_mul, if_pos, if_neg, ite_not, if_true, if_false, not_true_eq_false, not_false_eq_true, true_and, false_and, and_true, and_false, Nat.reduceAdd, Nat.reduceMul, h12, hin, c2]
      subst h12
      simp (disch := first | omega | assumption) only [h144_0, h144_1, h144_2, h144_4, h144_5, h144_6, h144_8, h144_10, h144_13, h144_14, h144_15, h144_18, h144_19, h144_20, h144_23, h144_24, h144_25, h144_26, h144_29, h144_32, h144_34, h144_36, h144_37, h144_38, h144_41, h144_42, h144_43, h144_44, h144_45, h144_48, h144_51, h144_52, h144_53, h144_55, h144_56, h144_59, h144_60, h144_63, h144_65, h144_66, h144_68, h144_70, h144_73, h144_75, h144_78, h144_80, h144_81, h144_82, h144_85, h144_86, h144_89, h144_91, h144_92, h144_93, h144_94, h144_95, h144_96, h144_97, h144_100, h144_101, h144_104, h144_105, h144_106, h144_107, h144_108, h144_109, h144_110, h144_111, h144_114, h144_115, h144_118, h144_119, h144_120, h144_121, h144_122, h144_125, h144_126, h144_128, h144_131, h144_134, h144_135, h144_137, h144_140, h144_141, h144_144, h144_146, h144_149, h144_151, h144_152, h144_153, h144_154, h144_157, h144_159, h144_160, h144_161, h144_162, h144_165, h144_168, h144_171, Option.bind_some, Option.toList_some, Option.toList_none, List.cons_append, List.nil_append, nI_ltc, nI_lec, nI_eqc, nI_ne5, n5_ne, n5_lt, bI_0, bI_1, nI_add, pk_mul, if_pos, if_neg, ite_not, if_true, if_false, not_true_eq_false, not_false_eq_true, true_and, false_and, and_true, and_false, Nat.reduceAdd, Nat.reduceMul, hin, c2]
    · simp (disch := first | omega | assumption) only [h144_0, h144_1, h144_2, h144_4, h144_5, h144_6, h144_8, h144_10, h144_13, h144_14, h144_15, h144_18, h144_19, h144_20, h144_23, h144_24, h144_25, h144_26, h144_29, h144_32, h144_34, h144_36, h144_37, h144_38, h144_41, h144_42, h144_43, h144_44, h144_45, h144_48, h144_51, h144_52, h144_53, h144_55, h144_56, h144_59, h144_60, h144_63, h144_65, h144_66, h144_68, h144_70, h144_73, h144_75, h144_78, h144_80, h144_81, h144_82, h144_85, h144_86, h144_89, h144_91, h144_92, h144_93, h144_94, h144_95, h144_96, h144_97, h144_100, h144_101, h144_104, h144_105, h144_106, h144_107, h144_108, h144_109, h144_110, h144_111, h144_114, h144_115, h144_118, h144_119, h144_120, h144_121, h144_122, h144_125, h144_126, h144_128, h144_131, h144_134, h144_135, h144_137, h144_140, h144_141, h144_144, h144_146, h144_149, h144_151, h144_152, h144_153, h144_154, h144_157, h144_159, h144_160, h144_161, h144_162, h144_165, h144_168, h144_171, Option.bind_some, Option.toList_some, Option.toList_none, List.cons_append, List.nil_append, nI_ltc, nI_lec, nI_eqc, nI_ne5, n5_ne, n5_lt, bI_0, bI_1, nI_add, pk_mul, if_pos, if_neg, ite_not, if_true, if_false, not_true_eq_false, not_false_eq_true, true_and, false_and, and_true, and_false, Nat.reduceAdd, Nat.reduceMul, h12, hin, c2]
def lev (R : RV) (n b : Nat) : Prop := ∀ j, j < 12 → R 2 j = nI 2 → bn R j = b → dq R j + n = 4
theorem lev_N {R R' : RV} (h : SameN R R') {n b : Nat} (hl : lev R n b) : lev R' n b := by
  intro j hj h2 hb
  have e2 := h 2 (by omega) (by omega)
  have e3 := h 3 (by omega) (by omega)
  have hd : dq R' j = dq R j := by
    unfold dq
    rw [dpt_cong e2 e3, bn_cong e3]
  rw [hd]
  rw [e2] at h2
  rw [bn_cong e3] at hb
  exact hl j hj h2 hb
theorem m_head (mu : RV) {b t : Nat} (hb : b < 13) (ht : t < 4) (x : Int32) (w4 w5 : AV) : zsem d 144 7 [.inr (some 105), .inl x, .inl (nI b), .inl (nI t), w4, w5] [] (HH L mu p) = zsem d 144 18 [.inr (some 105), .inl x, .inl (nI b), .inl (nI t), w4, w5] [] (HH L mu p) := by
  by_cases h12 : b = 12
  · subst h12
    simp (disch := first | omega | assumption) only [h144_7, h144_8, h144_10, h144_13, h144_14, h144_15, nI_ltc, nI_lec, nI_eqc, nI_ne5, n5_ne, n5_lt, bI_0, bI_1, nI_add, pk_mul, if_pos, if_neg, ite_not, if_true, if_false, not_true_eq_false, not_false_eq_true, true_and, false_and, and_true, and_false, Nat.reduceAdd, Nat.reduceMul]
  · simp (disch := first | omega | assumption) only [h144_7, h144_8, h144_10, nI_ltc, nI_lec, nI_eqc, nI_ne5, n5_ne, n5_lt, bI_0, bI_1, nI_add, pk_mul, if_pos, if_neg, ite_not, if_true, if_false, not_true_eq_false, not_false_eq_true, true_and, false_and, and_true, and_false, Nat.reduceAdd, Nat.reduceMul, h12]
theorem m_walkL {n g : Nat} (hg : g < 3) {b : Nat} (hb : b < 13)
    (ch : ∀ mu R j y (w4 w5 : AV), j < 12 → R 2 j = nI 2 → bn R j = b → lev R n b → InvT R → R 1 12 = nI g → RelB R (fun t => mu 106 t) → y ≤ 16 → ∃ mu' w4' w5', zsem (d + 3) 144 7 [.inr (some 105), .inl (nI y), .inl (nI j), .inl (nI 0), w4, w5] [] (HH L mu p) = zsem (d + 3) 144 7 [.inr (some 105), .inl (nI (nbB n R j y).2), .inl (nI j), .inl (nI 4), w4', w5'] [] (HH L mu' p) ∧ RelB (nbB n R j y).1 (fun t => mu' 106 t) ∧ FrW mu mu') :
    ∀ m mu R x (w4 w5 : AV), m ≤ 4 → lev R n b → InvT R → R 1 12 = nI g → RelB R (fun t => mu 106 t) → x ≤ 16 → ∃ mu' w4' w5', zsem (d + 3) 144 7 [.inr (some 105), .inl (nI x), .inl (nI b), .inl (nI (4 - m)), w4, w5] [] (HH L mu p) = zsem (d + 3) 144 7 [.inr (some 105), .inl (nI (visS (nbB n) b m R x).2), .inl (nI b), .inl (nI 4), w4', w5'] [] (HH L mu' p) ∧ RelB (visS (nbB n) b m R x).1 (fun t => mu' 106 t) ∧ FrW mu mu' := by
  intro m
  induction m with
  | zero =>
    intro mu R x w4 w5 hm hl hI hgp hB hx
    exact ⟨mu, w4, w5, rfl, hB, FrW.rfl' mu⟩
  | succ m ihm =>
    intro mu R x w4 w5 hm hl hI hgp hB hx
    have ht : 4 - (m + 1) = 3 - m := by omega
    have ht1 : 4 - m = 3 - m + 1 := by omega
    have hin := m_inSlot d L mu p hB hI b (3 - m) hb (by omega)
    have hh := m_head (d + 3) L p mu hb (show 3 - m < 4 by omega) (nI x) w4 w5
    rw [ht]
    have pass : (if x ≤ 15 then nbJ R b (3 - m) else none) = none → (∃ w4', zsem (d + 3) 144 7 [.inr (some 105), .inl (nI x), .inl (nI b), .inl (nI (3 - m)), w4, w5] [] (HH L mu p) = zsem (d + 3) 144 7 [.inr (some 105), .inl (nI x), .inl (nI b), .inl (nI (3 - m + 1)), w4', w5] [] (HH L mu p)) → ∃ mu' w4' w5', zsem (d + 3) 144 7 [.inr (some 105), .inl (nI x), .inl (nI b), .inl (nI (3 - m)), w4, w5] [] (HH L mu p) = zsem (d + 3) 144 7 [.inr (some 105), .inl (nI (visS (nbB n) b (m + 1) R x).2), .inl (nI b), .inl (nI 4), w4', w5'] [] (HH L mu' p) ∧ RelB (visS (nbB n) b (m + 1) R x).1 (fun t => mu' 106 t) ∧ FrW mu mu' := by
      rintro h0 ⟨w', e⟩
      obtain ⟨mu', a4, a5, e1, e2, e3⟩ := ihm mu R x w' w5 (by omega) hl hI hgp hB hx
      rw [visS, h0]
      exact ⟨mu', a4, a5, by rw [e, ← ht1]; exact e1, e2, e3⟩
    rcases hI.2.2.1 b (3 - m) hb (by omega) with hv | ⟨j, hj, hv, hkj, -, -⟩
    · rw [hv] at hin
      have c2 := m_isBridge_o d L mu p (-5) (Or.inl (by decide))
      refine pass (by unfold nbJ; rw [if_pos hv]; split <;> rfl) ⟨.inl (-5), ?_⟩
      rw [hh]
      simp (disch := first | omega | assumption) only [h144_0, h144_1, h144_2, h144_4, h144_5, h144_6, h144_8, h144_10, h144_13, h144_14, h144_15, h144_18, h144_19, h144_20, h144_23, h144_24, h144_25, h144_26, h144_29, h144_32, h144_34, h144_36, h144_37, h144_38, h144_41, h144_42, h144_43, h144_44, h144_45, h144_48, h144_51, h144_52, h144_53, h144_55, h144_56, h144_59, h144_60, h144_63, h144_65, h144_66, h144_68, h144_70, h144_73, h144_75, h144_78, h144_80, h144_81, h144_82, h144_85, h144_86, h144_89, h144_91, h144_92, h144_93, h144_94, h144_95, h144_96, h144_97, h144_100, h144_101, h144_104, h144_105, h144_106, h144_107, h144_108, h144_109, h144_110, h144_111, h144_114, h144_115, h144_118, h144_119, h144_120, h144_121, h144_122, h144_125, h144_126, h144_128, h144_131, h144_134, h144_135, h144_137, h144_140, h144_141, h144_144, h144_146, h144_149, h144_151, h144_152, h144_153, h144_154, h144_157, h144_159, h144_160, h144_161, h144_162, h144_165, h144_168, h144_171, Option.bind_some, Option.toList_some, Option.toList_none, List.cons_append, List.nil_append, nI_ltc, nI_lec, nI_eqc, nI_ne5, n5_ne, n5_lt, bI_0, bI_1, nI_add, pk_mul, if_pos, if_neg, ite_not, if_true, if_false, not_true_eq_false, not_false_eq_true, true_and, false_and, and_true, and_false, Nat.reduceAdd, Nat.reduceMul, hin, c2]
    · rw [hv] at hin
      have k2 := hB.kind hj
      obtain ⟨sb1, sb2, sb3⟩ := slot_bk hI hb (by omega) hj hv
      by_cases hk : R 2 j = nI 2
      · rw [hk] at k2
        by_cases hx15 : x ≤ 15
        · have hJ : (if x ≤ 15 then nbJ R b (3 - m) else none) = some j := by
            rw [if_pos hx15]
            unfold nbJ
            rw [hv, vn_n (by omega), if_neg (by rw [nI_ne5 (by omega)]; exact id), if_pos hk]
          have hB1 := RelB_12 hB hj sb3 (nI x)
          have hS1 : SameN R (u2 R 12 j (nI x)) := fun a h1 _ => u2_row h1
          have hI1 : InvT (u2 R 12 j (nI x)) := InvT_cong (hS1 2 (by omega) (by omega)) (hS1 3 (by omega) (by omega)) (hS1 4 (by omega) (by omega)) (hS1 5 (by omega) (by omega)) hI
          obtain ⟨mu1, a4, a5, e1, e2, e3⟩ := ch (u2 mu 106 (20 * j + 12) (nI x)) (u2 R 12 j (nI x)) j (x + 1) (.inl (nI j)) w5 hj (by rw [u2_row (by omega)]; exact hk) (by rw [bn_cong (hS1 3 (by omega) (by omega))]; exact sb1) (lev_N hS1 hl) hI1 (by rw [u2_row (by omega)]; exact hgp) hB1 (by omega)
          have hbd := nb_bd n (u2 R 12 j (nI x)) j (x + 1) (by omega)
          have hN : SameN R (nbB n (u2 R 12 j (nI x)) j (x + 1)).1 := fun a h1 h2 => by rw [nb_N n _ _ _ a h1 h2, u2_row h1]
          rw [visS, hJ]
          dsimp only
          generalize hr : nbB n (u2 R 12 j (nI x)) j (x + 1) = r at *
          have hla : nla R r.2 = min 15 (r.2 - 1 + g) := by unfold nla; rw [hgp, vn_n (by omega)]
          have hlb : nla R r.2 ≤ 15 := by rw [hla]; omega
          have hs1 : nI r.2 - nI 1 = nI (r.2 - 1) := nI_sub (by omega)
          have hk1 : ¬r.1 2 j = nI 0 := by rw [hN 2 (by omega) (by omega)]; exact sb3
          obtain ⟨d1, d2, -, -⟩ := e2.dev hj hk1
          have d1 : mu1 106 (20 * j + 1) = nI b := by
            rw [d1, hN 3 (by omega) (by omega), (hI.bus hj sb3).2.1, sb1]
          have d2 : mu1 106 (20 * j + 2) = nI (3 - m) := by
            rw [d2, hN 4 (by omega) (by omega)]
            rcases hI.2.2.1 b (3 - m) hb (by omega) with q | ⟨i, hi2, q2, -, -, q5⟩
            · rw [hv, nI_ne5 (by omega)] at q; exact q.elim
            · rw [hv, nI_eqc (by omega) (by omega)] at q2
              rw [q2]; exact q5
          have hgp1 : mu1 106 240 = nI g := by
            have := e2.1
            dsimp only at this
            rw [this, hN 1 (by omega) (by omega)]; exact hgp
          have hB2 := RelB_13 e2 hj hk1 (nI (nla R r.2))
          have hS2 : SameN R (u2 r.1 13 j (nI (nla R r.2))) := fun a h1 h2 => by rw [u2_row h2]; exact hN a h1 h2
          obtain ⟨mu', b4, b5, f1, f2, f3⟩ := ihm (u2 mu1 106 (20 * j + 13) (nI (nla R r.2))) (u2 r.1 13 j (nI (nla R r.2))) (nla R r.2 + 1) (.inl (-5)) (.inl (nI (r.2 - 1 + g))) (by omega) (lev_N hS2 hl) (InvT_cong (hS2 2 (by omega) (by omega)) (hS2 3 (by omega) (by omega)) (hS2 4 (by omega) (by omega)) (hS2 5 (by omega) (by omega)) hI) (by rw [hS2 1 (by omega) (by omega)]; exact hgp) hB2 (by omega)
          refine ⟨mu', b4, b5, ?_, f2, FrW.tr ⟨fun r h1 => u2_row h1, fun t ht => u2_o _ _ (by omega)⟩ (e3.tr (FrW.tr ⟨fun r h1 => u2_row h1, fun t ht => u2_o _ _ (by omega)⟩ f3))⟩
          have hu : u2 mu1 106 (20 * j + 13) (nI (nla R r.2)) 106 (20 * j + 13) = nI (nla R r.2) := u2_s _ _ _ _
          have hj12 : ¬j = 12 := by omega
          have hclose : zsem (d + 3) 144 7 [.inr (some 105), .inl (nI r.2), .inl (nI j), .inl (nI 4), a4, a5] [] (HH L mu1 p) = zsem (d + 3) 144 7 [.inr (some 105), .inl (nI (nla R r.2 + 1)), .inl (nI b), .inl (nI (3 - m + 1)), .inl (-5), .inl (nI (r.2 - 1 + g))] [] (HH L (u2 mu1 106 (20 * j + 13) (nI (nla R r.2))) p) := by
            rw [h144_7]
            by_cases h15 : r.2 - 1 + g ≤ 15
            · have hle : nla R r.2 = r.2 - 1 + g := by rw [hla]; omega
              rw [hle] at hu ⊢
              simp (disch := first | omega | assumption) only [h144_0, h144_1, h144_2, h144_4, h144_5, h144_6, h144_8, h144_10, h144_13, h144_14, h144_15, h144_18, h144_19, h144_20, h144_23, h144_24, h144_25, h144_26, h144_29, h144_32, h144_34, h144_36, h144_37, h144_38, h144_41, h144_42, h144_43, h144_44, h144_45, h144_48, h144_51, h144_52, h144_53, h144_55, h144_56, h144_59, h144_60, h144_63, h144_65, h144_66, h144_68, h144_70, h144_73, h144_75, h144_78, h144_80, h144_81, h144_82, h144_85, h144_86, h144_89, h144_91, h144_92, h144_93, h144_94, h144_95, h144_96, h144_97, h144_100, h144_101, h144_104, h144_105, h144_106, h144_107, h144_108, h144_109, h144_110, h144_111, h144_114, h144_115, h144_118, h144_119, h144_120, h144_121, h144_122, h144_125, h144_126, h144_128, h144_131, h144_134, h144_135, h144_137, h144_140, h144_141, h144_144, h144_146, h144_149, h144_151, h144_152, h144_153, h144_154, h144_157, h144_159, h144_160, h144_161, h144_162, h144_165, h144_168, h144_171, Option.bind_some, Option.toList_some, Option.toList_none, List.cons_append, List.nil_append, nI_ltc, nI_lec, nI_eqc, nI_ne5, n5_ne, n5_lt, bI_0, bI_1, nI_add, pk_mul, if_pos, if_neg, ite_not, if_true, if_false, not_true_eq_false, not_false_eq_true, true_and, false_and, and_true, and_false, Nat.reduceAdd, Nat.reduceMul, hj12, hs1, hgp1, m_at, hu, u2_o, d1, d2]
            · have hle : nla R r.2 = 15 := by rw [hla]; omega
              rw [hle] at hu ⊢
              simp (disch := first | omega | assumption) only [h144_0, h144_1, h144_2, h144_4, h144_5, h144_6, h144_8, h144_10, h144_13, h144_14, h144_15, h144_18, h144_19, h144_20, h144_23, h144_24, h144_25, h144_26, h144_29, h144_32, h144_34, h144_36, h144_37, h144_38, h144_41, h144_42, h144_43, h144_44, h144_45, h144_48, h144_51, h144_52, h144_53, h144_55, h144_56, h144_59, h144_60, h144_63, h144_65, h144_66, h144_68, h144_70, h144_73, h144_75, h144_78, h144_80, h144_81, h144_82, h144_85, h144_86, h144_89, h144_91, h144_92, h144_93, h144_94, h144_95, h144_96, h144_97, h144_100, h144_101, h144_104, h144_105, h144_106, h144_107, h144_108, h144_109, h144_110, h144_111, h144_114, h144_115, h144_118, h144_119, h144_120, h144_121, h144_122, h144_125, h144_126, h144_128, h144_131, h144_134, h144_135, h144_137, h144_140, h144_141, h144_144, h144_146, h144_149, h144_151, h144_152, h144_153, h144_154, h144_157, h144_159, h144_160, h144_161, h144_162, h144_165, h144_168, h144_171, Option.bind_some, Option.toList_some, Option.toList_none, List.cons_append, List.nil_append, nI_ltc, nI_lec, nI_eqc, nI_ne5, n5_ne, n5_lt, bI_0, bI_1, nI_add, pk_mul, if_pos, if_neg, ite_not, if_true, if_false, not_true_eq_false, not_false_eq_true, true_and, false_and, and_true, and_false, Nat.reduceAdd, Nat.reduceMul, hj12, hs1, hgp1, m_at, hu, u2_o, d1, d2]
          rw [← f1, ht1, ← hclose, ← e1, hh]
          simp (disch := first | omega | assumption) only [h144_0, h144_1, h144_2, h144_4, h144_5, h144_6, h144_8, h144_10, h144_13, h144_14, h144_15, h144_18, h144_19, h144_20, h144_23, h144_24, h144_25, h144_26, h144_29, h144_32, h144_34, h144_36, h144_37, h144_38, h144_41, h144_42, h144_43, h144_44, h144_45, h144_48, h144_51, h144_52, h144_53, h144_55, h144_56, h144_59, h144_60, h144_63, h144_65, h144_66, h144_68, h144_70, h144_73, h144_75, h144_78, h144_80, h144_81, h144_82, h144_85, h144_86, h144_89, h144_91, h144_92, h144_93, h144_94, h144_95, h144_96, h144_97, h144_100, h144_101, h144_104, h144_105, h144_106, h144_107, h144_108, h144_109, h144_110, h144_111, h144_114, h144_115, h144_118, h144_119, h144_120, h144_121, h144_122, h144_125, h144_126, h144_128, h144_131, h144_134, h144_135, h144_137, h144_140, h144_141, h144_144, h144_146, h144_149, h144_151, h144_152, h144_153, h144_154, h144_157, h144_159, h144_160, h144_161, h144_162, h144_165, h144_168, h144_171, Option.bind_some, Option.toList_some, Option.toList_none, List.cons_append, List.nil_append, nI_ltc, nI_lec, nI_eqc, nI_ne5, n5_ne, n5_lt, bI_0, bI_1, nI_add, pk_mul, if_pos, if_neg, ite_not, if_true, if_false, not_true_eq_false, not_false_eq_true, true_and, false_and, and_true, and_false, Nat.reduceAdd, Nat.reduceMul, hin, m_isBridge_n, k2, m_at]
        · refine pass (by rw [if_neg hx15]) ⟨.inl (nI j), ?_⟩
          rw [hh]
          simp (disch := first | omega | assumption) only [h144_0, h144_1, h144_2, h144_4, h144_5, h144_6, h144_8, h144_10, h144_13, h144_14, h144_15, h144_18, h144_19, h144_20, h144_23, h144_24, h144_25, h144_26, h144_29, h144_32, h144_34, h144_36, h144_37, h144_38, h144_41, h144_42, h144_43, h144_44, h144_45, h144_48, h144_51, h144_52, h144_53, h144_55, h144_56, h144_59, h144_60, h144_63, h144_65, h144_66, h144_68, h144_70, h144_73, h144_75, h144_78, h144_80, h144_81, h144_82, h144_85, h144_86, h144_89, h144_91, h144_92, h144_93, h144_94, h144_95, h144_96, h144_97, h144_100, h144_101, h144_104, h144_105, h144_106, h144_107, h144_108, h144_109, h144_110, h144_111, h144_114, h144_115, h144_118, h144_119, h144_120, h144_121, h144_122, h144_125, h144_126, h144_128, h144_131, h144_134, h144_135, h144_137, h144_140, h144_141, h144_144, h144_146, h144_149, h144_151, h144_152, h144_153, h144_154, h144_157, h144_159, h144_160, h144_161, h144_162, h144_165, h144_168, h144_171, Option.bind_some, Option.toList_some, Option.toList_none, List.cons_append, List.nil_append, nI_ltc, nI_lec, nI_eqc, nI_ne5, n5_ne, n5_lt, bI_0, bI_1, nI_add, pk_mul, if_pos, if_neg, ite_not, if_true, if_false, not_true_eq_false, not_false_eq_true, true_and, false_and, and_true, and_false, Nat.reduceAdd, Nat.reduceMul, hin, m_isBridge_n, k2]
      · refine pass (by unfold nbJ; rw [hv, vn_n (by omega), if_neg (show ¬nI j = -5 by rw [nI_ne5 (by omega)]; exact id), if_neg hk]; split <;> rfl) ⟨.inl (nI j), ?_⟩
        rw [← k2] at hk
        rw [hh]
        simp (disch := first | omega | assumption) only [h144_0, h144_1, h144_2, h144_4, h144_5, h144_6, h144_8, h144_10, h144_13, h144_14, h144_15, h144_18, h144_19, h144_20, h144_23, h144_24, h144_25, h144_26, h144_29, h144_32, h144_34, h144_36, h144_37, h144_38, h144_41, h144_42, h144_43, h144_44, h144_45, h144_48, h144_51, h144_52, h144_53, h144_55, h144_56, h144_59, h144_60, h144_63, h144_65, h144_66, h144_68, h144_70, h144_73, h144_75, h144_78, h144_80, h144_81, h144_82, h144_85, h144_86, h144_89, h144_91, h144_92, h144_93, h144_94, h144_95, h144_96, h144_97, h144_100, h144_101, h144_104, h144_105, h144_106, h144_107, h144_108, h144_109, h144_110, h144_111, h144_114, h144_115, h144_118, h144_119, h144_120, h144_121, h144_122, h144_125, h144_126, h144_128, h144_131, h144_134, h144_135, h144_137, h144_140, h144_141, h144_144, h144_146, h144_149, h144_151, h144_152, h144_153, h144_154, h144_157, h144_159, h144_160, h144_161, h144_162, h144_165, h144_168, h144_171, Option.bind_some, Option.toList_some, Option.toList_none, List.cons_append, List.nil_append, nI_ltc, nI_lec, nI_eqc, nI_ne5, n5_ne, n5_lt, bI_0, bI_1, nI_add, pk_mul, if_pos, if_neg, ite_not, if_true, if_false, not_true_eq_false, not_false_eq_true, true_and, false_and, and_true, and_false, Nat.reduceAdd, Nat.reduceMul, hin, m_isBridge_n, hk]
theorem m_walk {g : Nat} (hg : g < 3) : ∀ n, n ≤ 4 → ∀ b, b < 13 → ∀ m mu R x (w4 w5 : AV), m ≤ 4 → lev R n b → InvT R → R 1 12 = nI g → RelB R (fun t => mu 106 t) → x ≤ 16 → ∃ mu' w4' w5', zsem (d + 3) 144 7 [.inr (some 105), .inl (nI x), .inl (nI b), .inl (nI (4 - m)), w4, w5] [] (HH L mu p) = zsem (d + 3) 144 7 [.inr (some 105), .inl (nI (visS (nbB n) b m R x).2), .inl (nI b), .inl (nI 4), w4', w5'] [] (HH L mu' p) ∧ RelB (visS (nbB n) b m R x).1 (fun t => mu' 106 t) ∧ FrW mu mu' := by
  intro n
  induction n with
  | zero =>
    intro _ b hb
    refine m_walkL d L p hg hb (fun mu R j y w4 w5 hj h2 hbj hl hI hgp hB hy => ?_)
    have hdq := hl j hj h2 hbj
    have hno : ∀ t, t < 4 → R 5 (j * 4 + t) = -5 := fun t ht => by
      rcases hI.2.2.1 j t (by omega) ht with hv | ⟨i, hi, hv, hk, -, -⟩
      · exact hv
      · exfalso
        obtain ⟨g1, g2, g3⟩ := slot_bk hI (by omega) ht hi hv
        have e := dq_s hI hi hk (by omega)
        have := dq_le hI hi hk
        rw [g1] at e
        omega
    obtain ⟨w4', e⟩ := m_walkE d L p hI (b := j) (x := y) (by omega) hno mu hB 4 w4 w5 (by omega)
    exact ⟨mu, w4', w5, e, hB, FrW.rfl' mu⟩
  | succ n ih =>
    intro hn b hb
    refine m_walkL d L p hg hb (fun mu R j y w4 w5 hj h2 hbj hl hI hgp hB hy => ?_)
    have hdq := hl j hj h2 hbj
    refine ih (by omega) j (by omega) 4 mu R y w4 w5 (by omega) (fun i hi hk hib => ?_) hI hgp hB hy
    have e := dq_s hI hi (k2_ne0 hk) (by omega)
    rw [hib] at e
    omega
/-- all bridges are numbered -/
theorem m_numbers {R : RV} {g : Nat} (hg : g < 3) (hI : InvT R) (hgp : R 1 12 = nI g) (mu : RV) (hB : RelB R (fun t => mu 106 t)) : ∃ mu', zsem (d + 3) 144 0 [.inr (some 105), .inr none, .inr none, .inr none, .inr none, .inr none] [] (HH L mu p) = some (none, HH L mu' p) ∧ RelB (nbB 5 R 12 1).1 (fun t => mu' 106 t) ∧ FrW mu mu' := by
  obtain ⟨mu', w4, w5, e1, e2, e3⟩ := m_walk d L p hg 4 (by omega) 12 (by omega) 4 mu R 1 (.inr none) (.inr none) (by omega) (fun j hj h2 hb => by rw [dq_0 hb]) hI hgp hB (by omega)
  refine ⟨mu', ?_, e2, e3⟩
  have e0 : zsem (d + 3) 144 0 [.inr (some 105), .inr none, .inr none, .inr none, .inr none, .inr none] [] (HH L mu p) = zsem (d + 3) 144 7 [.inr (some 105), .inl (nI 1), .inl (nI 12), .inl (nI 0), .inr none, .inr none] [] (HH L mu p) := by
    simp (disch := first | omega | assumption) only [h144_0, h144_1, h144_2, h144_4, h144_5, h144_6, h144_8, h144_10, h144_13, h144_14, h144_15, h144_18, h144_19, h144_20, h144_23, h144_24, h144_25, h144_26, h144_29, h144_32, h144_34, h144_36, h144_37, h144_38, h144_41, h144_42, h144_43, h144_44, h144_45, h144_48, h144_51, h144_52, h144_53, h144_55, h144_56, h144_59, h144_60, h144_63, h144_65, h144_66, h144_68, h144_70, h144_73, h144_75, h144_78, h144_80, h144_81, h144_82, h144_85, h144_86, h144_89, h144_91, h144_92, h144_93, h144_94, h144_95, h144_96, h144_97, h144_100, h144_101, h144_104, h144_105, h144_106, h144_107, h144_108, h144_109, h144_110, h144_111, h144_114, h144_115, h144_118, h144_119, h144_120, h144_121, h144_122, h144_125, h144_126, h144_128, h144_131, h144_134, h144_135, h144_137, h144_140, h144_141, h144_144, h144_146, h144_149, h144_151, h144_152, h144_153, h144_154, h144_157, h144_159, h144_160, h144_161, h144_162, h144_165, h144_168, h144_171, Option.bind_some, Option.toList_some, Option.toList_none, List.cons_append, List.nil_append, nI_ltc, nI_lec, nI_eqc, nI_ne5, n5_ne, n5_lt, bI_0, bI_1, nI_add, pk_mul, if_pos, if_neg, ite_not, if_true, if_false, not_true_eq_false, not_false_eq_true, true_and, false_and, and_true, and_false, Nat.reduceAdd, Nat.reduceMul]
  have e4 : (4 : Nat) - 4 = 0 := rfl
  rw [e4] at e1
  rw [e0, e1, h144_7]
  simp (disch := first | omega | assumption) only [h144_0, h144_1, h144_2, h144_4, h144_5, h144_6, h144_8, h144_10, h144_13, h144_14, h144_15, h144_18, h144_19, h144_20, h144_23, h144_24, h144_25, h144_26, h144_29, h144_32, h144_34, h144_36, h144_37, h144_38, h144_41, h144_42, h144_43, h144_44, h144_45, h144_48, h144_51, h144_52, h144_53, h144_55, h144_56, h144_59, h144_60, h144_63, h144_65, h144_66, h144_68, h144_70, h144_73, h144_75, h144_78, h144_80, h144_81, h144_82, h144_85, h144_86, h144_89, h144_91, h144_92, h144_93, h144_94, h144_95, h144_96, h144_97, h144_100, h144_101, h144_104, h144_105, h144_106, h144_107, h144_108, h144_109, h144_110, h144_111, h144_114, h144_115, h144_118, h144_119, h144_120, h144_121, h144_122, h144_125, h144_126, h144_128, h144_131, h144_134, h144_135, h144_137, h144_140, h144_141, h144_144, h144_146, h144_149, h144_151, h144_152, h144_153, h144_154, h144_157, h144_159, h144_160, h144_161, h144_162, h144_165, h144_168, h144_171, Option.bind_some, Option.toList_some, Option.toList_none, List.cons_append, List.nil_append, nI_ltc, nI_lec, nI_eqc, nI_ne5, n5_ne, n5_lt, bI_0, bI_1, nI_add, pk_mul, if_pos, if_neg, ite_not, if_true, if_false, not_true_eq_false, not_false_eq_true, true_and, false_and, and_true, and_false, Nat.reduceAdd, Nat.reduceMul]
end
