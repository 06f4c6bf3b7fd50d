/-! placing: reference, all buses -/
def bel (R : RV) (b0 j : Nat) : Prop := b0 = 12 ∨ anc R 4 (bn R j) b0
theorem anc_1 {R : RV} {x : Nat} : ∀ {n b : Nat}, anc R n b x → anc R (n + 1) b x := by
  intro n
  induction n with
  | zero => intro b h; exact h.elim
  | succ n ih =>
    intro b h
    exact ⟨h.1, h.2.imp id (fun q => ih q)⟩
theorem dpt_cong {R R' : RV} (h2 : R' 2 = R 2) (h3 : R' 3 = R 3) : ∀ n b, dpt R' n b = dpt R n b := by
  intro n
  induction n with
  | zero => intro b; rfl
  | succ n ih =>
    intro b
    rw [dpt_s, dpt_s, h2, bn_cong h3, ih]
theorem bel_up {R : RV} (hI : InvT R) {b0 j : Nat} (hj : j < 12) (hk : R 2 j = nI 2) (h : bel R b0 j) : bn R j = b0 ∨ (bn R j < 12 ∧ R 2 (bn R j) = nI 2 ∧ bel R b0 (bn R j)) := by
  obtain ⟨g1, g2, g3⟩ := hI.bus hj (k2_ne0 hk)
  rcases h with h | ⟨h1, h2⟩
  · by_cases q : bn R j < 12
    · exact Or.inr ⟨q, g3 q, Or.inl h⟩
    · exact Or.inl (by omega)
  · rcases h2 with h2 | h2
    · exact Or.inl h2
    · exact Or.inr ⟨h1, g3 h1, Or.inr (anc_1 h2)⟩
theorem anc_dq {R : RV} (hI : InvT R) {x : Nat} : ∀ n c, anc R n c x → c < 12 → R 2 c = nI 2 → c = x ∨ dq R x < dq R c := by
  intro n
  induction n with
  | zero => intro c h; exact h.elim
  | succ n ih =>
    intro c ⟨h1, h2⟩ hc hk
    rcases h2 with h2 | h2
    · exact Or.inl h2
    · right
      obtain ⟨g1, g2, g3⟩ := hI.bus hc (k2_ne0 hk)
      have hb : bn R c < 12 := by
        cases n with
        | zero => exact h2.elim
        | succ n => exact h2.1
      have e := dq_s hI hc (k2_ne0 hk) hb
      rcases ih (bn R c) h2 hb (g3 hb) with q | q
      · rw [q] at e; omega
      · omega
theorem bel_dq {R : RV} (hI : InvT R) {b0 j : Nat} (hb0 : b0 < 12) (hj : j < 12) (hk : R 2 j = nI 2) (h : bel R b0 j) : dq R b0 < dq R j := by
  rcases h with h | h
  · omega
  · have hb : bn R j < 12 := h.1
    obtain ⟨g1, g2, g3⟩ := hI.bus hj (k2_ne0 hk)
    have e := dq_s hI hj (k2_ne0 hk) hb
    rcases anc_dq hI 4 (bn R j) h hb (g3 hb) with q | q
    · rw [q] at e; omega
    · omega
theorem posB_bel {R : RV} (hI : InvT R) {s b0 x0 : Nat} : ∀ n b, b < 13 → (b < 12 → R 2 b = nI 2 → dq R b < n) → posB R s b0 x0 b ≠ none → b = b0 ∨ (b < 12 ∧ R 2 b = nI 2 ∧ bel R b0 b) := by
  intro n
  induction n with
  | zero =>
    intro b hb h1 h2
    by_cases e : b = b0
    · exact Or.inl e
    · by_cases h12 : b = 12
      · subst h12; exact absurd (posB_12 (fun q => e q.symm)) h2
      · by_cases k : R 2 b = nI 2
        · have := h1 (by omega) k; omega
        · exfalso
          apply h2
          unfold posB
          rw [PO, if_neg e, if_neg (fun q => k q.2)]
  | succ n ih =>
    intro b hb h1 h2
    by_cases e : b = b0
    · exact Or.inl e
    · by_cases h12 : b = 12
      · subst h12; exact absurd (posB_12 (fun q => e q.symm)) h2
      · by_cases k : R 2 b = nI 2
        · have hb12 : b < 12 := by omega
          have hd := h1 hb12 k
          rw [posB_eq hI hb12 k e] at h2
          obtain ⟨g1, g2, g3⟩ := hI.bus hb12 (k2_ne0 k)
          refine Or.inr ⟨hb12, k, ?_⟩
          by_cases z : b0 = 12
          · exact Or.inl z
          · right
            have hp : posB R s b0 x0 (bn R b) ≠ none := fun q => h2 (stF_none q)
            rcases ih (bn R b) g1 (fun q q2 => by have := dq_s hI hb12 (k2_ne0 k) q; omega) hp with q | ⟨q1, q2, q3⟩
            · have hbb : bn R b < 12 := by
                by_cases q3 : bn R b < 12
                · exact q3
                · have : bn R b = 12 := by omega
                  rw [this] at hp
                  exact absurd (posB_12 z) hp
              exact ⟨hbb, Or.inl q⟩
            · rcases q3 with q3 | q3
              · exact absurd q3 z
              · have hf := fam_dn hI b0 b hb12 (k2_ne0 k) q1 (by
                  rw [famB, tb_iff]
                  exact ⟨k2_ne0 q2, Or.inr q3⟩)
                rw [famB, tb_iff] at hf
                exact hf.2.resolve_left e
        · exfalso
          apply h2
          unfold posB
          rw [PO, if_neg e, if_neg (fun q => k q.2)]
def dnP (R : RV) (b0 D k b : Nat) : Prop := b = b0 ∨ (b < 12 ∧ R 2 b = nI 2 ∧ bel R b0 b ∧ (dq R b + 1 < D ∨ (dq R b + 1 = D ∧ b < k)))
noncomputable def stD (R : RV) (s b0 x0 D k : Nat) : Nat → Nat → Option Nat := fun b k' => if tb (dnP R b0 D k b) = true then stF R s b0 x0 b k' else none
theorem stD_y {R : RV} {s b0 x0 D k b k' : Nat} (h : dnP R b0 D k b) : stD R s b0 x0 D k b k' = stF R s b0 x0 b k' := if_pos ((tb_iff _).mpr h)
theorem stD_z {R : RV} {s b0 x0 D k b k' : Nat} (h : ¬dnP R b0 D k b) : stD R s b0 x0 D k b k' = none := if_neg (fun q => h ((tb_iff _).mp q))
theorem stD_cong {R : RV} {s b0 x0 D k D' k' : Nat} (h : ∀ b, (dnP R b0 D k b ↔ dnP R b0 D' k' b) ∨ posB R s b0 x0 b = none) : stD R s b0 x0 D k = stD R s b0 x0 D' k' := by
  funext b t
  rcases h b with h | h
  · by_cases q : dnP R b0 D k b
    · rw [stD_y q, stD_y (h.mp q)]
    · rw [stD_z q, stD_z (fun g => q (h.mpr g))]
  · have e := stF_none (k := t) h
    by_cases q : dnP R b0 D k b <;> by_cases g : dnP R b0 D' k' b
    · rw [stD_y q, stD_y g]
    · rw [stD_y q, stD_z g, e]
    · rw [stD_z q, stD_y g, e]
    · rw [stD_z q, stD_z g]
/-- nothing has a window below b0 -/
def PLg (R : RV) (s b0 : Nat) : Prop := ∀ j, j < 12 → R 2 j = nI 2 → bel R b0 j → R 10 (j * 2 + s) = -5
section
variable (d L : Nat) (p : Nat → Nat)
theorem m_plbI {R : RV} (hO : OK R) {s b0 x0 D : Nat} (hs : s < 2) (hb0 : b0 < 13) (hr : PLr R s b0 x0) (hg : PLg R s b0) (hD : D ≤ 5) (g0 : Nat) : ∀ m j mu g (w5 : AV), j + m = 12 → RelB (ovl R s (stD R s b0 x0 D j)) (fun t => mu 106 t) → (∀ i, i < 12 → R 2 i = nI 2 → mu 108 (12 * s + i) = nI (fN R s i) ∧ mu 109 (12 * s + i) = nI (aN R s i)) → mu 105 13 = nI g → g = g0 + TC R (stD R s b0 x0 D j) →
    ∃ mu' g' w5', zsem (d + 5) 152 16 [.inr (some 105), .inl (nI b0), .inl (nI s), .inl (nI D), .inl (nI j), w5] [] (HH L mu p) = zsem (d + 5) 152 16 [.inr (some 105), .inl (nI b0), .inl (nI s), .inl (nI D), .inl (nI 12), w5'] [] (HH L mu' p) ∧ RelB (ovl R s (stD R s b0 x0 D 12)) (fun t => mu' 106 t) ∧ mu' 105 13 = nI g' ∧ g' = g0 + TC R (stD R s b0 x0 D 12) ∧ FrR mu mu' := by
  intro m
  induction m with
  | zero =>
    intro j mu g w5 hj hB hM h13 hgc
    have : j = 12 := by omega
    subst this
    exact ⟨mu, g, w5, rfl, hB, h13, hgc, FrR.rfl' mu⟩
  | succ m ih =>
    intro j mu g w5 hj hB hM h13 hgc
    have hj12 : j < 12 := by omega
    have hL := ovl_L R s (stD R s b0 x0 D j)
    have r2 := hL 2 (by omega) (by omega) (by omega)
    have r3 := hL 3 (by omega) (by omega) (by omega)
    have hI' : InvT (ovl R s (stD R s b0 x0 D j)) := InvT_cong r2 r3 (hL 4 (by omega) (by omega) (by omega)) (hL 5 (by omega) (by omega) (by omega)) hO.T
    have k2 := hB.kind hj12
    rw [r2] at k2
    have pass : (∃ w', zsem (d + 5) 152 16 [.inr (some 105), .inl (nI b0), .inl (nI s), .inl (nI D), .inl (nI j), w5] [] (HH L mu p) = zsem (d + 5) 152 16 [.inr (some 105), .inl (nI b0), .inl (nI s), .inl (nI D), .inl (nI (j + 1)), w'] [] (HH L mu p)) → stD R s b0 x0 D (j + 1) = stD R s b0 x0 D j → ∃ mu' g' w5', zsem (d + 5) 152 16 [.inr (some 105), .inl (nI b0), .inl (nI s), .inl (nI D), .inl (nI j), w5] [] (HH L mu p) = zsem (d + 5) 152 16 [.inr (some 105), .inl (nI b0), .inl (nI s), .inl (nI D), .inl (nI 12), w5'] [] (HH L mu' p) ∧ RelB (ovl R s (stD R s b0 x0 D 12)) (fun t => mu' 106 t) ∧ mu' 105 13 = nI g' ∧ g' = g0 + TC R (stD R s b0 x0 D 12) ∧ FrR mu mu' := by
      rintro ⟨w', e⟩ es
      obtain ⟨mu', g', w5', e1, e2⟩ := ih (j + 1) mu g w' (by omega) (by rw [es]; exact hB) hM h13 (by rw [es]; exact hgc)
      exact ⟨mu', g', w5', e.trans e1, e2⟩
    have same : ¬(R 2 j = nI 2 ∧ bel R b0 j ∧ dq R j + 1 = D) → stD R s b0 x0 D (j + 1) = stD R s b0 x0 D j := fun h => stD_cong (fun b => Or.inl (by
      unfold dnP
      refine or_congr Iff.rfl ⟨fun ⟨a1, a2, a3, a4⟩ => ⟨a1, a2, a3, ?_⟩, fun ⟨a1, a2, a3, a4⟩ => ⟨a1, a2, a3, by omega⟩⟩
      by_cases q : b = j
      · subst q
        rcases a4 with a4 | a4
        · exact Or.inl a4
        · exact absurd ⟨a2, a3, a4.1⟩ h
      · omega))
    by_cases hk : R 2 j = nI 2
    · rw [hk] at k2
      have hT5 : rt (ovl R s (stD R s b0 x0 D j)) 5 j := by
        rw [rt_cong r2 r3]
        exact Or.inr ⟨hj12, hk, hO.T.2.2.2 j hj12 (k2_ne0 hk)⟩
      have hdp := m_depthOf (d + 3) L mu p hB hI' 5 j hT5
      rw [dpt_cong r2 r3, dpt_dq hO.T hj12 hk] at hdp
      have hdq := dq_le hO.T hj12 (k2_ne0 hk)
      by_cases hDj : dq R j + 1 = D
      · have hw := (hB.win hj12 (by rw [r2]; exact k2_ne0 hk) hs).1
        have hwm := m_hasWindow (d + 3) L mu p j s hj12 hs
        by_cases hbl : bel R b0 j
        · have hne : ¬j = b0 := fun q => by
            subst q
            have := bel_dq hO.T hj12 hj12 hk hbl
            omega
          have hpar : dnP R b0 D j (bn R j) := by
            rcases bel_up hO.T hj12 hk hbl with q | ⟨q1, q2, q3⟩
            · exact Or.inl q
            · have := dq_s hO.T hj12 (k2_ne0 hk) q1
              exact Or.inr ⟨q1, q2, q3, Or.inl (by omega)⟩
          rw [(ovl_10 hj12 hs hk).1, stD_y hpar, ← posB_eq hO.T hj12 hk hne] at hw
          cases hp : posB R s b0 x0 j with
          | none =>
            rw [hp] at hw
            have hw : mu 106 (20 * j + 14 + s) = R 10 (j * 2 + s) := hw
            rw [hg j hj12 hk hbl] at hw
            rw [bI_f (fun q => q hw)] at hwm
            refine pass ⟨.inl (nI 0), ?_⟩ (stD_cong (fun b => by
              by_cases q : b = j
              · subst q; exact Or.inr hp
              · left
                unfold dnP
                refine or_congr Iff.rfl ⟨fun ⟨a1, a2, a3, a4⟩ => ⟨a1, a2, a3, by omega⟩, fun ⟨a1, a2, a3, a4⟩ => ⟨a1, a2, a3, by omega⟩⟩))
            rw [h152_16]
            simp (disch := first | omega | assumption) only [h152_0, h152_1, h152_2, h152_5, h152_6, h152_7, h152_9, h152_10, h152_13, h152_14, h152_18, h152_20, h152_23, h152_24, h152_26, h152_29, h152_32, h152_33, h152_35, h152_38, h152_39, h152_42, h152_43, h152_45, h152_46, h152_49, h152_52, h152_53, h152_55, h152_58, h152_59, h152_61, h152_62, h152_65, h152_68, h152_69, h152_72, h152_73, h152_75, h152_77, h152_80, h152_81, h152_83, h152_84, h152_85, h152_88, h152_90, h152_93, h152_95, h152_96, h152_97, h152_98, h152_99, h152_100, h152_103, h152_106, h152_109, h152_112, h152_115, h152_118, Option.bind_some, Option.toList_some, Option.toList_none, List.cons_append, List.nil_append, nI_ltc, nI_lec, nI_eqc, nI_ne5, n5_ne, n5_lt, bI_0, bI_1, nI_add, pk_mul, if_pos, if_neg, ite_not, if_true, if_false, not_true_eq_false, not_false_eq_true, true_and, false_and, and_true, and_false, Nat.reduceAdd, Nat.reduceMul, m_isBridge_n, k2, hdp, hDj, hwm]
          | some z =>
            rw [hp] at hw
            have hw : mu 106 (20 * j + 14 + s) = nI z := hw
            have hpe := posE_ok hO hs hr 5 j z (by omega) (fun _ => ⟨hk, by omega⟩) hp
            have ha := @adr_fac s
            have hza : z ≤ adr s := by
              rcases hpe with ⟨q, -, -⟩ | ⟨-, -, -, -, -, q, -⟩ <;> omega
            have ok5 : ¬nI z = -5 := fun q => by rw [nI_ne5 (by omega)] at q; exact q
            rw [bI_t (by rw [hw]; exact ok5)] at hwm
            have hnd : ¬dnP R b0 D j j := by
              rintro (q | ⟨q1, q2, q3, q4⟩)
              · exact hne q
              · omega
            have hst0 : ∀ k, stD R s b0 x0 D j j k = none := fun k => stD_z hnd
            obtain ⟨mu1, g1, e1, e2, e3, e4, e5⟩ := m_places d L p hO hs (b := j) (by omega) z hza mu _ g hst0 hB (fun i hi h2 _ => hM i hi h2) h13
            have hsn : stP (stD R s b0 x0 D j) j (pst (SZ R s j) (AL R s j) (adr s) z (IT R s j)) = stD R s b0 x0 D (j + 1) := by
              funext b k
              unfold stP
              by_cases q : b = j
              · subst q
                rw [if_pos rfl, stD_y (b := b) (k := b + 1) (show dnP R b0 D (b + 1) b from Or.inr ⟨hj12, hk, hbl, Or.inr ⟨hDj, by omega⟩⟩), hst0]
                unfold stF
                rw [hp]
                show (match pst (SZ R s b) (AL R s b) (adr s) z (IT R s b) k with | some z => some z | none => none) = pst (SZ R s b) (AL R s b) (adr s) z (IT R s b) k
                cases pst (SZ R s b) (AL R s b) (adr s) z (IT R s b) k <;> rfl
              · rw [if_neg q]
                have hiff : dnP R b0 D j b ↔ dnP R b0 D (j + 1) b := by
                  unfold dnP
                  refine or_congr Iff.rfl ⟨fun ⟨a1, a2, a3, a4⟩ => ⟨a1, a2, a3, by omega⟩, fun ⟨a1, a2, a3, a4⟩ => ⟨a1, a2, a3, by omega⟩⟩
                by_cases g : dnP R b0 D j b
                · rw [stD_y g, stD_y (hiff.mp g)]
                · rw [stD_z g, stD_z (fun z => g (hiff.mpr z))]
            rw [hsn] at e2 e4
            obtain ⟨mu', g', w5', f1, f2, f3, f4, f5⟩ := ih (j + 1) mu1 g1 (.inl (nI 1)) (by omega) e2 (fun i hi h2 => by
              rw [e5.1 108 (by omega) (by omega) (by omega), e5.1 109 (by omega) (by omega) (by omega)]
              exact hM i hi h2) e3 (by omega)
            refine ⟨mu', g', w5', ?_, f2, f3, f4, FrR.tr e5 f5⟩
            rw [← f1, h152_16]
            by_cases h12 : b0 = 12
            · simp (disch := first | omega | assumption) only [h152_0, h152_1, h152_2, h152_5, h152_6, h152_7, h152_9, h152_10, h152_13, h152_14, h152_18, h152_20, h152_23, h152_24, h152_26, h152_29, h152_32, h152_33, h152_35, h152_38, h152_39, h152_42, h152_43, h152_45, h152_46, h152_49, h152_52, h152_53, h152_55, h152_58, h152_59, h152_61, h152_62, h152_65, h152_68, h152_69, h152_72, h152_73, h152_75, h152_77, h152_80, h152_81, h152_83, h152_84, h152_85, h152_88, h152_90, h152_93, h152_95, h152_96, h152_97, h152_98, h152_99, h152_100, h152_103, h152_106, h152_109, h152_112, h152_115, h152_118, Option.bind_some, Option.toList_some, Option.toList_none, List.cons_append, List.nil_append, nI_ltc, nI_lec, nI_eqc, nI_ne5, n5_ne, n5_lt, bI_0, bI_1, nI_add, pk_mul, if_pos, if_neg, ite_not, if_true, if_false, not_true_eq_false, not_false_eq_true, true_and, false_and, and_true, and_false, Nat.reduceAdd, Nat.reduceMul, m_isBridge_n, k2, hdp, hDj, hwm, h12, m_at, hw, m_addresses, e1]
            · have hb12 : b0 < 12 := by omega
              obtain ⟨v, v1, v2, v3⟩ := m_isBelow (d + 3) L mu p hB hI' j b0 hj12 (by rw [r2]; exact k2_ne0 hk) hb12
              rw [anc_cong r3, bn_cong r3] at v2
              rw [v2 (hbl.resolve_left h12)] at v1
              simp (disch := first | omega | assumption) only [h152_0, h152_1, h152_2, h152_5, h152_6, h152_7, h152_9, h152_10, h152_13, h152_14, h152_18, h152_20, h152_23, h152_24, h152_26, h152_29, h152_32, h152_33, h152_35, h152_38, h152_39, h152_42, h152_43, h152_45, h152_46, h152_49, h152_52, h152_53, h152_55, h152_58, h152_59, h152_61, h152_62, h152_65, h152_68, h152_69, h152_72, h152_73, h152_75, h152_77, h152_80, h152_81, h152_83, h152_84, h152_85, h152_88, h152_90, h152_93, h152_95, h152_96, h152_97, h152_98, h152_99, h152_100, h152_103, h152_106, h152_109, h152_112, h152_115, h152_118, Option.bind_some, Option.toList_some, Option.toList_none, List.cons_append, List.nil_append, nI_ltc, nI_lec, nI_eqc, nI_ne5, n5_ne, n5_lt, bI_0, bI_1, nI_add, pk_mul, if_pos, if_neg, ite_not, if_true, if_false, not_true_eq_false, not_false_eq_true, true_and, false_and, and_true, and_false, Nat.reduceAdd, Nat.reduceMul, m_isBridge_n, k2, hdp, hDj, hwm, h12, v1, m_at, hw, m_addresses, e1]
        · have h12 : ¬b0 = 12 := fun q => hbl (Or.inl q)
          have hb12 : b0 < 12 := by omega
          obtain ⟨v, v1, v2, v3⟩ := m_isBelow (d + 3) L mu p hB hI' j b0 hj12 (by rw [r2]; exact k2_ne0 hk) hb12
          rw [anc_cong r3, bn_cong r3] at v3
          rw [v3 (fun q => hbl (Or.inr q))] at v1
          refine pass ⟨.inl (nI 0), ?_⟩ (same (fun q => hbl q.2.1))
          rw [h152_16]
          by_cases hwn : mu 106 (20 * j + 14 + s) = -5
          · rw [bI_f (fun q => q hwn)] at hwm
            simp (disch := first | omega | assumption) only [h152_0, h152_1, h152_2, h152_5, h152_6, h152_7, h152_9, h152_10, h152_13, h152_14, h152_18, h152_20, h152_23, h152_24, h152_26, h152_29, h152_32, h152_33, h152_35, h152_38, h152_39, h152_42, h152_43, h152_45, h152_46, h152_49, h152_52, h152_53, h152_55, h152_58, h152_59, h152_61, h152_62, h152_65, h152_68, h152_69, h152_72, h152_73, h152_75, h152_77, h152_80, h152_81, h152_83, h152_84, h152_85, h152_88, h152_90, h152_93, h152_95, h152_96, h152_97, h152_98, h152_99, h152_100, h152_103, h152_106, h152_109, h152_112, h152_115, h152_118, Option.bind_some, Option.toList_some, Option.toList_none, List.cons_append, List.nil_append, nI_ltc, nI_lec, nI_eqc, nI_ne5, n5_ne, n5_lt, bI_0, bI_1, nI_add, pk_mul, if_pos, if_neg, ite_not, if_true, if_false, not_true_eq_false, not_false_eq_true, true_and, false_and, and_true, and_false, Nat.reduceAdd, Nat.reduceMul, m_isBridge_n, k2, hdp, hDj, hwm]
          · rw [bI_t hwn] at hwm
            simp (disch := first | omega | assumption) only [h152_0, h152_1, h152_2, h152_5, h152_6, h152_7, h152_9, h152_10, h152_13, h152_14, h152_18, h152_20, h152_23, h152_24, h152_26, h152_29, h152_32, h152_33, h152_35, h152_38, h152_39, h152_42, h152_43, h152_45, h152_46, h152_49, h152_52, h152_53, h152_55, h152_58, h152_59, h152_61, h152_62, h152_65, h152_68, h152_69, h152_72, h152_73, h152_75, h152_77, h152_80, h152_81, h152_83, h152_84, h152_85, h152_88, h152_90, h152_93, h152_95, h152_96, h152_97, h152_98, h152_99, h152_100, h152_103, h152_106, h152_109, h152_112, h152_115, h152_118, Option.bind_some, Option.toList_some, Option.toList_none, List.cons_append, List.nil_append, nI_ltc, nI_lec, nI_eqc, nI_ne5, n5_ne, n5_lt, bI_0, bI_1, nI_add, pk_mul, if_pos, if_neg, ite_not, if_true, if_false, not_true_eq_false, not_false_eq_true, true_and, false_and, and_true, and_false, Nat.reduceAdd, Nat.reduceMul, m_isBridge_n, k2, hdp, hDj, hwm, h12, v1]
      · refine pass ⟨.inl (nI 0), ?_⟩ (same (fun q => hDj q.2.2))
        rw [h152_16]
        simp (disch := first | omega | assumption) only [h152_0, h152_1, h152_2, h152_5, h152_6, h152_7, h152_9, h152_10, h152_13, h152_14, h152_18, h152_20, h152_23, h152_24, h152_26, h152_29, h152_32, h152_33, h152_35, h152_38, h152_39, h152_42, h152_43, h152_45, h152_46, h152_49, h152_52, h152_53, h152_55, h152_58, h152_59, h152_61, h152_62, h152_65, h152_68, h152_69, h152_72, h152_73, h152_75, h152_77, h152_80, h152_81, h152_83, h152_84, h152_85, h152_88, h152_90, h152_93, h152_95, h152_96, h152_97, h152_98, h152_99, h152_100, h152_103, h152_106, h152_109, h152_112, h152_115, h152_118, Option.bind_some, Option.toList_some, Option.toList_none, List.cons_append, List.nil_append, nI_ltc, nI_lec, nI_eqc, nI_ne5, n5_ne, n5_lt, bI_0, bI_1, nI_add, pk_mul, if_pos, if_neg, ite_not, if_true, if_false, not_true_eq_false, not_false_eq_true, true_and, false_and, and_true, and_false, Nat.reduceAdd, Nat.reduceMul, m_isBridge_n, k2, hdp]
    · refine pass ⟨.inl (nI 0), ?_⟩ (same (fun q => hk q.1))
      rw [← k2] at hk
      rw [h152_16]
      simp (disch := first | omega | assumption) only [h152_0, h152_1, h152_2, h152_5, h152_6, h152_7, h152_9, h152_10, h152_13, h152_14, h152_18, h152_20, h152_23, h152_24, h152_26, h152_29, h152_32, h152_33, h152_35, h152_38, h152_39, h152_42, h152_43, h152_45, h152_46, h152_49, h152_52, h152_53, h152_55, h152_58, h152_59, h152_61, h152_62, h152_65, h152_68, h152_69, h152_72, h152_73, h152_75, h152_77, h152_80, h152_81, h152_83, h152_84, h152_85, h152_88, h152_90, h152_93, h152_95, h152_96, h152_97, h152_98, h152_99, h152_100, h152_103, h152_106, h152_109, h152_112, h152_115, h152_118, Option.bind_some, Option.toList_some, Option.toList_none, List.cons_append, List.nil_append, nI_ltc, nI_lec, nI_eqc, nI_ne5, n5_ne, n5_lt, bI_0, bI_1, nI_add, pk_mul, if_pos, if_neg, ite_not, if_true, if_false, not_true_eq_false, not_false_eq_true, true_and, false_and, and_true, and_false, Nat.reduceAdd, Nat.reduceMul, m_isBridge_n, hk]
theorem m_plbO {R : RV} (hO : OK R) {s b0 x0 : Nat} (hs : s < 2) (hb0 : b0 < 13) (hr : PLr R s b0 x0) (hg : PLg R s b0) (g0 : Nat) : ∀ m D mu g (w4 w5 : AV), D + m = 6 → RelB (ovl R s (stD R s b0 x0 D 0)) (fun t => mu 106 t) → (∀ i, i < 12 → R 2 i = nI 2 → mu 108 (12 * s + i) = nI (fN R s i) ∧ mu 109 (12 * s + i) = nI (aN R s i)) → mu 105 13 = nI g → g = g0 + TC R (stD R s b0 x0 D 0) →
    ∃ mu' g', zsem (d + 5) 152 8 [.inr (some 105), .inl (nI b0), .inl (nI s), .inl (nI D), w4, w5] [] (HH L mu p) = some (none, HH L mu' p) ∧ RelB (ovl R s (stD R s b0 x0 6 0)) (fun t => mu' 106 t) ∧ mu' 105 13 = nI g' ∧ g' = g0 + TC R (stD R s b0 x0 6 0) ∧ FrR mu mu' := by
  intro m
  induction m with
  | zero =>
    intro D mu g w4 w5 hD hB hM h13 hgc
    have : D = 6 := by omega
    subst this
    refine ⟨mu, g, ?_, hB, h13, hgc, FrR.rfl' mu⟩
    rw [h152_8]
    simp (disch := first | omega | assumption) only [h152_0, h152_1, h152_2, h152_5, h152_6, h152_7, h152_9, h152_10, h152_13, h152_14, h152_18, h152_20, h152_23, h152_24, h152_26, h152_29, h152_32, h152_33, h152_35, h152_38, h152_39, h152_42, h152_43, h152_45, h152_46, h152_49, h152_52, h152_53, h152_55, h152_58, h152_59, h152_61, h152_62, h152_65, h152_68, h152_69, h152_72, h152_73, h152_75, h152_77, h152_80, h152_81, h152_83, h152_84, h152_85, h152_88, h152_90, h152_93, h152_95, h152_96, h152_97, h152_98, h152_99, h152_100, h152_103, h152_106, h152_109, h152_112, h152_115, h152_118, Option.bind_some, Option.toList_some, Option.toList_none, List.cons_append, List.nil_append, nI_ltc, nI_lec, nI_eqc, nI_ne5, n5_ne, n5_lt, bI_0, bI_1, nI_add, pk_mul, if_pos, if_neg, ite_not, if_true, if_false, not_true_eq_false, not_false_eq_true, true_and, false_and, and_true, and_false, Nat.reduceAdd, Nat.reduceMul]
  | succ m ih =>
    intro D mu g w4 w5 hD hB hM h13 hgc
    obtain ⟨mu1, g1, w5', e1, e2, e3, e4, e5⟩ := m_plbI d L p hO (D := D) hs hb0 hr hg (by omega) g0 12 0 mu g w5 rfl hB hM h13 hgc
    have es : stD R s b0 x0 D 12 = stD R s b0 x0 (D + 1) 0 := stD_cong (fun b => Or.inl (by
      unfold dnP
      exact or_congr Iff.rfl ⟨fun ⟨a1, a2, a3, a4⟩ => ⟨a1, a2, a3, by omega⟩, fun ⟨a1, a2, a3, a4⟩ => ⟨a1, a2, a3, by omega⟩⟩))
    rw [es] at e2 e4
    obtain ⟨mu', g', f1, f2, f3, f4, f5⟩ := ih (D + 1) mu1 g1 (.inl (nI 12)) w5' (by omega) e2 (fun i hi h2 => by
      rw [e5.1 108 (by omega) (by omega) (by omega), e5.1 109 (by omega) (by omega) (by omega)]
      exact hM i hi h2) e3 e4
    refine ⟨mu', g', ?_, f2, f3, f4, FrR.tr e5 f5⟩
    rw [← f1, h152_8]
    simp (disch := first | omega | assumption) only [h152_0, h152_1, h152_2, h152_5, h152_6, h152_7, h152_9, h152_10, h152_13, h152_14, h152_18, h152_20, h152_23, h152_24, h152_26, h152_29, h152_32, h152_33, h152_35, h152_38, h152_39, h152_42, h152_43, h152_45, h152_46, h152_49, h152_52, h152_53, h152_55, h152_58, h152_59, h152_61, h152_62, h152_65, h152_68, h152_69, h152_72, h152_73, h152_75, h152_77, h152_80, h152_81, h152_83, h152_84, h152_85, h152_88, h152_90, h152_93, h152_95, h152_96, h152_97, h152_98, h152_99, h152_100, h152_103, h152_106, h152_109, h152_112, h152_115, h152_118, Option.bind_some, Option.toList_some, Option.toList_none, List.cons_append, List.nil_append, nI_ltc, nI_lec, nI_eqc, nI_ne5, n5_ne, n5_lt, bI_0, bI_1, nI_add, pk_mul, if_pos, if_neg, ite_not, if_true, if_false, not_true_eq_false, not_false_eq_true, true_and, false_and, and_true, and_false, Nat.reduceAdd, Nat.reduceMul, e1]
    rw [h152_16]
    simp (disch := first | omega | assumption) only [h152_0, h152_1, h152_2, h152_5, h152_6, h152_7, h152_9, h152_10, h152_13, h152_14, h152_18, h152_20, h152_23, h152_24, h152_26, h152_29, h152_32, h152_33, h152_35, h152_38, h152_39, h152_42, h152_43, h152_45, h152_46, h152_49, h152_52, h152_53, h152_55, h152_58, h152_59, h152_61, h152_62, h152_65, h152_68, h152_69, h152_72, h152_73, h152_75, h152_77, h152_80, h152_81, h152_83, h152_84, h152_85, h152_88, h152_90, h152_93, h152_95, h152_96, h152_97, h152_98, h152_99, h152_100, h152_103, h152_106, h152_109, h152_112, h152_115, h152_118, Option.bind_some, Option.toList_some, Option.toList_none, List.cons_append, List.nil_append, nI_ltc, nI_lec, nI_eqc, nI_ne5, n5_ne, n5_lt, bI_0, bI_1, nI_add, pk_mul, if_pos, if_neg, ite_not, if_true, if_false, not_true_eq_false, not_false_eq_true, true_and, false_and, and_true, and_false, Nat.reduceAdd, Nat.reduceMul]
/-- placing of b0, then of all below -/
theorem m_placing {R : RV} (hO : OK R) {s b0 x0 : Nat} (hs : s < 2) (hb0 : b0 < 13) (hr : PLr R s b0 x0) (hg : PLg R s b0) (mu : RV) (g : Nat) (hB : RelB R (fun t => mu 106 t)) (hM : ∀ i, i < 12 → R 2 i = nI 2 → mu 108 (12 * s + i) = nI (fN R s i) ∧ mu 109 (12 * s + i) = nI (aN R s i)) (h13 : mu 105 13 = nI g) :
    ∃ mu1 mu', zsem (d + 5) 151 0 [.inr (some 105), .inl (nI b0), .inl (nI s), .inl (nI x0), .inl (nI (adr s)), .inr none, .inr none, .inr none, .inr none] [] (HH L mu p) = some (none, HH L mu1 p) ∧ zsem (d + 5) 152 0 [.inr (some 105), .inl (nI b0), .inl (nI s), .inr none, .inr none, .inr none] [] (HH L mu1 p) = some (none, HH L mu' p) ∧ RelB (ovl R s (stF R s b0 x0)) (fun t => mu' 106 t) ∧ mu' 105 13 = nI (g + TC R (stF R s b0 x0)) ∧ FrR mu mu' := by
  have hk0 : b0 < 12 → R 2 b0 = nI 2 := fun q => by
    rcases hr with ⟨h, -⟩ | ⟨-, -, -, h, -⟩
    · omega
    · exact h
  have hpe := posE_ok hO hs hr 5 b0 x0 hb0 (fun g => ⟨hk0 g, by have := dq_le hO.T g (k2_ne0 (hk0 g)); omega⟩) (posB_0 R s b0 x0)
  have hxa : x0 ≤ adr s := by
    rcases hpe with ⟨-, -, q⟩ | ⟨-, -, -, -, -, q, -⟩ <;> omega
  obtain ⟨mu1, g1, e1, e2, e3, e4, e5⟩ := m_places (d + 1) L p hO hs hb0 x0 hxa mu (fun _ _ => none) g (fun _ => rfl) (by rw [ovl_none]; exact hB) (fun i hi h2 _ => hM i hi h2) h13
  have hdpt : dpt R 5 b0 = if b0 = 12 then 0 else dq R b0 + 1 := by
    by_cases q : b0 = 12
    · rw [if_pos q, q, dpt_12]
    · rw [if_neg q, dpt_dq hO.T (by omega) (hk0 (by omega))]
  have hd5 : dpt R 5 b0 ≤ 5 := dpt_le
  have hs0 : stP (fun _ _ => none) b0 (pst (SZ R s b0) (AL R s b0) (adr s) x0 (IT R s b0)) = stD R s b0 x0 (dpt R 5 b0 + 1) 0 := by
    funext b k
    unfold stP
    by_cases q : b = b0
    · subst q
      rw [if_pos rfl, stD_y (Or.inl rfl)]
      unfold stF
      rw [posB_0]
      show (match pst (SZ R s b) (AL R s b) (adr s) x0 (IT R s b) k with | some z => some z | none => none) = pst (SZ R s b) (AL R s b) (adr s) x0 (IT R s b) k
      cases pst (SZ R s b) (AL R s b) (adr s) x0 (IT R s b) k <;> rfl
    · rw [if_neg q, stD_z]
      rintro (h | ⟨a1, a2, a3, a4⟩)
      · exact q h
      · by_cases z : b0 = 12
        · rw [hdpt, if_pos z] at a4; omega
        · have := bel_dq hO.T (by omega) a1 a2 a3
          rw [hdpt, if_neg z] at a4; omega
  rw [hs0] at e2 e4
  rw [TC_none, Nat.add_zero] at e4
  have hL := ovl_L R s (stD R s b0 x0 (dpt R 5 b0 + 1) 0)
  have r2 := hL 2 (by omega) (by omega) (by omega)
  have r3 := hL 3 (by omega) (by omega) (by omega)
  have hI' : InvT (ovl R s (stD R s b0 x0 (dpt R 5 b0 + 1) 0)) := InvT_cong r2 r3 (hL 4 (by omega) (by omega) (by omega)) (hL 5 (by omega) (by omega) (by omega)) hO.T
  have hT5 : rt (ovl R s (stD R s b0 x0 (dpt R 5 b0 + 1) 0)) 5 b0 := by
    rw [rt_cong r2 r3]
    by_cases q : b0 = 12
    · exact Or.inl q
    · exact Or.inr ⟨by omega, hk0 (by omega), hO.T.2.2.2 b0 (by omega) (k2_ne0 (hk0 (by omega)))⟩
  have hdp := m_depthOf (d + 3) L mu1 p e2 hI' 5 b0 hT5
  rw [dpt_cong r2 r3] at hdp
  obtain ⟨mu', g', f1, f2, f3, f4, f5⟩ := m_plbO d L p hO hs hb0 hr hg g (5 - dpt R 5 b0) (dpt R 5 b0 + 1) mu1 g1 (.inr none) (.inr none) (by omega) e2 (fun i hi h2 => by
    rw [e5.1 108 (by omega) (by omega) (by omega), e5.1 109 (by omega) (by omega) (by omega)]
    exact hM i hi h2) e3 e4
  have hfin : ∀ b k, b < 13 → k < 12 → stD R s b0 x0 6 0 b k = stF R s b0 x0 b k := fun b k hb hk => by
    by_cases q : dnP R b0 6 0 b
    · exact stD_y q
    · rw [stD_z q]
      cases hp : posB R s b0 x0 b with
      | none => exact (stF_none hp).symm
      | some x =>
        exfalso
        rcases posB_bel hO.T 5 b hb (fun g g2 => by have := dq_le hO.T g (k2_ne0 g2); omega) (by rw [hp]; exact fun q => by cases q) with h | ⟨h1, h2, h3⟩
        · exact q (Or.inl h)
        · have := dq_le hO.T h1 (k2_ne0 h2)
          exact q (Or.inr ⟨h1, h2, h3, Or.inl (by omega)⟩)
  refine ⟨mu1, mu', e1, ?_, by rw [← ovl_cong hO.T hfin]; exact f2, by rw [f3, f4, TC_cong hO.T hfin], FrR.tr e5 f5⟩
  rw [← f1]
  simp (disch := first | omega | assumption) only [h152_0, h152_1, h152_2, h152_5, h152_6, h152_7, h152_9, h152_10, h152_13, h152_14, h152_18, h152_20, h152_23, h152_24, h152_26, h152_29, h152_32, h152_33, h152_35, h152_38, h152_39, h152_42, h152_43, h152_45, h152_46, h152_49, h152_52, h152_53, h152_55, h152_58, h152_59, h152_61, h152_62, h152_65, h152_68, h152_69, h152_72, h152_73, h152_75, h152_77, h152_80, h152_81, h152_83, h152_84, h152_85, h152_88, h152_90, h152_93, h152_95, h152_96, h152_97, h152_98, h152_99, h152_100, h152_103, h152_106, h152_109, h152_112, h152_115, h152_118, Option.bind_some, Option.toList_some, Option.toList_none, List.cons_append, List.nil_append, nI_ltc, nI_lec, nI_eqc, nI_ne5, n5_ne, n5_lt, bI_0, bI_1, nI_add, pk_mul, if_pos, if_neg, ite_not, if_true, if_false, not_true_eq_false, not_false_eq_true, true_and, false_and, and_true, and_false, Nat.reduceAdd, Nat.reduceMul, hdp]
end
