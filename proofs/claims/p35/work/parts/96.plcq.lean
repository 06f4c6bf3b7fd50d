/-! placing: class, all buses -/
section
variable (d L : Nat) (p : Nat → Nat)
/-- one bus -/
theorem z_placeItems {R : RV} (hO : OK R) {s b : Nat} (hs : s < 2) (hb : b < 13) (x : Nat) (hx : x ≤ adr s) (f : Nat → Option Nat) (hfe : f = pst (SZ R s b) (AL R s b) (adr s) x (IT R s b)) (hf : ∀ k z, f k = some z → SZ R s b k ≠ 0 ∧ k < 12 ∧ z < 4096) (st : Nat → Nat → Option Nat) (hst : ∀ k, st b k = none) (Q : List Nat) (hQ0 : ∀ y, y ∈ Q → ¬(y < 12 ∧ R 2 y = nI 2 ∧ bn R y = b)) (mu : RV) (hR : rk mu 1 = ovl R s st) (hQ : QH Q mu) (hN : QN Q) (hF : LayF R (fN R s) (aN R s) b mu) (hS : (b = 12 ∧ x = 0) ∨ (b < 12 ∧ R 2 b = nI 2 ∧ mu 10 (b * 2 + s) = nI x)) :
    ∃ mu' c' Q', zsem (d + 2) 103 0 [.inr (.inl (some 81)), .inr (.inl (some 1)), .inl (nI b), .inl (nI s), .inr (.inl none), .inr (.inl none), .inr (.inl none)] [] (HH L mu p) = some (some (.inl (nI c')), HH L mu' p) ∧ rk mu' 1 = ovl R s (stK st f b 12) ∧ c' + TC R st = TC R (stK st f b 12) ∧ QH Q' mu' ∧ QN Q' ∧ (∀ j, j ∈ Q' ↔ j ∈ Q ∨ (j < 12 ∧ R 2 j = nI 2 ∧ bn R j = b ∧ sn R j * 3 < 12 ∧ f (sn R j * 3) ≠ none)) ∧ FrP mu mu' ∧ (∀ i x : Nat, Q[i]? = some x → Q'[i]? = some x) := by
  have ha := @adr_fac s
  have hRow : RowL R mu := RowL_of (by rw [hR]; exact ovl_L R s _)
  obtain ⟨mu1, e1, e2, e3⟩ := z_listItems d L p hO (f := fN R s) (a := aN R s) hb hs mu hRow hF
  obtain ⟨q1, q2, q3⟩ := part_ok hO hs hb
  obtain ⟨mu2, e4, e5, e6⟩ := z_pack d L p (SZ R s b) (AL R s b) s (adr s) x hs (by omega) hx (fun i _ => by have := q3 i; omega) q1 mu1 e3
  have e6' : ∀ j, j < 12 → mu2 86 j = ovr (f j) (-5) := fun j hj => by rw [hfe]; exact e6 j hj
  have fr : ∀ r, ¬r = 84 → ¬r = 85 → ¬r = 86 → mu2 r = mu r := fun r a b c => by rw [e5 r c, e2 r a b]
  have hst0 : zsem (d + 1) 67 0 [.inr (.inl (some 1)), .inl (nI b), .inl (nI s)] [] (HH L mu1 p) = some (some (.inl (nI x)), HH L mu1 p) := by
    rcases hS with ⟨rfl, rfl⟩ | ⟨h1, h2, h3⟩
    · exact z_startOf_r d L mu1 p s
    · have := z_startOf_b d L mu1 p b s h1 hs (by rw [e2 2 (by omega) (by omega), (hRow.2.1 b h1).1]; exact h2)
      rw [e2 10 (by omega) (by omega), h3] at this
      exact this
  obtain ⟨mu3, c', Q', g1, g2, g3, g4, g5, g6, g7, g8⟩ := z_plI d L p hO hs hb f hf st hst Q hQ0 12 0 mu2 0 Q (.inr (.inl none)) rfl (by rw [stK_0, ← hR]; exact rk_cong (fun r _ _ => fr r (by omega) (by omega) (by omega))) (by rw [stK_0, Nat.zero_add]) ⟨by rw [fr 81 (by omega) (by omega) (by omega)]; exact hQ.1, fun i x h => by rw [fr 87 (by omega) (by omega) (by omega)]; exact hQ.2 i x h⟩ hN (fun j => ⟨fun q => Or.inl q, fun q => q.elim id (fun g => by omega)⟩) (fun i hi => ⟨by rw [e5 84 (by omega)]; exact (e3 i hi).1, e6' i hi⟩)
  refine ⟨mu3, c', Q', ?_, g2, g3, g4, g5, g6, FrP.tr (fun r a1 a2 a3 a4 a5 => fr r (by omega) (by omega) (by omega)) g7, g8⟩
  rw [← g1]
  simp (disch := first | omega | assumption) only [h103_0, h103_1, h103_2, h103_3, h103_4, h103_7, h103_8, h103_9, h103_10, h103_11, h103_12, h103_15, h103_16, h103_19, h103_22, h103_23, h103_24, h103_26, h103_27, h103_31, h103_33, h103_36, h103_37, h103_38, h103_40, h103_41, h103_42, h103_45, h103_47, h103_48, h103_51, h103_53, h103_54, h103_56, h103_59, h103_60, h103_62, h103_65, h103_68, h103_69, h103_72, h103_74, h103_76, h103_77, h103_78, h103_81, h103_82, h103_85, h103_87, h103_88, h103_89, h103_92, h103_93, h103_96, h103_98, h103_99, h103_101, h103_104, h103_105, h103_107, h103_110, h103_113, h103_114, h103_117, h103_119, h103_122, h103_123, h103_125, h103_126, h103_127, h103_130, h103_132, h103_133, h103_134, h103_137, h103_139, h103_140, h103_143, h103_144, h103_147, h103_148, h103_151, h103_153, h103_154, h103_155, h103_156, h103_159, h103_160, h103_161, h103_164, h103_167, h103_170, h103_172, Option.bind_some, Option.toList_some, Option.toList_none, List.cons_append, List.nil_append, nI_ltc, nI_lec, nI_eqc, nI_ne5, n5_ne, n5_lt, bI_0, bI_1, nI_add, pk_mul, if_pos, if_neg, ite_not, if_true, if_false, not_true_eq_false, not_false_eq_true, true_and, false_and, and_true, and_false, Nat.reduceAdd, Nat.reduceMul, e1, hst0, z_addressesOf, e4]
def stQ (R : RV) (s b0 x0 : Nat) (D : List Nat) : Nat → Nat → Option Nat := fun b k => if b ∈ D then stF R s b0 x0 b k else none
/-- the queue's contents -/
def InvQ (R : RV) (s b0 x0 : Nat) (Q : List Nat) (n : Nat) : Prop := Q[0]? = some b0 ∧ QN Q ∧ n ≤ Q.length ∧ (∀ y, y ∈ Q → posB R s b0 x0 y ≠ none ∧ (y < 12 → R 2 y = nI 2)) ∧
  ∀ j, j ∈ Q ↔ j = b0 ∨ (j < 12 ∧ R 2 j = nI 2 ∧ bn R j ∈ Q.take n ∧ stF R s b0 x0 (bn R j) (sn R j * 3) ≠ none)
theorem take_mem {Q : List Nat} {n x : Nat} (h : Q[n]? = some x) : Q.take (n + 1) = Q.take n ++ [x] := by
  rw [List.take_add_one, h]
  rfl
theorem ndp_take {x : Nat} : ∀ (Q : List Nat) (n : Nat), ndp Q → Q[n]? = some x → ¬x ∈ Q.take n := by
  intro Q
  induction Q with
  | nil => intro n _ h; cases h
  | cons y Q ih =>
    intro n ⟨h1, h2⟩ h hm
    cases n with
    | zero => cases hm
    | succ n =>
      rw [List.getElem?_cons_succ] at h
      rw [List.take_succ_cons] at hm
      rcases List.mem_cons.mp hm with hm | hm
      · apply h1
        rw [← hm]
        exact List.mem_of_getElem? h
      · exact ih n h2 h hm
theorem take_pre {Q Q' : List Nat} (h : ∀ i x : Nat, Q[i]? = some x → Q'[i]? = some x) : ∀ n, n ≤ Q.length → Q'.take n = Q.take n := by
  intro n
  induction n with
  | zero => intro _; rfl
  | succ n ih =>
    intro hn
    have hq : ∃ x, Q[n]? = some x := ⟨Q[n]'(by omega), List.getElem?_eq_getElem (by omega)⟩
    obtain ⟨x, hx⟩ := hq
    rw [take_mem hx, take_mem (h n x hx), ih (by omega)]
theorem z_placeL {R : RV} (hO : OK R) {s b0 x0 : Nat} (hs : s < 2) (hb0 : b0 < 13) (hr : PLr R s b0 x0) : ∀ fuel n Q mu c, 13 ≤ n + fuel → InvQ R s b0 x0 Q n → rk mu 1 = ovl R s (stQ R s b0 x0 (Q.take n)) → c = TC R (stQ R s b0 x0 (Q.take n)) → QH Q mu → (∀ j, j < 12 → R 2 j = nI 2 → mu 82 j = nI (fN R s j) ∧ mu 83 j = nI (aN R s j)) →
    ∃ mu' Q', zsem (d + 3) 102 18 [.inr (.inl (some 81)), .inr (.inl (some 1)), .inl (nI b0), .inl (nI s), .inl (nI c), .inl (nI n)] [] (HH L mu p) = some (some (.inl (nI (TC R (stQ R s b0 x0 Q')))), HH L mu' p) ∧ rk mu' 1 = ovl R s (stQ R s b0 x0 Q') ∧ InvQ R s b0 x0 Q' Q'.length ∧ FrP mu mu' := by
  intro fuel
  have stop : ∀ n Q mu c, ¬n < Q.length → InvQ R s b0 x0 Q n → rk mu 1 = ovl R s (stQ R s b0 x0 (Q.take n)) → c = TC R (stQ R s b0 x0 (Q.take n)) → QH Q mu → ∃ mu' Q', zsem (d + 3) 102 18 [.inr (.inl (some 81)), .inr (.inl (some 1)), .inl (nI b0), .inl (nI s), .inl (nI c), .inl (nI n)] [] (HH L mu p) = some (some (.inl (nI (TC R (stQ R s b0 x0 Q')))), HH L mu' p) ∧ rk mu' 1 = ovl R s (stQ R s b0 x0 Q') ∧ InvQ R s b0 x0 Q' Q'.length ∧ FrP mu mu' := by
    intro n Q mu c hn hI hR hc hQ
    have hlen := QN_len hI.2.1
    have e : n = Q.length := by have := hI.2.2.1; omega
    subst e
    rw [List.take_length] at hR hc
    have hw := hQ.1
    refine ⟨mu, Q, ?_, hR, hI, FrP.rfl' mu⟩
    rw [h102_18, hc]
    simp (disch := first | omega | assumption) only [h102_0, h102_1, h102_4, h102_5, h102_6, h102_7, h102_8, h102_9, h102_12, h102_13, h102_15, h102_16, h102_20, h102_21, h102_24, h102_27, h102_29, h102_31, h102_34, h102_36, h102_37, h102_38, h102_39, h102_42, h102_44, h102_45, h102_46, h102_49, h102_50, h102_52, h102_55, h102_58, h102_60, Option.bind_some, Option.toList_some, Option.toList_none, List.cons_append, List.nil_append, nI_ltc, nI_lec, nI_eqc, nI_ne5, n5_ne, n5_lt, bI_0, bI_1, nI_add, pk_mul, if_pos, if_neg, ite_not, if_true, if_false, not_true_eq_false, not_false_eq_true, true_and, false_and, and_true, and_false, Nat.reduceAdd, Nat.reduceMul, hw]
  induction fuel with
  | zero =>
    intro n Q mu c hf hI hR hc hQ hM
    have hlen := QN_len hI.2.1
    exact stop n Q mu c (by omega) hI hR hc hQ
  | succ fuel ih =>
    intro n Q mu c hf hI hR hc hQ hM
    by_cases hn : n < Q.length
    · have hI0 := hI
      obtain ⟨j1, j2, j3, j4, j5⟩ := hI
      have hlen := QN_len j2
      obtain ⟨b, hb⟩ : ∃ x, Q[n]? = some x := ⟨Q[n], List.getElem?_eq_getElem hn⟩
      have hbm : b ∈ Q := List.mem_of_getElem? hb
      have hb13 := j2.2 b hbm
      obtain ⟨v1, v2⟩ := j4 b hbm
      obtain ⟨x, hx⟩ : ∃ x, posB R s b0 x0 b = some x := by
        cases h : posB R s b0 x0 b with
        | none => exact absurd h v1
        | some x => exact ⟨x, rfl⟩
      have hnt : ¬b ∈ Q.take n := ndp_take Q n j2.1 hb
      have hpe := posE_ok hO hs hr 5 b x hb13 (fun g => ⟨v2 g, by have := dq_le hO.T g (k2_ne0 (v2 g)); omega⟩) hx
      have hxa : x ≤ adr s := by
        rcases hpe with ⟨-, -, q⟩ | ⟨-, -, -, -, -, q, -⟩ <;> omega
      have hfe : stF R s b0 x0 b = pst (SZ R s b) (AL R s b) (adr s) x (IT R s b) := by
        funext k
        unfold stF
        rw [hx]
      have hup : b0 < 12 → ¬bn R b0 ∈ Q := fun g q => by
        rcases hr with ⟨r1, -⟩ | ⟨r1, -, -, r2, -⟩
        · omega
        · exact (j4 _ q).1 (posB_up hO.T r1 r2)
      have hQ0 : ∀ y, y ∈ Q → ¬(y < 12 ∧ R 2 y = nI 2 ∧ bn R y = b) := fun y hy ⟨y1, y2, y3⟩ => by
        rcases (j5 y).mp hy with rfl | ⟨-, -, q, -⟩
        · exact hup y1 (by rw [y3]; exact hbm)
        · rw [y3] at q; exact hnt q
      have hS : (b = 12 ∧ x = 0) ∨ (b < 12 ∧ R 2 b = nI 2 ∧ mu 10 (b * 2 + s) = nI x) := by
        by_cases h12 : b = 12
        · rcases hpe with ⟨-, -, q⟩ | ⟨q, -⟩
          · exact Or.inl ⟨h12, q⟩
          · omega
        · have hb12 : b < 12 := by omega
          refine Or.inr ⟨hb12, v2 hb12, ?_⟩
          have e10 : mu 10 (b * 2 + s) = ovl R s (stQ R s b0 x0 (Q.take n)) 10 (b * 2 + s) := by rw [← hR, rk_10 (by omega)]
          rw [e10, (ovl_10 hb12 hs (v2 hb12)).1]
          by_cases e : b = b0
          · subst e
            have : ¬bn R b ∈ Q.take n := fun q => hup hb12 (List.mem_of_mem_take q)
            unfold stQ
            rw [if_neg this]
            rw [posB_0] at hx
            cases hx
            rcases hr with ⟨r1, -⟩ | ⟨r1, -, -, r2, r3, -⟩
            · omega
            · exact r3
          · rcases (j5 b).mp hbm with q | ⟨-, -, q, -⟩
            · exact absurd q e
            · unfold stQ
              rw [if_pos q, ← posB_eq hO.T hb12 (v2 hb12) e, hx]
              rfl
      obtain ⟨mu1, c', Q1, e1, e2, e3, e4, e5, e6, e7, e8⟩ := z_placeItems (d) L p hO hs hb13 x hxa (stF R s b0 x0 b) hfe (fun k z hz => by
        obtain ⟨g1, g2, g3, -⟩ := stF_ok hO hs hr b k z hz
        exact ⟨g1, g2, g3⟩) (stQ R s b0 x0 (Q.take n)) (fun k => by unfold stQ; rw [if_neg hnt]) Q hQ0 mu hR hQ j2 (fun j hj h2 _ => by
        obtain ⟨g1, g2⟩ := hM j hj h2
        have := (need_ok hO hs hj h2).1
        exact ⟨g1, g2, by omega⟩) hS
      have htk : Q1.take (n + 1) = Q.take n ++ [b] := by
        rw [take_mem (e8 n b hb), take_pre e8 n j3]
      have hst' : ∀ b' k, b' < 13 → k < 12 → stK (stQ R s b0 x0 (Q.take n)) (stF R s b0 x0 b) b 12 b' k = stQ R s b0 x0 (Q1.take (n + 1)) b' k := fun b' k _ hk => by
        unfold stK stQ
        rw [htk]
        by_cases hbb : b' = b
        · subst hbb
          rw [if_pos ⟨rfl, hk⟩, if_pos (by simp)]
        · rw [if_neg (fun q => hbb q.1)]
          by_cases hm : b' ∈ Q.take n
          · rw [if_pos hm, if_pos (List.mem_append_left _ hm)]
          · rw [if_neg hm, if_neg (fun q => by
              rcases List.mem_append.mp q with q | q
              · exact hm q
              · exact hbb (by simpa using q))]
      have hlen1 := QN_len e5
      have hn1 : n + 1 ≤ Q1.length := by
        by_cases q : n < Q1.length
        · exact q
        · have := e8 n b hb
          rw [List.getElem?_eq_none (by omega)] at this; cases this
      have hI1 : InvQ R s b0 x0 Q1 (n + 1) := by
        refine ⟨e8 0 b0 j1, e5, hn1, fun y hy => ?_, fun j => ?_⟩
        · rcases (e6 y).mp hy with q | ⟨y1, y2, y3, y4, y5⟩
          · exact j4 y q
          · refine ⟨?_, fun _ => y2⟩
            rw [posB_eq hO.T y1 y2 (fun g => by rw [g] at y3; exact hup (by omega) (by rw [y3]; exact hbm)), y3]
            exact y5
        · rw [e6 j, j5 j, htk]
          constructor
          · rintro ((q | ⟨a1, a2, a3, a4⟩) | ⟨a1, a2, a3, a4, a5⟩)
            · exact Or.inl q
            · exact Or.inr ⟨a1, a2, List.mem_append_left _ a3, a4⟩
            · exact Or.inr ⟨a1, a2, by rw [a3]; simp, by rw [a3]; exact a5⟩
          · rintro (q | ⟨a1, a2, a3, a4⟩)
            · exact Or.inl (Or.inl q)
            · rcases List.mem_append.mp a3 with q | q
              · exact Or.inl (Or.inr ⟨a1, a2, q, a4⟩)
              · have q : bn R j = b := by simpa using q
                have := (sn_ok hO.T a1 (k2_ne0 a2)).1
                exact Or.inr ⟨a1, a2, q, by omega, by rw [← q]; exact a4⟩
      obtain ⟨mu', Q', g1, g2, g3, g4⟩ := ih (n + 1) Q1 mu1 (c + c') (by omega) hI1 (by rw [e2]; exact ovl_cong hO.T hst') (by rw [← TC_cong hO.T hst', ← e3, hc, Nat.add_comm]) e4 (fun j hj h2 => by
        rw [e7 82 (by omega) (by omega) (by omega) (by omega) (by omega), e7 83 (by omega) (by omega) (by omega) (by omega) (by omega)]
        exact hM j hj h2)
      refine ⟨mu', Q', ?_, g2, g3, FrP.tr e7 g4⟩
      have hw := hQ.1
      have hq := hQ.2 n b hb
      rw [← g1, h102_18]
      simp (disch := first | omega | assumption) only [h102_0, h102_1, h102_4, h102_5, h102_6, h102_7, h102_8, h102_9, h102_12, h102_13, h102_15, h102_16, h102_20, h102_21, h102_24, h102_27, h102_29, h102_31, h102_34, h102_36, h102_37, h102_38, h102_39, h102_42, h102_44, h102_45, h102_46, h102_49, h102_50, h102_52, h102_55, h102_58, h102_60, Option.bind_some, Option.toList_some, Option.toList_none, List.cons_append, List.nil_append, nI_ltc, nI_lec, nI_eqc, nI_ne5, n5_ne, n5_lt, bI_0, bI_1, nI_add, pk_mul, if_pos, if_neg, ite_not, if_true, if_false, not_true_eq_false, not_false_eq_true, true_and, false_and, and_true, and_false, Nat.reduceAdd, Nat.reduceMul, hw, hq, e1]
    · exact stop n Q mu c hn hI hR hc hQ
/-- all that is below a bus is placed -/
theorem z_place {R : RV} (hO : OK R) {s b0 x0 : Nat} (hs : s < 2) (hb0 : b0 < 13) (hr : PLr R s b0 x0) (mu : RV) (hR : rk mu 1 = R) (hM : ∀ j, j < 12 → R 2 j = nI 2 → mu 82 j = nI (fN R s j) ∧ mu 83 j = nI (aN R s j)) :
    ∃ mu', zsem (d + 3) 102 0 [.inr (.inl (some 81)), .inr (.inl (some 1)), .inl (nI b0), .inl (nI s), .inr (.inl none), .inr (.inl none)] [] (HH L mu p) = some (some (.inl (nI (TC R (stF R s b0 x0)))), HH L mu' p) ∧ rk mu' 1 = ovl R s (stF R s b0 x0) ∧ FrP mu mu' := by
  have st0 : stQ R s b0 x0 (([b0] : List Nat).take 0) = fun _ _ => none := by
    funext b k
    unfold stQ
    rw [if_neg (by simp)]
  have hm0 : rk (u2 (u2 mu 87 0 (nI b0)) 81 6 (nI 1)) 1 = R := by
    rw [← hR]
    exact rk_cong (fun r _ _ => by rw [u2_row (by omega), u2_row (by omega)])
  obtain ⟨mu', Q', e1, e2, e3, e4⟩ := z_placeL d L p hO hs hb0 hr 13 0 [b0] (u2 (u2 mu 87 0 (nI b0)) 81 6 (nI 1)) 0 (by omega) ⟨rfl, ⟨⟨fun h => (by cases h), trivial⟩, fun y hy => by
      have : y = b0 := by simpa using hy
      omega⟩, Nat.zero_le _, fun y hy => by
      have : y = b0 := by simpa using hy
      subst this
      refine ⟨(by rw [posB_0]; exact (fun q => (by cases q))), fun g => ?_⟩
      (rcases hr with ⟨q, -⟩ | ⟨-, -, -, q, -⟩
       · omega
       · exact q), fun j => by
      constructor
      · intro h; exact Or.inl (by simpa using h)
      · rintro (h | ⟨-, -, h, -⟩)
        · rw [h]; exact List.mem_cons_self ..
        · cases h⟩ (by rw [hm0, st0, ovl_none]) (by rw [st0, TC_none]) ⟨u2_s _ _ _ _, fun i x h => by
      cases i with
      | zero =>
        rw [List.getElem?_cons_zero] at h
        cases h
        rw [u2_row (by omega), u2_s]
      | succ i => cases h⟩ (fun j hj h2 => by
      rw [u2_row (by omega), u2_row (by omega), u2_row (by omega), u2_row (by omega)]
      exact hM j hj h2)
  obtain ⟨j1, j2, j3, j4, j5⟩ := e3
  rw [List.take_length] at j5
  have all : ∀ n b, b < 13 → (b < 12 → R 2 b = nI 2 → dq R b < n) → posB R s b0 x0 b ≠ none → b ∈ Q' := by
    intro n
    induction n with
    | zero =>
      intro b hb h1 h2
      by_cases e : b = b0
      · exact (j5 b).mpr (Or.inl e)
      · by_cases h12 : b = 12
        · subst h12; exact absurd (posB_12 (fun q => e q.symm)) h2
        · by_cases k : R 2 b = nI 2
          · have := h1 (by omega) k; omega
          · exfalso
            apply h2
            unfold posB
            rw [PO, if_neg e, if_neg (fun q => k q.2)]
    | succ n ih =>
      intro b hb h1 h2
      by_cases e : b = b0
      · exact (j5 b).mpr (Or.inl e)
      · by_cases h12 : b = 12
        · subst h12; exact absurd (posB_12 (fun q => e q.symm)) h2
        · by_cases k : R 2 b = nI 2
          · have hb12 : b < 12 := by omega
            have := h1 hb12 k
            rw [posB_eq hO.T hb12 k e] at h2
            refine (j5 b).mpr (Or.inr ⟨hb12, k, ?_, h2⟩)
            obtain ⟨g1, g2, g3⟩ := hO.T.bus hb12 (k2_ne0 k)
            exact ih (bn R b) g1 (fun q q2 => by have := dq_s hO.T hb12 (k2_ne0 k) q; omega) (fun q => h2 (stF_none q))
          · exfalso
            apply h2
            unfold posB
            rw [PO, if_neg e, if_neg (fun q => k q.2)]
  have hst : ∀ b k, b < 13 → k < 12 → stQ R s b0 x0 Q' b k = stF R s b0 x0 b k := fun b k hb hk => by
    unfold stQ
    by_cases hm : b ∈ Q'
    · rw [if_pos hm]
    · rw [if_neg hm]
      cases hp : posB R s b0 x0 b with
      | none => exact (stF_none hp).symm
      | some x => exact absurd (all 5 b hb (fun g g2 => by have := dq_le hO.T g (k2_ne0 g2); omega) (by rw [hp]; exact fun q => by cases q)) hm
  refine ⟨mu', ?_, by rw [e2]; exact ovl_cong hO.T hst, FrP.tr (fun r a1 a2 a3 a4 a5 => by rw [u2_row a4, u2_row (by omega)]) e4⟩
  rw [← TC_cong hO.T hst, ← e1]
  simp (disch := first | omega | assumption) only [h102_0, h102_1, h102_4, h102_5, h102_6, h102_7, h102_8, h102_9, h102_12, h102_13, h102_15, h102_16, h102_20, h102_21, h102_24, h102_27, h102_29, h102_31, h102_34, h102_36, h102_37, h102_38, h102_39, h102_42, h102_44, h102_45, h102_46, h102_49, h102_50, h102_52, h102_55, h102_58, h102_60, Option.bind_some, Option.toList_some, Option.toList_none, List.cons_append, List.nil_append, nI_ltc, nI_lec, nI_eqc, nI_ne5, n5_ne, n5_lt, bI_0, bI_1, nI_add, pk_mul, if_pos, if_neg, ite_not, if_true, if_false, not_true_eq_false, not_false_eq_true, true_and, false_and, and_true, and_false, Nat.reduceAdd, Nat.reduceMul]
end
