/-! the law's own invariants under the actions -/
theorem OX_cong {R R' : RV} (h2 : R' 2 = R 2) (h7 : R' 7 = R 7) (h8 : R' 8 = R 8) (h10 : R' 10 = R 10) (h12 : R' 12 = R 12) (h : OX R) : OX R' := by
  obtain ⟨h1, h3⟩ := h
  refine ⟨fun d q a n hd hq k2 k7 k8 => ?_, fun d s hd hs k => ?_⟩
  · rw [h2] at k2
    rw [h7] at k7
    rw [h8] at k8
    exact h1 d q a n hd hq k2 k7 k8
  · rw [h10] at k
    rw [h12]
    exact h3 d s hd hs k
theorem OX_rel {R : RV} {f : Nat → Bool} (h : OX R) : OX (relS R f 12) := by
  obtain ⟨h1, h3⟩ := h
  have r2 : relS R f 12 2 = R 2 := relS_row (by omega)
  have r7 : relS R f 12 7 = R 7 := relS_row (by omega)
  refine ⟨fun d q a n hd hq k2 k7 k8 ha hn => ?_, fun d s hd hs k => ?_⟩
  · by_cases g : f d = true
    · rw [(relS_l (R := R) (f := f) ⟨hd, g⟩).2.2.2 q hq, n5_ne (by omega)] at k8
      exact k8.elim
    · rw [(relS_k (R := R) (f := f) (n := 12) (d := d) (fun q => g q.2)).2.2.2 q hq] at k8
      rw [r2] at k2
      rw [r7] at k7
      exact h1 d q a n hd hq k2 k7 k8 ha hn
  · by_cases g : f d = true
    · exact absurd ((relS_l (R := R) (f := f) ⟨hd, g⟩).2.2.1 s hs).1 k
    · obtain ⟨l1, l2, l3, l4⟩ := relS_k (R := R) (f := f) (n := 12) (d := d) (fun q => g q.2)
      rw [(l3 s hs).1] at k
      rw [l1]
      exact h3 d s hd hs k
theorem OX_rem {R : RV} {f : Nat → Bool} (h : OX R) : OX (remA R f 12) := by
  have hr := OX_rel (f := f) h
  obtain ⟨h1, h3⟩ := hr
  have r8 : remA R f 12 8 = relS R f 12 8 := remA_row (by omega)
  have r10 : remA R f 12 10 = relS R f 12 10 := remA_row (by omega)
  have r12 : remA R f 12 12 = relS R f 12 12 := remA_row (by omega)
  refine ⟨fun d q a n hd hq k2 k7 k8 ha hn => ?_, fun d s hd hs k => ?_⟩
  · by_cases g : f d = true
    · rw [(remA_2 (R := R) (f := f) hd).1 g] at k2
      exact absurd k2 (by decide)
    · rw [(remA_2 (R := R) (f := f) hd).2 g] at k2
      rw [(remA_7 (R := R) (f := f) hd hq).2 g] at k7
      rw [r8] at k8
      exact h1 d q a n hd hq (by rw [relS_row (by omega)]; exact k2) (by rw [relS_row (by omega)]; exact k7) k8 ha hn
  · rw [r10] at k
    rw [r12]
    exact h3 d s hd hs k
theorem OX_add {R : RV} (hA : InvA R) (h : OX R) {j b s : Nat} {k : Int32} (hj : j < 12) (hf : R 2 j = nI 0) : OX (addR R j b s k) := by
  obtain ⟨h1, h3⟩ := h
  have e : ∀ a, ¬a = 2 → ¬a = 3 → ¬a = 4 → ¬a = 5 → addR R j b s k a = R a := fun a q1 q2 q3 q4 => by
    unfold addR
    rw [u2_row q4, u2_row q3, u2_row q2, u2_row q1]
  have e2 : ∀ d, ¬d = j → addR R j b s k 2 d = R 2 d := fun d hd => by
    unfold addR
    rw [u2_row (by omega), u2_row (by omega), u2_row (by omega), u2_o _ _ (fun q => hd q.2)]
  refine ⟨fun d q a n hd hq k2 k7 k8 ha hn => ?_, fun d s hd hs k => ?_⟩
  · rw [e 7 (by omega) (by omega) (by omega) (by omega)] at k7
    rw [e 8 (by omega) (by omega) (by omega) (by omega)] at k8
    by_cases hdj : d = j
    · subst hdj
      rw [(hA.1 d hd (by rw [hf]; decide) q hq).2, n5_ne (by omega)] at k8
      exact k8.elim
    · rw [e2 d hdj] at k2
      exact h1 d q a n hd hq k2 k7 k8 ha hn
  · rw [e 10 (by omega) (by omega) (by omega) (by omega)] at k
    rw [e 12 (by omega) (by omega) (by omega) (by omega)]
    exact h3 d s hd hs k
theorem OX_region {R : RV} (h : OX R) {j q : Nat} {x y : Int32} (hq : q < 3) : OX (u2 (u2 (u2 R 6 (j * 3 + q) x) 7 (j * 3 + q) y) 8 (j * 3 + q) (-5)) := by
  obtain ⟨h1, h3⟩ := h
  refine ⟨fun d q' a n hd hq' k2 k7 k8 ha hn => ?_, fun d s hd hs k => ?_⟩
  · rw [u2_row (by omega), u2_row (by omega), u2_row (by omega)] at k2
    by_cases hdj : d * 3 + q' = j * 3 + q
    · rw [hdj, u2_s, n5_ne (by omega)] at k8
      exact k8.elim
    · rw [u2_row (by omega), u2_o _ _ (fun g => hdj g.2), u2_row (by omega)] at k7
      rw [u2_o _ _ (fun g => hdj g.2), u2_row (by omega), u2_row (by omega)] at k8
      exact h1 d q' a n hd hq' k2 k7 k8 ha hn
  · rw [u2_row (by omega), u2_row (by omega), u2_row (by omega)] at k
    rw [u2_row (by omega), u2_row (by omega), u2_row (by omega)]
    exact h3 d s hd hs k
theorem OX_u8 {R : RV} (h : OX R) {j q s n : Nat} {v : Int32} (hq : q < 3) (h7 : R 7 (j * 3 + q) = nI n) (hn : n ≤ 1024) (hv : FSp R s (bn R j) n n v) : OX (u2 R 8 (j * 3 + q) v) := by
  obtain ⟨h1, h3⟩ := h
  refine ⟨fun d q' a n' hd hq' k2 k7 k8 ha hn' => ?_, fun d s hd hs k => ?_⟩
  · rw [u2_row (by omega)] at k2 k7
    by_cases hdj : d * 3 + q' = j * 3 + q
    · rw [hdj, u2_s] at k8
      rw [hdj, h7, nI_eqc (by omega) (by omega)] at k7
      subst k7
      rcases hv with ⟨y, A, E, g1, g2, g3, g4, g5, g6, g7⟩ | ⟨-, g⟩
      · have hy : y < 2147483648 := by
          have : A + E ≤ 8192 := by
            rcases g1 with ⟨-, q1, q2⟩ | ⟨-, q1, q2, -⟩
            · have := @adr_le s
              omega
            · omega
          omega
        rw [g7, nI_eqc hy (by omega)] at k8
        rw [← k8]
        exact g2
      · rw [g, n5_ne (by omega)] at k8
        exact k8.elim
    · rw [u2_o _ _ (fun g => hdj g.2)] at k8
      exact h1 d q' a n' hd hq' k2 k7 k8 ha hn'
  · rw [u2_row (by omega)] at k
    rw [u2_row (by omega)]
    exact h3 d s hd hs k
theorem OX_CStep {R R' : RV} {j q c : Nat} (h : OX R) (hq : q < 3) (hs : CStep R j q R' c) : OX R' := by
  rcases hs with ⟨-, rfl, -⟩ | ⟨s, n, v, g1, g2, g3, g4, g5, g6, g7, rfl, -⟩
  · exact h
  · exact OX_u8 h hq g5 g2 g7
theorem OX_num {R : RV} (h : OX R) {j n m : Nat} (hn : n < 2147483648) : OX (u2 (u2 R 12 j (nI n)) 13 j (nI m)) := by
  obtain ⟨h1, h3⟩ := h
  refine ⟨fun d q' a n' hd hq' k2 k7 k8 ha hn' => ?_, fun d s hd hs k => ?_⟩
  · rw [u2_row (by omega), u2_row (by omega)] at k2 k7 k8
    exact h1 d q' a n' hd hq' k2 k7 k8 ha hn'
  · rw [u2_row (by omega), u2_row (by omega)] at k
    rw [u2_row (by omega)]
    by_cases hdj : d = j
    · subst hdj
      rw [u2_s, nI_ne5 hn]
      exact id
    · rw [u2_o _ _ (fun g => hdj g.2)]
      exact h3 d s hd hs k
theorem OX_opn {R : RV} (h : OX R) {s j y : Nat} (hs : s < 2) (h12 : ¬R 12 j = -5) : OX (opn R s j y) := by
  obtain ⟨h1, h3⟩ := h
  unfold opn
  refine ⟨fun d q' a n' hd hq' k2 k7 k8 ha hn' => ?_, fun d s' hd hs' k => ?_⟩
  · rw [u2_row (by omega), u2_row (by omega)] at k2 k7 k8
    exact h1 d q' a n' hd hq' k2 k7 k8 ha hn'
  · rw [u2_row (by omega), u2_row (by omega)]
    by_cases hdj : d = j
    · subst hdj
      exact h12
    · rw [u2_row (by omega), u2_o _ _ (fun g => hdj (by omega))] at k
      exact h3 d s' hd hs' k
theorem OX_ovl {R : RV} (hO : OK R) (h : OX R) {s b0 x0 : Nat} (hs : s < 2) (hr : PLr R s b0 x0) : OX (ovl R s (stF R s b0 x0)) := by
  obtain ⟨h1, h3⟩ := h
  have hI := hO.1
  have e2 : ovl R s (stF R s b0 x0) 2 = R 2 := ovl_L R s _ 2 (by omega) (by omega) (by omega)
  have e7 : ovl R s (stF R s b0 x0) 7 = R 7 := ovl_L R s _ 7 (by omega) (by omega) (by omega)
  have e12 : ovl R s (stF R s b0 x0) 12 = R 12 := ovl_L R s _ 12 (by omega) (by omega) (by omega)
  refine ⟨fun d q a n hd hq k2 k7 k8 ha hn => ?_, fun d s' hd hs' k => ?_⟩
  · rw [e2] at k2
    rw [e7] at k7
    rw [ovl_8 hd hq k2] at k8
    cases hst : stF R s b0 x0 (bn R d) (sn R d * 3 + q) with
    | none =>
      rw [hst] at k8
      exact h1 d q a n hd hq k2 k7 k8 ha hn
    | some z =>
      rw [hst] at k8
      have k8 : nI z = nI a := k8
      obtain ⟨x, g1, g2, g3, g4⟩ := stF_mem hst
      have hb := hI.b13 hd (k1_ne0 k2)
      have hz := (pst_in (sz := SZ R s (bn R d)) (al := AL R s (bn R d)) _ _ (AL_pos hO hs hb) g2).2.2
      obtain ⟨hsn, hv⟩ := sn_ok hI hd (k1_ne0 k2)
      have e3 : (sn R d * 3 + q) / 3 = sn R d := by omega
      have e4 : (sn R d * 3 + q) % 3 = q := by omega
      have hal : AL R s (bn R d) (sn R d * 3 + q) = n := by
        have := pal_c (R := R) (s := s) (b := bn R d) (k := sn R d * 3 + q) (f := fN R s) (a := aN R s) hd (by rw [e3]; exact hv) k2 g4
        rw [e4, k7, vn_n (by omega)] at this
        exact this
      rw [hal] at hz
      have hzl : z < 2147483648 := by have := (stF_ok hO hs hr _ _ z hst).2.2.1; omega
      rw [nI_eqc hzl (by omega)] at k8
      rw [← k8]
      exact hz
  · rw [e12]
    by_cases hss : s' = s ∧ R 2 d = nI 2
    · obtain ⟨rfl, hk⟩ := hss
      rw [(ovl_10 hd hs' hk).1] at k
      cases hst : stF R s' b0 x0 (bn R d) (sn R d * 3) with
      | none =>
        rw [hst] at k
        exact h3 d s' hd hs' k
      | some z =>
        obtain ⟨x, g1, g2, g3, g4⟩ := stF_mem hst
        obtain ⟨hsn, hv⟩ := sn_ok hI hd (k2_ne0 hk)
        have hp := psz_b (R := R) (s := s') (b := bn R d) (k := sn R d * 3) (f := fN R s') g3 hd (by rw [show sn R d * 3 / 3 = sn R d by omega]; exact hv) hk
        intro q
        rw [if_neg (fun g => g.1 q)] at hp
        exact g4 hp
    · have := (ovl_10n (R := R) (s := s) (i := d * 2 + s') (st := stF R s b0 x0) (by
        rw [show (d * 2 + s') % 2 = s' by omega, show (d * 2 + s') / 2 = d by omega]
        exact hss)).1
      rw [this] at k
      exact h3 d s' hd hs' k
theorem OX_WStep {R R' : RV} {j s c : Nat} (hO : OK R) (h : OX R) (hj : j < 12) (hs : s < 2) (h2 : R 2 j = nI 2) (h12 : ¬R 12 j = -5) (hw : WStep R j s R' c) : OX R' := by
  rcases hw with ⟨-, rfl, -⟩ | ⟨-, -, -, rfl, -⟩ | ⟨y, y1, y2, y3, y4, rfl, -⟩
  · exact h
  · exact h
  · have ho := OK_opn hO hs hj h2 y3 y4 (by omega) y2
    exact OX_ovl ho.1 (OX_opn h hs h12) hs ho.2.1
