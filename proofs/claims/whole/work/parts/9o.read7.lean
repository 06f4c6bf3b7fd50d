/-! the reference's reader: the block that it writes -/
def BD (mu : RV) (R : RV) : Prop := (∀ d, d < 12 → RelD R (fun t => mu 106 (1446 + t)) d) ∧ ∀ j, j < 36 → R 8 j = -5
theorem BD_c {mu mu' R : RV} (h : BD mu R) (e : ∀ i, 1446 ≤ i → mu' 106 i = mu 106 i) : BD mu' R := ⟨fun d hd => RelD_cong (h.1 d hd) (fun k hk => e _ (by omega)) (fun _ _ => rfl) (fun _ _ _ _ => rfl) (fun _ _ _ _ => rfl), h.2⟩
theorem BD_put {mu m1 R : RV} {cn b s : Nat} {k : Int32} (h : BD mu R) (hA : InvA R) (hc : cn < 12) (hb : b < 13) (hs : s < 4) (hf : R 2 cn = nI 0)
    (hw : ∀ n, n < 20 → m1 106 (1446 + 20 * cn + n) = wv k (nI b) (nI s) n) (ho : ∀ i, ¬(1446 + 20 * cn ≤ i ∧ i < 1446 + 20 * cn + 20) → m1 106 i = mu 106 i) : BD m1 (addR R cn b s k) := by
  have rows : ∀ a, ¬a = 2 → ¬a = 3 → ¬a = 4 → ¬a = 5 → addR R cn b s k a = R a := fun a h2 h3 h4 h5 => addR_r h2 h3 h4 h5
  refine ⟨fun dd hd => ?_, fun j hj => by rw [rows 8 (by omega) (by omega) (by omega) (by omega)]; exact h.2 j hj⟩
  have w3 : ∀ n, n < 20 → (fun t => m1 106 (1446 + t)) (20 * cn + n) = wv k (nI b) (nI s) n := fun n hn => by
    show m1 106 (1446 + (20 * cn + n)) = _
    rw [← Nat.add_assoc]
    exact hw n hn
  by_cases hdj : dd = cn
  · subst hdj
    have y1 := hA.1 dd hc (by rw [hf]; decide)
    obtain ⟨x1, x2, x3⟩ := hA.2 dd hc (by rw [hf]; decide)
    generalize (fun t => m1 106 (1446 + t)) = B at w3 ⊢
    refine ⟨?_, fun _ => ⟨?_, ?_, fun q hq => ⟨?_, ?_, fun hz => ?_⟩, ?_, ?_, fun s' hs' => ⟨?_, ?_, ?_⟩⟩⟩
    · have := w3 0 (by omega)
      unfold addR
      simp (disch := omega) only [u2_o, u2_e]
      exact this
    · have := w3 1 (by omega)
      unfold addR
      simp (disch := omega) only [u2_o, u2_e]
      exact this
    · have := w3 2 (by omega)
      unfold addR
      simp (disch := omega) only [u2_o, u2_e]
      exact this
    · have := w3 (3 + 3 * q + 1) (by omega)
      rw [rows 7 (by omega) (by omega) (by omega) (by omega), (y1 q hq).1]
      rw [show 20 * dd + 3 + 3 * q + 1 = 20 * dd + (3 + 3 * q + 1) by omega, this]
      rcases (show q = 0 ∨ q = 1 ∨ q = 2 by omega) with rfl | rfl | rfl <;> rfl
    · have := w3 (3 + 3 * q + 2) (by omega)
      rw [rows 8 (by omega) (by omega) (by omega) (by omega), (y1 q hq).2]
      rw [show 20 * dd + 3 + 3 * q + 2 = 20 * dd + (3 + 3 * q + 2) by omega, this]
      rcases (show q = 0 ∨ q = 1 ∨ q = 2 by omega) with rfl | rfl | rfl <;> rfl
    · rw [rows 7 (by omega) (by omega) (by omega) (by omega)] at hz
      exact absurd (y1 q hq).1 hz
    · rw [rows 12 (by omega) (by omega) (by omega) (by omega), x1]
      exact w3 12 (by omega)
    · rw [rows 13 (by omega) (by omega) (by omega) (by omega), x2]
      exact w3 13 (by omega)
    · rw [rows 10 (by omega) (by omega) (by omega) (by omega), (x3 s' hs').1]
      rw [show 20 * dd + 14 + s' = 20 * dd + (14 + s') by omega, w3 (14 + s') (by omega)]
      rcases (show s' = 0 ∨ s' = 1 by omega) with rfl | rfl <;> rfl
    · rw [rows 11 (by omega) (by omega) (by omega) (by omega), (x3 s' hs').2.1]
      rw [show 20 * dd + 16 + s' = 20 * dd + (16 + s') by omega, w3 (16 + s') (by omega)]
      rcases (show s' = 0 ∨ s' = 1 by omega) with rfl | rfl <;> rfl
    · rw [rows 9 (by omega) (by omega) (by omega) (by omega), (x3 s' hs').2.2]
      rw [show 20 * dd + 18 + s' = 20 * dd + (18 + s') by omega, w3 (18 + s') (by omega)]
      rcases (show s' = 0 ∨ s' = 1 by omega) with rfl | rfl <;> rfl
  · refine RelD_cong (h.1 dd hd) (fun t ht => ?_) (fun a ha => ?_) (fun a q' ha hq' => ?_) (fun a q' ha hq' => ?_)
    · exact ho _ (by omega)
    · unfold addR
      simp (disch := omega) only [u2_o]
    · unfold addR
      simp (disch := omega) only [u2_o]
    · unfold addR
      simp (disch := omega) only [u2_o]
theorem BD_reg {mu R : RV} {c rg : Nat} {x y : Int32} (h : BD mu R) (hc : c < 12) (hr : rg < 3) (hk : R 2 c = nI 1) : BD (u2 (u2 mu 106 (1446 + (20 * c + 3 + 3 * rg)) x) 106 (1446 + (20 * c + 3 + 3 * rg) + 1) y) (u2 (u2 (u2 R 6 (c * 3 + rg) x) 7 (c * 3 + rg) y) 8 (c * 3 + rg) (-5)) := by
  refine ⟨fun dd hd => ?_, fun j hj => ?_⟩
  · by_cases e : dd = c
    · subst e
      obtain ⟨h0, h1⟩ := h.1 dd hd
      obtain ⟨g1, g2, g3, g4, g5, g6⟩ := h1 (by rw [hk]; decide)
      refine ⟨?_, fun _ => ⟨?_, ?_, fun q hq => ?_, ?_, ?_, fun s hs => ⟨?_, ?_, ?_⟩⟩⟩
      · dsimp only
        rw [u2_o _ _ (by omega), u2_o _ _ (by omega), u2_o _ _ (by omega), u2_o _ _ (by omega), u2_o _ _ (by omega)]
        exact h0
      · dsimp only
        rw [u2_o _ _ (by omega), u2_o _ _ (by omega), u2_o _ _ (by omega), u2_o _ _ (by omega), u2_o _ _ (by omega)]
        exact g1
      · dsimp only
        rw [u2_o _ _ (by omega), u2_o _ _ (by omega), u2_o _ _ (by omega), u2_o _ _ (by omega), u2_o _ _ (by omega)]
        exact g2
      · obtain ⟨k1, k2, k3⟩ := g3 q hq
        dsimp only at k1 k2 k3 ⊢
        have h8 := h.2 (dd * 3 + q) (by omega)
        by_cases e : q = rg
        · subst e
          refine ⟨?_, ?_, fun _ => ?_⟩
          · rw [u2_e _ _ (by omega), u2_o _ _ (by omega), u2_s]
          · rw [u2_o _ _ (by omega), u2_o _ _ (by omega), u2_s, k2]
            exact h8
          · rw [u2_o _ _ (by omega), u2_e _ _ (by omega), u2_o _ _ (by omega), u2_o _ _ (by omega), u2_s]
        · refine ⟨?_, ?_, fun hz => ?_⟩
          · rw [u2_o _ _ (by omega), u2_o _ _ (by omega), u2_o _ _ (by omega), u2_o _ _ (by omega), u2_o _ _ (by omega)]
            exact k1
          · rw [u2_o _ _ (by omega), u2_o _ _ (by omega), u2_o _ _ (by omega), u2_o _ _ (by omega), u2_o _ _ (by omega)]
            exact k2
          · rw [u2_o _ _ (by omega), u2_o _ _ (by omega), u2_o _ _ (by omega)] at hz
            rw [u2_o _ _ (by omega), u2_o _ _ (by omega), u2_o _ _ (by omega), u2_o _ _ (by omega), u2_o _ _ (by omega)]
            exact k3 hz
      · dsimp only
        rw [u2_o _ _ (by omega), u2_o _ _ (by omega), u2_o _ _ (by omega), u2_o _ _ (by omega), u2_o _ _ (by omega)]
        exact g4
      · dsimp only
        rw [u2_o _ _ (by omega), u2_o _ _ (by omega), u2_o _ _ (by omega), u2_o _ _ (by omega), u2_o _ _ (by omega)]
        exact g5
      · dsimp only
        rw [u2_o _ _ (by omega), u2_o _ _ (by omega), u2_o _ _ (by omega), u2_o _ _ (by omega), u2_o _ _ (by omega)]
        exact (g6 s hs).1
      · dsimp only
        rw [u2_o _ _ (by omega), u2_o _ _ (by omega), u2_o _ _ (by omega), u2_o _ _ (by omega), u2_o _ _ (by omega)]
        exact (g6 s hs).2.1
      · dsimp only
        rw [u2_o _ _ (by omega), u2_o _ _ (by omega), u2_o _ _ (by omega), u2_o _ _ (by omega), u2_o _ _ (by omega)]
        exact (g6 s hs).2.2
    · refine RelD_cong (h.1 dd hd) (fun t ht => ?_) (fun a ha => ?_) (fun a q' ha hq' => ?_) (fun a q' ha hq' => ?_)
      · (try dsimp only)
        rw [u2_o _ _ (by omega), u2_o _ _ (by omega)]
      · rw [u2_o _ _ (by omega), u2_o _ _ (by omega), u2_o _ _ (by omega)]
      · rw [u2_o _ _ (by omega), u2_o _ _ (by omega), u2_o _ _ (by omega)]
      · rw [u2_o _ _ (by omega), u2_o _ _ (by omega), u2_o _ _ (by omega)]
  · by_cases e : j = c * 3 + rg
    · rw [e, u2_s]
    · rw [u2_o _ _ (by omega), u2_o _ _ (by omega), u2_o _ _ (by omega)]
      exact h.2 j hj
/-- the reference between two items -/
def MR (mu : RV) (s : RSt) (en dq : Nat) : Prop := mu 105 15 = nI s.1.2.2.2.2 ∧ mu 105 16 = nI s.1.2.1 ∧ (∀ l, l ≤ s.1.2.1 → mu 116 l = nI (s.2.1 l) ∧ mu 117 l = nI (s.2.2.1 l) - nI 1) ∧ BD mu s.2.2.2 ∧
  ((en = 0 ∧ dq = 0 ∧ s.1.1 = 0) ∨ (en = 0 ∧ dq = 1 ∧ s.1.1 = 1) ∨ (en = 1 ∧ s.1.1 = 4 ∧ mu 105 19 = nI s.1.2.2.1) ∨ (en = 1 ∧ s.1.1 = 6 ∧ mu 105 19 = nI 3))
theorem ls_e : ∀ l : Nat, l ≤ 4 → nI 48 + (nI l - nI 1) + nI 1 = nI (48 + l) := by
  intro l h
  rcases (show l = 0 ∨ l = 1 ∨ l = 2 ∨ l = 3 ∨ l = 4 by omega) with rfl | rfl | rfl | rfl | rfl <;> decide
/-- a closing -/
theorem MR_C {mu : RV} {lv rg sp cn du : Nat} {ob ls : Nat → Nat} {R : RV} {en dq e1 : Nat} (h : MR mu ((du, lv, rg, sp, cn), ob, ls, R) en dq) (he : e1 = 1) : MR (u2 (u2 mu 105 16 (nI (lv - 1))) 105 19 (nI 3)) ((6, lv - 1, rg, sp, cn), ob, ls, R) e1 dq := by
  obtain ⟨h1, h2, h3, h4, h5⟩ := h
  subst he
  refine ⟨by rw [u2_o _ _ (by omega), u2_o _ _ (by omega)]; exact h1, by rw [u2_o _ _ (by omega), u2_s], fun l hl => ?_, BD_c h4 (fun i _ => by rw [u2_oa (by omega), u2_oa (by omega)]), Or.inr (Or.inr (Or.inr ⟨rfl, rfl, u2_s _ _ _ _⟩))⟩
  have hl : l ≤ lv - 1 := hl
  have := h3 l (show l ≤ lv by omega)
  rw [u2_oa (by omega), u2_oa (by omega), u2_oa (by omega), u2_oa (by omega)]
  exact this
/-- a comma -/
theorem MR_E {mu : RV} {lv rg sp cn du : Nat} {ob ls : Nat → Nat} {R : RV} {en dq : Nat} (h : MR mu ((du, lv, rg, sp, cn), ob, ls, R) en dq) : MR mu ((1, lv, rg, sp, cn), ob, ls, R) 0 1 := by
  obtain ⟨h1, h2, h3, h4, h5⟩ := h
  exact ⟨h1, h2, h3, h4, Or.inr (Or.inl ⟨rfl, rfl, rfl⟩)⟩
/-- a device -/
theorem MR_K {mu : RV} {lv rg sp cn du x k : Nat} {ob ls : Nat → Nat} {R : RV} {en dq : Nat} (hk : k = 1 ∨ k = 2) (h : MR mu ((du, lv, rg, sp, cn), ob, ls, R) en dq) (hW : WF ((du, lv, rg, sp, cn), ob, ls, R)) (hx : x < 4) {m1 : RV}
    (f1 : m1 105 = mu 105) (f2 : m1 116 = mu 116) (f3 : m1 117 = mu 117) (fw : if cn < 12 then (∀ n, n < 20 → m1 106 (1446 + 20 * cn + n) = wv (nI k) (nI (ob lv)) (nI x) n) ∧ ∀ i, ¬(1446 + 20 * cn ≤ i ∧ i < 1446 + 20 * cn + 20) → m1 106 i = mu 106 i else m1 = mu) :
    BD m1 (putS k lv cn ob (fup ls lv (x + 1)) R) := by
  obtain ⟨h1, h2, h3, h4, h5⟩ := h
  obtain ⟨w1, w2, w3, w4, w5, w6, w7, w8, w9, w10, w11, w12, w13⟩ := hW
  unfold putS
  by_cases q : cn < 12
  · rw [if_pos q] at fw ⊢
    obtain ⟨a1, a2, a3⟩ := w12 (by omega)
    rw [fup_s, show x + 1 - 1 = x by omega]
    exact BD_put h4 w6.2.1 q (chn_bus a2 lv (Nat.le_refl _)).1 hx ((a1 cn q).mpr (Nat.le_refl _)) fw.1 fw.2
  · rw [if_neg q] at fw ⊢
    rw [fw]
    exact h4
