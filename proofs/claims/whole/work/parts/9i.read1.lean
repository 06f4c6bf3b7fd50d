/-! reading: what is read, sign by sign -/
abbrev RSt := (Nat × Nat × Nat × Nat × Nat) × (Nat → Nat) × (Nat → Nat) × RV
def fup (f : Nat → Nat) (i x : Nat) : Nat → Nat := fun j => if j = i then x else f j
theorem fup_s (f : Nat → Nat) (i x : Nat) : fup f i x i = x := if_pos rfl
theorem fup_o (f : Nat → Nat) {i j : Nat} (x : Nat) (h : ¬j = i) : fup f i x j = f j := if_neg h
/-- due, level, regions, space, count; open buses, last slots and 1, the rack -/
def tkC : RSt → Nat → Option RSt
  | ((_, lv, rg, sp, cn), ob, ls, R), c => if c = 41 ∧ lv ≠ 0 then some ((6, lv - 1, rg, sp, cn), ob, ls, R) else none
def tkS : RSt → Nat → Option RSt
  | ((_, lv, rg, sp, cn), ob, ls, R), c => if lv < 5 ∧ 48 + ls lv ≤ c ∧ c < 52 then some ((2, lv, rg, sp, cn), ob, fup ls lv (c - 47), R) else none
def putS (k : Nat) (lv cn : Nat) (ob ls : Nat → Nat) (R : RV) : RV := if cn < 12 then addR R cn (ob lv) (ls lv - 1) (nI k) else R
def tkK : RSt → Nat → Option RSt
  | ((_, lv, rg, sp, cn), ob, ls, R), c => if c = 99 then some ((4, lv, 0, sp, cn + 1), ob, ls, putS 1 lv cn ob ls R) else if c = 98 then some ((3, lv, rg, sp, cn + 1), ob, ls, putS 2 lv cn ob ls R) else none
def tkO : RSt → Nat → Option RSt
  | ((_, lv, rg, sp, cn), ob, ls, R), c => if c = 40 ∧ lv < 5 then some ((0, lv + 1, rg, sp, cn), fup ob (lv + 1) (cn - 1), fup ls (lv + 1) 0, R) else none
def tkP : RSt → Nat → Option RSt
  | ((_, lv, rg, _, cn), ob, ls, R), c => if rg < 3 ∧ (c = 109 ∨ c = 112) then some ((5, lv, rg, (if c = 109 then 0 else 1), cn), ob, ls, R) else none
def tkE : RSt → Nat → Option RSt
  | ((du, lv, rg, sp, cn), ob, ls, R), c => if c = 44 ∧ ls lv < 4 then some ((1, lv, rg, sp, cn), ob, ls, R) else tkC ((du, lv, rg, sp, cn), ob, ls, R) c
def regS (rg sp cn e : Nat) (R : RV) : RV := if cn ≤ 12 then u2 (u2 (u2 R 6 ((cn - 1) * 3 + rg) (nI sp)) 7 ((cn - 1) * 3 + rg) (nI (grn sp * 2 ^ e))) 8 ((cn - 1) * 3 + rg) (-5) else R
def tkX : RSt → Nat → Option RSt
  | ((_, lv, rg, sp, cn), ob, ls, R), c => if 48 ≤ c ∧ c ≤ 48 + lex sp then some ((4, lv, rg + 1, sp, cn), ob, ls, regS rg sp cn (c - 48) R) else none
def tk (s : RSt) (c : Nat) : Option RSt := match s.1.1 with
  | 0 => (match tkC s c with
    | some t => some t
    | none => tkS s c)
  | 1 => tkS s c
  | 2 => tkK s c
  | 3 => tkO s c
  | 4 => (match tkP s c with
    | some t => some t
    | none => tkE s c)
  | 5 => tkX s c
  | _ => tkE s c
def cmpl (s : RSt) : Prop := s.1.2.1 = 0 ∧ (s.1.1 = 0 ∨ s.1.1 = 4 ∨ s.1.1 = 6)
noncomputable def rdr (tx : Nat → Nat) : Nat → Nat → RSt → Option Nat × RSt
  | 0, i, s => (if tb (cmpl s) = true then none else some i, s)
  | m + 1, i, s => match tk s (tx i) with
    | none => (some i, s)
    | some s' => rdr tx m (i + 1) s'
/-- the open buses, from the root down -/
def chn (R : RV) (lv : Nat) (ob ls : Nat → Nat) : Prop := ob 0 = 12 ∧ (∀ l, l < lv → ob (l + 1) < 12 ∧ R 2 (ob (l + 1)) = nI 2 ∧ bn R (ob (l + 1)) = ob l) ∧ ∀ l t, l ≤ lv → t < 4 → R 5 (ob l * 4 + t) = -5 ∨ t < ls l
def WF : RSt → Prop
  | ((du, lv, rg, sp, cn), ob, ls, R) => du ≤ 6 ∧ lv ≤ 5 ∧ rg ≤ 3 ∧ sp < 2 ∧ (∀ l, ls l ≤ 4) ∧ OK R ∧ (∀ l, ob l ≤ 12 + cn) ∧
    (du = 2 → lv < 5 ∧ 1 ≤ ls lv) ∧ (du = 3 → lv < 5 ∧ 1 ≤ cn) ∧ (du = 4 → 1 ≤ cn) ∧ (du = 5 → 1 ≤ cn ∧ rg < 3) ∧
    (cn ≤ 12 → (∀ d, d < 12 → (R 2 d = nI 0 ↔ cn ≤ d)) ∧ chn R lv ob ls ∧ (du = 2 → R 5 (ob lv * 4 + (ls lv - 1)) = -5) ∧ (du = 3 → R 2 (cn - 1) = nI 2 ∧ bn R (cn - 1) = ob lv ∧ (∀ t, t < 4 → R 5 ((cn - 1) * 4 + t) = -5)) ∧ (du = 4 ∨ du = 5 → R 2 (cn - 1) = nI 1)) ∧
    (cn ≤ 12 → ∀ d, d < 12 → cn ≤ d → ∀ t, t < 4 → R 5 (d * 4 + t) = -5)
theorem chn_rt {R : RV} {lv : Nat} {ob ls : Nat → Nat} (h : chn R lv ob ls) : ∀ l, l ≤ lv → rt R l (ob l) := by
  intro l
  induction l with
  | zero => intro _; exact h.1
  | succ l ih =>
    intro hl
    obtain ⟨h1, h2, h3⟩ := h.2.1 l (by omega)
    refine Or.inr ⟨h1, h2, ?_⟩
    rw [h3]
    exact ih (by omega)
theorem chn_bus {R : RV} {lv : Nat} {ob ls : Nat → Nat} (h : chn R lv ob ls) : ∀ l, l ≤ lv → ob l < 13 ∧ (ob l < 12 → R 2 (ob l) = nI 2) := by
  intro l hl
  cases l with
  | zero => rw [h.1]; exact ⟨by omega, fun q => by omega⟩
  | succ l =>
    obtain ⟨h1, h2, -⟩ := h.2.1 l (by omega)
    exact ⟨by omega, fun _ => h2⟩
theorem addR_r {R : RV} {j b s a : Nat} {k : Int32} (h2 : ¬a = 2) (h3 : ¬a = 3) (h4 : ¬a = 4) (h5 : ¬a = 5) : addR R j b s k a = R a := by
  unfold addR
  rw [u2_row h5, u2_row h4, u2_row h3, u2_row h2]
theorem addR_2 {R : RV} {j b s : Nat} {k : Int32} (d : Nat) : addR R j b s k 2 d = if d = j then k else R 2 d := by
  unfold addR
  rw [u2_row (by omega), u2_row (by omega), u2_row (by omega)]
  by_cases h : d = j
  · rw [if_pos h, h, u2_s]
  · rw [if_neg h, u2_o _ _ (by omega)]
theorem addR_3 {R : RV} {j b s : Nat} {k : Int32} (d : Nat) : addR R j b s k 3 d = if d = j then nI b else R 3 d := by
  unfold addR
  rw [u2_row (by omega), u2_row (by omega)]
  by_cases h : d = j
  · rw [if_pos h, h, u2_s]
  · rw [if_neg h, u2_o _ _ (by omega), u2_row (by omega)]
theorem addR_5 {R : RV} {j b s : Nat} {k : Int32} (i : Nat) : addR R j b s k 5 i = if i = b * 4 + s then nI j else R 5 i := by
  unfold addR
  by_cases h : i = b * 4 + s
  · rw [if_pos h, h, u2_s]
  · rw [if_neg h, u2_o _ _ (by omega), u2_row (by omega), u2_row (by omega), u2_row (by omega)]
theorem addR_bn {R : RV} {j b s : Nat} {k : Int32} (hb : b < 13) (d : Nat) : bn (addR R j b s k) d = if d = j then b else bn R d := by
  unfold bn
  rw [addR_3]
  by_cases h : d = j
  · rw [if_pos h, if_pos h]; exact nI_clamp (by omega)
  · rw [if_neg h, if_neg h]
theorem WF_C {s s' : RSt} {c : Nat} (hs : WF s) (h : tkC s c = some s') : WF s' := by
  obtain ⟨⟨du, lv, rg, sp, cn⟩, ob, ls, R⟩ := s
  unfold tkC at h
  dsimp only at h
  by_cases q : c = 41 ∧ lv ≠ 0
  · rw [if_pos q] at h
    cases h
    obtain ⟨w1, w2, w3, w4, w5, w6, w7, w8, w9, w10, w11, w12, w13⟩ := hs
    refine ⟨by omega, by omega, w3, w4, w5, w6, w7, fun z => by omega, fun z => by omega, fun z => by omega, fun z => by omega, fun hc => ?_, w13⟩
    obtain ⟨a1, a2, a3, a4, a5⟩ := w12 hc
    exact ⟨a1, ⟨a2.1, fun l hl => a2.2.1 l (by omega), fun l t hl => a2.2.2 l t (by omega)⟩, fun z => by omega, fun z => by omega, fun z => by omega⟩
  · rw [if_neg q] at h; cases h
theorem WF_S {s s' : RSt} {c : Nat} (hs : WF s) (h : tkS s c = some s') : WF s' := by
  obtain ⟨⟨du, lv, rg, sp, cn⟩, ob, ls, R⟩ := s
  unfold tkS at h
  dsimp only at h
  by_cases q : lv < 5 ∧ 48 + ls lv ≤ c ∧ c < 52
  · rw [if_pos q] at h
    cases h
    obtain ⟨w1, w2, w3, w4, w5, w6, w7, w8, w9, w10, w11, w12, w13⟩ := hs
    refine ⟨by omega, w2, w3, w4, fun l => ?_, w6, w7, fun _ => ⟨q.1, by rw [fup_s]; omega⟩, fun z => by omega, fun z => by omega, fun z => by omega, fun hc => ?_, w13⟩
    · unfold fup
      split
      · omega
      · exact w5 l
    · obtain ⟨a1, a2, a3, a4, a5⟩ := w12 hc
      refine ⟨a1, ⟨a2.1, a2.2.1, fun l t hl ht => ?_⟩, fun _ => ?_, fun z => by omega, fun z => by omega⟩
      · rcases a2.2.2 l t hl ht with z | z
        · exact Or.inl z
        · right
          by_cases e : l = lv
          · rw [e, fup_s]; rw [e] at z; omega
          · rw [fup_o _ _ e]; exact z
      · rw [fup_s]
        rcases a2.2.2 lv (c - 47 - 1) (Nat.le_refl _) (by omega) with z | z
        · exact z
        · omega
  · rw [if_neg q] at h; cases h
theorem WF_O {s s' : RSt} {c : Nat} (hs : WF s) (hd : s.1.1 = 3) (h : tkO s c = some s') : WF s' := by
  obtain ⟨⟨du, lv, rg, sp, cn⟩, ob, ls, R⟩ := s
  have hd : du = 3 := hd
  unfold tkO at h
  dsimp only at h
  by_cases q : c = 40 ∧ lv < 5
  · rw [if_pos q] at h
    cases h
    obtain ⟨w1, w2, w3, w4, w5, w6, w7, w8, w9, w10, w11, w12, w13⟩ := hs
    refine ⟨by omega, by omega, w3, w4, fun l => ?_, w6, fun l => ?_, fun z => by omega, fun z => by omega, fun z => by omega, fun z => by omega, fun hc => ?_, w13⟩
    · unfold fup
      split
      · omega
      · exact w5 l
    · unfold fup
      split
      · omega
      · exact w7 l
    · obtain ⟨a1, a2, a3, a4, a5⟩ := w12 hc
      obtain ⟨b1, b2, b3⟩ := a4 hd
      have hcn := (w9 hd).2
      refine ⟨a1, ⟨by rw [fup_o _ _ (by omega)]; exact a2.1, fun l hl => ?_, fun l t hl ht => ?_⟩, fun z => by omega, fun z => by omega, fun z => by omega⟩
      · by_cases e : l = lv
        · subst e
          rw [fup_s, fup_o _ _ (by omega)]
          exact ⟨by omega, b1, b2⟩
        · rw [fup_o _ _ (by omega), fup_o _ _ (by omega)]
          exact a2.2.1 l (by omega)
      · by_cases e : l = lv + 1
        · subst e
          rw [fup_s]
          exact Or.inl (b3 t ht)
        · rw [fup_o _ _ e, fup_o _ _ e]
          exact a2.2.2 l t (by omega) ht
  · rw [if_neg q] at h; cases h
theorem WF_P {s s' : RSt} {c : Nat} (hs : WF s) (hd : s.1.1 = 4) (h : tkP s c = some s') : WF s' := by
  obtain ⟨⟨du, lv, rg, sp, cn⟩, ob, ls, R⟩ := s
  have hd : du = 4 := hd
  unfold tkP at h
  dsimp only at h
  by_cases q : rg < 3 ∧ (c = 109 ∨ c = 112)
  · rw [if_pos q] at h
    cases h
    obtain ⟨w1, w2, w3, w4, w5, w6, w7, w8, w9, w10, w11, w12, w13⟩ := hs
    refine ⟨by omega, w2, w3, by split <;> omega, w5, w6, w7, fun z => by omega, fun z => by omega, fun z => by omega, fun _ => ⟨w10 hd, q.1⟩, fun hc => ?_, w13⟩
    obtain ⟨a1, a2, a3, a4, a5⟩ := w12 hc
    exact ⟨a1, a2, fun z => by omega, fun z => by omega, fun _ => a5 (Or.inl hd)⟩
  · rw [if_neg q] at h; cases h
theorem WF_E {s s' : RSt} {c : Nat} (hs : WF s) (h : tkE s c = some s') : WF s' := by
  obtain ⟨⟨du, lv, rg, sp, cn⟩, ob, ls, R⟩ := s
  unfold tkE at h
  dsimp only at h
  by_cases q : c = 44 ∧ ls lv < 4
  · rw [if_pos q] at h
    cases h
    obtain ⟨w1, w2, w3, w4, w5, w6, w7, w8, w9, w10, w11, w12, w13⟩ := hs
    refine ⟨by omega, w2, w3, w4, w5, w6, w7, fun z => by omega, fun z => by omega, fun z => by omega, fun z => by omega, fun hc => ?_, w13⟩
    obtain ⟨a1, a2, a3, a4, a5⟩ := w12 hc
    exact ⟨a1, a2, fun z => by omega, fun z => by omega, fun z => by omega⟩
  · rw [if_neg q] at h
    exact WF_C hs h
theorem put_ok {k lv cn : Nat} {ob ls : Nat → Nat} {R : RV} (hk : k = 1 ∨ k = 2) (hlv : lv < 5) (hls : 1 ≤ ls lv ∧ ls lv ≤ 4) (hO : OK R) (h12 : cn ≤ 12 → (∀ d, d < 12 → (R 2 d = nI 0 ↔ cn ≤ d)) ∧ chn R lv ob ls ∧ R 5 (ob lv * 4 + (ls lv - 1)) = -5) (hno : cn ≤ 12 → ∀ d, d < 12 → cn ≤ d → ∀ t, t < 4 → R 5 (d * 4 + t) = -5) : OK (putS k lv cn ob ls R) ∧ (cn + 1 ≤ 12 → (∀ d, d < 12 → (putS k lv cn ob ls R 2 d = nI 0 ↔ cn + 1 ≤ d)) ∧ chn (putS k lv cn ob ls R) lv ob ls ∧ putS k lv cn ob ls R 2 cn = nI k ∧ bn (putS k lv cn ob ls R) cn = ob lv ∧ ∀ d, d < 12 → cn ≤ d → ∀ t, t < 4 → putS k lv cn ob ls R 5 (d * 4 + t) = -5) := by
  have hkk : nI k = nI 1 ∨ nI k = nI 2 := by rcases hk with rfl | rfl; exact Or.inl rfl; exact Or.inr rfl
  unfold putS
  by_cases hc : cn < 12
  · rw [if_pos hc]
    obtain ⟨a1, a2, a3⟩ := h12 (by omega)
    obtain ⟨b1, b2⟩ := chn_bus a2 lv (Nat.le_refl _)
    have hrt := chn_rt a2 lv (Nat.le_refl _)
    have hf : R 2 cn = nI 0 := (a1 cn hc).mpr (Nat.le_refl _)
    have hobc : ∀ l, l ≤ lv → ¬ob l = cn := fun l hl q => by
      have h2 := (chn_bus a2 l hl).2 (by omega)
      rw [q, hf] at h2
      exact absurd h2 (by decide)
    refine ⟨OK_add hO hc b1 (by omega) hkk hf a3 b2 (rt_up hrt (by omega)), fun _ => ⟨fun d hd => ?_, ⟨a2.1, fun l hl => ?_, fun l t hl ht => ?_⟩, by rw [addR_2, if_pos rfl], by rw [addR_bn b1, if_pos rfl], fun d hd hcd t ht => ?_⟩⟩
    · rw [addR_2]
      by_cases e : d = cn
      · rw [if_pos e]
        constructor
        · intro z
          rcases hkk with w | w <;> (rw [w] at z; exact absurd z (by decide))
        · intro z; omega
      · rw [if_neg e, a1 d hd]
        omega
    · obtain ⟨h1, h2, h3⟩ := a2.2.1 l hl
      rw [addR_2, if_neg (hobc (l + 1) (by omega)), addR_bn b1, if_neg (hobc (l + 1) (by omega))]
      exact ⟨h1, h2, h3⟩
    · rw [addR_5]
      by_cases e : ob l * 4 + t = ob lv * 4 + (ls lv - 1)
      · right
        have e1 : ob l = ob lv := by omega
        have e2 : t = ls lv - 1 := by omega
        have e3 : l = lv := by
          have inj : ∀ n l l', l ≤ lv → l' ≤ lv → l + n = l' → 0 < n → ¬ob l = ob l' := by
            intro n l l' hl hl' hn h0 q
            have d1 := dpt_up (chn_rt a2 l hl) (m := 5) (by omega)
            have lvd : ∀ i, i ≤ lv → dpt R 5 (ob i) = i := by
              intro i
              induction i with
              | zero => intro _; rw [a2.1, dpt_12]
              | succ i ih =>
                intro hi
                obtain ⟨g1, g2, g3⟩ := a2.2.1 i (by omega)
                rw [dpt_s, if_pos ⟨g1, g2⟩, g3]
                have := ih (by omega)
                rw [dpt_up (chn_rt a2 i (by omega)) (m := 5) (by omega)] at this
                rw [dpt_up (chn_rt a2 i (by omega)) (m := 4) (by omega)]
                omega
            have x1 := lvd l hl
            have x2 := lvd l' hl'
            rw [q] at x1
            omega
          by_cases z : l = lv
          · exact z
          · exact absurd e1 (inj (lv - l) l lv hl (Nat.le_refl _) (by omega) (by omega))
        rw [e3]
        omega
      · rw [if_neg e]
        exact a2.2.2 l t hl ht
    · rw [addR_5]
      by_cases e : d * 4 + t = ob lv * 4 + (ls lv - 1)
      · exfalso
        have e1 : d = ob lv := by omega
        have h2 := b2 (by omega)
        rw [← e1, (a1 d hd).mpr hcd] at h2
        exact absurd h2 (by decide)
      · rw [if_neg e]
        exact hno (by omega) d hd hcd t ht
  · rw [if_neg hc]
    exact ⟨hO, fun z => by omega⟩
theorem WF_K {s s' : RSt} {c : Nat} (hs : WF s) (hd : s.1.1 = 2) (h : tkK s c = some s') : WF s' := by
  obtain ⟨⟨du, lv, rg, sp, cn⟩, ob, ls, R⟩ := s
  have hd : du = 2 := hd
  obtain ⟨w1, w2, w3, w4, w5, w6, w7, w8, w9, w10, w11, w12, w13⟩ := hs
  obtain ⟨g1, g2⟩ := w8 hd
  have hp := fun k hk => put_ok (k := k) (cn := cn) (ob := ob) hk g1 ⟨g2, w5 lv⟩ w6 (fun hc => ⟨(w12 hc).1, (w12 hc).2.1, (w12 hc).2.2.1 hd⟩) w13
  unfold tkK at h
  dsimp only at h
  by_cases q : c = 99
  · rw [if_pos q] at h
    cases h
    obtain ⟨p1, p2⟩ := hp 1 (Or.inl rfl)
    refine ⟨by omega, w2, by omega, w4, w5, p1, fun l => by have := w7 l; omega, fun z => by omega, fun z => by omega, fun _ => by omega, fun z => by omega, fun hc => ?_, fun hc d hd hcd t ht => (p2 hc).2.2.2.2 d hd (by omega) t ht⟩
    obtain ⟨a1, a2, a3, a4, a5⟩ := p2 hc
    exact ⟨a1, a2, fun z => by omega, fun z => by omega, fun _ => a3⟩
  · rw [if_neg q] at h
    by_cases q2 : c = 98
    · rw [if_pos q2] at h
      cases h
      obtain ⟨p1, p2⟩ := hp 2 (Or.inr rfl)
      refine ⟨by omega, w2, w3, w4, w5, p1, fun l => by have := w7 l; omega, fun z => by omega, fun _ => ⟨g1, by omega⟩, fun z => by omega, fun z => by omega, fun hc => ?_, fun hc d hd hcd t ht => (p2 hc).2.2.2.2 d hd (by omega) t ht⟩
      obtain ⟨a1, a2, a3, a4, a5⟩ := p2 hc
      exact ⟨a1, a2, fun z => by omega, fun _ => ⟨a3, a4, fun t ht => a5 cn (by omega) (Nat.le_refl _) t ht⟩, fun z => by omega⟩
    · rw [if_neg q2] at h; cases h
theorem WF_X {s s' : RSt} {c : Nat} (hs : WF s) (hd : s.1.1 = 5) (h : tkX s c = some s') : WF s' := by
  obtain ⟨⟨du, lv, rg, sp, cn⟩, ob, ls, R⟩ := s
  have hd : du = 5 := hd
  obtain ⟨w1, w2, w3, w4, w5, w6, w7, w8, w9, w10, w11, w12, w13⟩ := hs
  obtain ⟨g1, g2⟩ := w11 hd
  unfold tkX at h
  dsimp only at h
  by_cases q : 48 ≤ c ∧ c ≤ 48 + lex sp
  · rw [if_pos q] at h
    cases h
    have hrow : ∀ a, ¬a = 6 → ¬a = 7 → ¬a = 8 → regS rg sp cn (c - 48) R a = R a := fun a h6 h7 h8 => by
      unfold regS
      split
      · rw [u2_row h8, u2_row h7, u2_row h6]
      · rfl
    have hO : OK (regS rg sp cn (c - 48) R) := by
      unfold regS
      by_cases hc : cn ≤ 12
      · rw [if_pos hc]
        exact OK_region w6 (by omega) g2 w4 ((w12 hc).2.2.2.2 (Or.inr hd)) (Or.inr ⟨c - 48, by omega, rfl⟩)
      · rw [if_neg hc]; exact w6
    refine ⟨by omega, w2, by omega, w4, w5, hO, w7, fun z => by omega, fun z => by omega, fun _ => g1, fun z => by omega, fun hc => ?_, fun hc => ?_⟩
    · obtain ⟨a1, a2, a3, a4, a5⟩ := w12 hc
      unfold chn
      rw [hrow 2 (by omega) (by omega) (by omega), hrow 5 (by omega) (by omega) (by omega), bn_cong (hrow 3 (by omega) (by omega) (by omega))]
      exact ⟨a1, a2, fun z => by omega, fun z => by omega, fun _ => a5 (Or.inr hd)⟩
    · rw [hrow 5 (by omega) (by omega) (by omega)]
      exact w13 hc
  · rw [if_neg q] at h; cases h
theorem WF_tk {s s' : RSt} {c : Nat} (hs : WF s) (h : tk s c = some s') : WF s' := by
  have hdu : s.1.1 ≤ 6 := by
    obtain ⟨⟨du, lv, rg, sp, cn⟩, ob, ls, R⟩ := s
    exact hs.1
  unfold tk at h
  rcases (show s.1.1 = 0 ∨ s.1.1 = 1 ∨ s.1.1 = 2 ∨ s.1.1 = 3 ∨ s.1.1 = 4 ∨ s.1.1 = 5 ∨ s.1.1 = 6 by omega) with e | e | e | e | e | e | e <;> (rw [e] at h; try dsimp only at h)
  · cases hc : tkC s c with
    | some t => rw [hc] at h; cases h; exact WF_C hs hc
    | none => rw [hc] at h; exact WF_S hs h
  · exact WF_S hs h
  · exact WF_K hs e h
  · exact WF_O hs e h
  · cases hc : tkP s c with
    | some t => rw [hc] at h; cases h; exact WF_P hs e hc
    | none => rw [hc] at h; exact WF_E hs h
  · exact WF_X hs e h
  · exact WF_E hs h
