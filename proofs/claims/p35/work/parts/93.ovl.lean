/-! placing: what becomes of a rack -/
theorem sn_ok {R : RV} (hI : InvT R) {j : Nat} (hj : j < 12) (hk : ¬R 2 j = nI 0) : sn R j < 4 ∧ R 5 (bn R j * 4 + sn R j) = nI j := by
  obtain ⟨b, t, hb, ht, e1, e2, e3, -⟩ := hI.2.1 j hj hk
  have e4 : sn R j = t := by show vn (R 4 j) = t; rw [e2, vn_n (by omega)]
  rw [bn_of e1 hb, e4]
  exact ⟨ht, e3⟩
theorem slot_bk {R : RV} (hI : InvT R) {b t j : Nat} (hb : b < 13) (ht : t < 4) (hj : j < 12) (hv : R 5 (b * 4 + t) = nI j) : bn R j = b ∧ sn R j = t ∧ ¬R 2 j = nI 0 := by
  rcases hI.2.2.1 b t hb ht with h | ⟨j', hj', e1, e2, e3, e4⟩
  · rw [hv, nI_ne5 (by omega)] at h; exact h.elim
  · rw [hv, nI_eqc (by omega) (by omega)] at e1
    subst e1
    refine ⟨bn_of e3 hb, ?_, e2⟩
    show vn (R 4 j) = t
    rw [e4, vn_n (by omega)]
theorem slot_dev {R : RV} (hI : InvT R) {b t j j' : Nat} (hj : j < 12) (hj' : j' < 12) (hk : ¬R 2 j' = nI 0) (hv : R 5 (b * 4 + t) = nI j) (h1 : bn R j' = b) (h2 : sn R j' = t) : j' = j := by
  have := (sn_ok hI hj' hk).2
  rw [h1, h2, hv, nI_eqc (by omega) (by omega)] at this
  exact this.symm
def ovz (o : Option Nat) (x v : Int32) : Int32 := match o with
  | none => x
  | some _ => v
/-- the rack with the starts st of the parts of buses, in the space s -/
def ovl (R : RV) (s : Nat) (st : Nat → Nat → Option Nat) : RV := fun a i =>
  if a = 8 ∧ i < 36 ∧ R 2 (i / 3) = nI 1 then ovr (st (bn R (i / 3)) (sn R (i / 3) * 3 + i % 3)) (R 8 i)
  else if a = 10 ∧ i < 24 ∧ i % 2 = s ∧ R 2 (i / 2) = nI 2 then ovr (st (bn R (i / 2)) (sn R (i / 2) * 3)) (R 10 i)
  else if a = 11 ∧ i < 24 ∧ i % 2 = s ∧ R 2 (i / 2) = nI 2 then ovz (st (bn R (i / 2)) (sn R (i / 2) * 3)) (R 11 i) (nI (SZ R s (bn R (i / 2)) (sn R (i / 2) * 3)))
  else R a i
theorem ovl_L (R : RV) (s : Nat) (st : Nat → Nat → Option Nat) : SameL R (ovl R s st) := by
  intro a h1 h2 h3
  funext i
  unfold ovl
  rw [if_neg (fun q => h1 q.1), if_neg (fun q => h2 q.1), if_neg (fun q => h3 q.1)]
theorem ovl_8 {R : RV} {s j q : Nat} {st : Nat → Nat → Option Nat} (hj : j < 12) (hq : q < 3) (h : R 2 j = nI 1) : ovl R s st 8 (j * 3 + q) = ovr (st (bn R j) (sn R j * 3 + q)) (R 8 (j * 3 + q)) := by
  have e1 : (j * 3 + q) / 3 = j := by omega
  have e2 : (j * 3 + q) % 3 = q := by omega
  unfold ovl
  rw [e1, e2, if_pos ⟨rfl, by omega, h⟩]
theorem ovl_8n {R : RV} {s j q : Nat} {st : Nat → Nat → Option Nat} (hj : j < 12) (hq : q < 3) (h : ¬R 2 j = nI 1) : ovl R s st 8 (j * 3 + q) = R 8 (j * 3 + q) := by
  have e1 : (j * 3 + q) / 3 = j := by omega
  unfold ovl
  rw [e1, if_neg (fun z => h z.2.2), if_neg (by omega), if_neg (by omega)]
theorem ovl_10 {R : RV} {s j : Nat} {st : Nat → Nat → Option Nat} (hj : j < 12) (hs : s < 2) (h : R 2 j = nI 2) : ovl R s st 10 (j * 2 + s) = ovr (st (bn R j) (sn R j * 3)) (R 10 (j * 2 + s)) ∧ ovl R s st 11 (j * 2 + s) = ovz (st (bn R j) (sn R j * 3)) (R 11 (j * 2 + s)) (nI (SZ R s (bn R j) (sn R j * 3))) := by
  have e1 : (j * 2 + s) / 2 = j := by omega
  have e2 : (j * 2 + s) % 2 = s := by omega
  unfold ovl
  rw [e1, e2, if_neg (by omega), if_pos ⟨rfl, by omega, rfl, h⟩, if_neg (by omega), if_neg (by omega), if_pos ⟨rfl, by omega, rfl, h⟩]
  exact ⟨rfl, rfl⟩
theorem ovl_10n {R : RV} {s i : Nat} {st : Nat → Nat → Option Nat} (h : ¬(i % 2 = s ∧ R 2 (i / 2) = nI 2)) : ovl R s st 10 i = R 10 i ∧ ovl R s st 11 i = R 11 i := by
  unfold ovl
  rw [if_neg (by omega), if_neg (fun z => h z.2.2), if_neg (by omega), if_neg (by omega), if_neg (by omega), if_neg (fun z => h z.2.2)]
  exact ⟨rfl, rfl⟩
theorem ovl_none (R : RV) (s : Nat) : ovl R s (fun _ _ => none) = R := by
  funext a i
  unfold ovl
  by_cases h1 : a = 8 ∧ i < 36 ∧ R 2 (i / 3) = nI 1
  · rw [if_pos h1, h1.1]; rfl
  · rw [if_neg h1]
    by_cases h2 : a = 10 ∧ i < 24 ∧ i % 2 = s ∧ R 2 (i / 2) = nI 2
    · rw [if_pos h2, h2.1]; rfl
    · rw [if_neg h2]
      by_cases h3 : a = 11 ∧ i < 24 ∧ i % 2 = s ∧ R 2 (i / 2) = nI 2
      · rw [if_pos h3, h3.1]; rfl
      · rw [if_neg h3]
def st1 (st : Nat → Nat → Option Nat) (b k z : Nat) : Nat → Nat → Option Nat := fun b' k' => if b' = b ∧ k' = k then some z else st b' k'
theorem st1_s {st : Nat → Nat → Option Nat} {b k z : Nat} : st1 st b k z b k = some z := if_pos ⟨rfl, rfl⟩
theorem st1_o {st : Nat → Nat → Option Nat} {b k z b' k' : Nat} (h : ¬(b' = b ∧ k' = k)) : st1 st b k z b' k' = st b' k' := if_neg h
theorem ovl_c {R : RV} (hI : InvT R) {s b k j z : Nat} {st : Nat → Nat → Option Nat} (hb : b < 13) (hk : k < 12) (hj : j < 12) (hv : R 5 (b * 4 + k / 3) = nI j) (h1 : R 2 j = nI 1) : ovl R s (st1 st b k z) = u2 (ovl R s st) 8 (j * 3 + k % 3) (nI z) := by
  obtain ⟨g1, g2, g3⟩ := slot_bk hI hb (by omega) hj hv
  have hne : ∀ j', j' < 12 → R 2 j' = nI 2 → ¬(bn R j' = b ∧ sn R j' * 3 = k) := fun j' hj' h2 q => by
    have := slot_dev hI hj hj' (k2_ne0 h2) hv q.1 (by omega)
    rw [this, h1] at h2
    exact absurd h2 (by decide)
  funext a i
  by_cases h : a = 8 ∧ i = j * 3 + k % 3
  · obtain ⟨rfl, rfl⟩ := h
    rw [u2_s, ovl_8 hj (by omega) h1, g1, g2, show k / 3 * 3 + k % 3 = k by omega, st1_s]
    rfl
  · rw [u2_o _ _ h]
    unfold ovl
    by_cases c1 : a = 8 ∧ i < 36 ∧ R 2 (i / 3) = nI 1
    · rw [if_pos c1, if_pos c1, st1_o]
      rintro ⟨q1, q2⟩
      have hs4 := (sn_ok hI (j := i / 3) (by omega) (k1_ne0 c1.2.2)).1
      have := slot_dev hI hj (j' := i / 3) (by omega) (k1_ne0 c1.2.2) hv q1 (by omega)
      exact h ⟨c1.1, by omega⟩
    · rw [if_neg c1, if_neg c1]
      by_cases c2 : a = 10 ∧ i < 24 ∧ i % 2 = s ∧ R 2 (i / 2) = nI 2
      · rw [if_pos c2, if_pos c2, st1_o (hne _ (by omega) c2.2.2.2)]
      · rw [if_neg c2, if_neg c2]
        by_cases c3 : a = 11 ∧ i < 24 ∧ i % 2 = s ∧ R 2 (i / 2) = nI 2
        · rw [if_pos c3, if_pos c3, st1_o (hne _ (by omega) c3.2.2.2)]
        · rw [if_neg c3, if_neg c3]
theorem ovl_b {R : RV} (hI : InvT R) {s b k j z : Nat} {st : Nat → Nat → Option Nat} (hs : s < 2) (hb : b < 13) (hk : k < 12) (hj : j < 12) (hk0 : k % 3 = 0) (hv : R 5 (b * 4 + k / 3) = nI j) (h1 : R 2 j = nI 2) : ovl R s (st1 st b k z) = u2 (u2 (ovl R s st) 10 (j * 2 + s) (nI z)) 11 (j * 2 + s) (nI (SZ R s b k)) := by
  obtain ⟨g1, g2, g3⟩ := slot_bk hI hb (by omega) hj hv
  have ek : k / 3 * 3 = k := by omega
  have hne : ∀ j', j' < 12 → R 2 j' = nI 2 → ¬j' = j → ¬(bn R j' = b ∧ sn R j' * 3 = k) := fun j' hj' h2 hjj q => hjj (slot_dev hI hj hj' (k2_ne0 h2) hv q.1 (by omega))
  have hnc : ∀ j' q, j' < 12 → q < 3 → R 2 j' = nI 1 → ¬(bn R j' = b ∧ sn R j' * 3 + q = k) := fun j' q hj' hq h2 z => by
    have := slot_dev hI hj hj' (k1_ne0 h2) hv z.1 (by omega)
    rw [this, h1] at h2
    exact absurd h2 (by decide)
  funext a i
  by_cases h : a = 11 ∧ i = j * 2 + s
  · obtain ⟨rfl, rfl⟩ := h
    rw [u2_s, (ovl_10 hj hs h1).2, g1, g2, ek, st1_s]
    rfl
  · rw [u2_o _ _ h]
    by_cases h' : a = 10 ∧ i = j * 2 + s
    · obtain ⟨rfl, rfl⟩ := h'
      rw [u2_s, (ovl_10 hj hs h1).1, g1, g2, ek, st1_s]
      rfl
    · rw [u2_o _ _ h']
      unfold ovl
      by_cases c1 : a = 8 ∧ i < 36 ∧ R 2 (i / 3) = nI 1
      · rw [if_pos c1, if_pos c1, st1_o (hnc _ _ (by omega) (by omega) c1.2.2)]
      · rw [if_neg c1, if_neg c1]
        by_cases c2 : a = 10 ∧ i < 24 ∧ i % 2 = s ∧ R 2 (i / 2) = nI 2
        · rw [if_pos c2, if_pos c2, st1_o (hne _ (by omega) c2.2.2.2 (fun q => h' ⟨c2.1, by omega⟩))]
        · rw [if_neg c2, if_neg c2]
          by_cases c3 : a = 11 ∧ i < 24 ∧ i % 2 = s ∧ R 2 (i / 2) = nI 2
          · rw [if_pos c3, if_pos c3, st1_o (hne _ (by omega) c3.2.2.2 (fun q => h ⟨c3.1, by omega⟩))]
          · rw [if_neg c3, if_neg c3]
/-- only starts of parts of devices count -/
theorem ovl_cong {R : RV} (hI : InvT R) {s : Nat} {st st' : Nat → Nat → Option Nat} (h : ∀ b k, b < 13 → k < 12 → st b k = st' b k) : ovl R s st = ovl R s st' := by
  have hb : ∀ j, j < 12 → ¬R 2 j = nI 0 → bn R j < 13 ∧ sn R j < 4 := fun j hj hk => ⟨(hI.bus hj hk).1, (sn_ok hI hj hk).1⟩
  funext a i
  unfold ovl
  by_cases c1 : a = 8 ∧ i < 36 ∧ R 2 (i / 3) = nI 1
  · obtain ⟨x1, x2⟩ := hb (i / 3) (by omega) (k1_ne0 c1.2.2)
    rw [if_pos c1, if_pos c1, h _ _ x1 (by omega)]
  · rw [if_neg c1, if_neg c1]
    by_cases c2 : a = 10 ∧ i < 24 ∧ i % 2 = s ∧ R 2 (i / 2) = nI 2
    · obtain ⟨x1, x2⟩ := hb (i / 2) (by omega) (k2_ne0 c2.2.2.2)
      rw [if_pos c2, if_pos c2, h _ _ x1 (by omega)]
    · rw [if_neg c2, if_neg c2]
      by_cases c3 : a = 11 ∧ i < 24 ∧ i % 2 = s ∧ R 2 (i / 2) = nI 2
      · obtain ⟨x1, x2⟩ := hb (i / 2) (by omega) (k2_ne0 c3.2.2.2)
        rw [if_pos c3, if_pos c3, h _ _ x1 (by omega)]
      · rw [if_neg c3, if_neg c3]
/-- how many regions of cards have a start -/
def cst (R : RV) (st : Nat → Nat → Option Nat) (i : Nat) : Prop := R 2 (i / 3) = nI 1 ∧ st (bn R (i / 3)) (sn R (i / 3) * 3 + i % 3) ≠ none
noncomputable def TC (R : RV) (st : Nat → Nat → Option Nat) : Nat := cntP (fun i => tb (cst R st i) = true) 36
theorem cnt_eq1 (x : Nat) : ∀ n, x < n → cntP (fun i => i = x) n = 1 := by
  have z : ∀ n, n ≤ x → cntP (fun i => i = x) n = 0 := by
    intro n
    induction n with
    | zero => intro _; rfl
    | succ n ih => intro h; rw [cnt_n (fun i => i = x) (by omega), ih (by omega)]
  intro n
  induction n with
  | zero => intro h; omega
  | succ n ih =>
    intro h
    by_cases q : n = x
    · subst q
      rw [cnt_s (fun i => i = n) rfl, z n (Nat.le_refl _)]
    · rw [cnt_n (fun i => i = x) q, ih (by omega)]
theorem TC_none (R : RV) : TC R (fun _ _ => none) = 0 := by
  unfold TC
  have : ∀ n, cntP (fun i => tb (cst R (fun _ _ => none) i) = true) n = 0 := by
    intro n
    induction n with
    | zero => rfl
    | succ n ih => rw [cnt_n (fun i => tb (cst R (fun _ _ => none) i) = true) (fun q => ((tb_iff _).mp q).2 rfl), ih]
  exact this 36
theorem TC_c {R : RV} (hI : InvT R) {b k j z : Nat} {st : Nat → Nat → Option Nat} (hb : b < 13) (hk : k < 12) (hj : j < 12) (hv : R 5 (b * 4 + k / 3) = nI j) (h1 : R 2 j = nI 1) (hn : st b k = none) : TC R (st1 st b k z) = TC R st + 1 := by
  obtain ⟨g1, g2, g3⟩ := slot_bk hI hb (by omega) hj hv
  unfold TC
  have e := cnt_split (fun i => tb (i < 36 ∧ cst R (st1 st b k z) i) = true) (fun i => tb (i < 36 ∧ cst R st i) = true) (fun i => i = j * 3 + k % 3) (fun i => by
    rw [tb_iff, tb_iff]
    have hx : i = j * 3 + k % 3 → cst R (st1 st b k z) i ∧ ¬cst R st i := fun q => by
      subst q
      unfold cst
      rw [show (j * 3 + k % 3) / 3 = j by omega, show (j * 3 + k % 3) % 3 = k % 3 by omega, g1, g2, show k / 3 * 3 + k % 3 = k by omega, st1_s, hn]
      exact ⟨⟨h1, fun q => by cases q⟩, fun q => q.2 rfl⟩
    have hy : i < 36 → ¬i = j * 3 + k % 3 → (cst R (st1 st b k z) i ↔ cst R st i) := fun hi q => by
      unfold cst
      by_cases hc : R 2 (i / 3) = nI 1
      · rw [st1_o]
        rintro ⟨q1, q2⟩
        have hs4 := (sn_ok hI (j := i / 3) (by omega) (k1_ne0 hc)).1
        have := slot_dev hI hj (j' := i / 3) (by omega) (k1_ne0 hc) hv q1 (by omega)
        exact q (by omega)
      · exact ⟨fun z => absurd z.1 hc, fun z => absurd z.1 hc⟩
    constructor
    · constructor
      · rintro ⟨q1, q2⟩
        by_cases q : i = j * 3 + k % 3
        · exact Or.inr q
        · exact Or.inl ⟨q1, (hy q1 q).mp q2⟩
      · rintro (⟨q1, q2⟩ | q)
        · refine ⟨q1, ?_⟩
          by_cases q : i = j * 3 + k % 3
          · exact (hx q).1
          · exact (hy q1 q).mpr q2
        · exact ⟨by omega, (hx q).1⟩
    · rintro ⟨⟨q1, q2⟩, q3⟩
      exact (hx q3).2 q2) 36
  rw [cnt_eq1 _ 36 (by omega)] at e
  have e1 : cntP (fun i => tb (i < 36 ∧ cst R (st1 st b k z) i) = true) 36 = cntP (fun i => tb (cst R (st1 st b k z) i) = true) 36 := cnt_cong _ _ 36 (fun i hi => by rw [tb_iff, tb_iff]; exact ⟨fun q => q.2, fun q => ⟨hi, q⟩⟩)
  have e2 : cntP (fun i => tb (i < 36 ∧ cst R st i) = true) 36 = cntP (fun i => tb (cst R st i) = true) 36 := cnt_cong _ _ 36 (fun i hi => by rw [tb_iff, tb_iff]; exact ⟨fun q => q.2, fun q => ⟨hi, q⟩⟩)
  rw [← e1, ← e2]
  exact e
theorem TC_b {R : RV} (hI : InvT R) {b k j z : Nat} {st : Nat → Nat → Option Nat} (hb : b < 13) (hk : k < 12) (hj : j < 12) (hv : R 5 (b * 4 + k / 3) = nI j) (h1 : R 2 j = nI 2) : TC R (st1 st b k z) = TC R st := by
  unfold TC
  refine cnt_cong _ _ 36 (fun i hi => ?_)
  rw [tb_iff, tb_iff]
  unfold cst
  by_cases hc : R 2 (i / 3) = nI 1
  · rw [st1_o]
    rintro ⟨q1, q2⟩
    have hs4 := (sn_ok hI (j := i / 3) (by omega) (k1_ne0 hc)).1
    have := slot_dev hI hj (j' := i / 3) (by omega) (k1_ne0 hc) hv q1 (by omega)
    rw [this, h1] at hc
    exact absurd hc (by decide)
  · exact ⟨fun z => absurd z.1 hc, fun z => absurd z.1 hc⟩
theorem TC_cong {R : RV} (hI : InvT R) {st st' : Nat → Nat → Option Nat} (h : ∀ b k, b < 13 → k < 12 → st b k = st' b k) : TC R st = TC R st' := by
  unfold TC
  refine cnt_cong _ _ 36 (fun i hi => ?_)
  rw [tb_iff, tb_iff]
  unfold cst
  by_cases hc : R 2 (i / 3) = nI 1
  · have x1 := (hI.bus (d := i / 3) (by omega) (k1_ne0 hc)).1
    have x2 := (sn_ok hI (j := i / 3) (by omega) (k1_ne0 hc)).1
    rw [h _ _ x1 (by omega)]
  · exact ⟨fun z => absurd z.1 hc, fun z => absurd z.1 hc⟩
/-- where the lower buses of bridges begin, n levels down from bus b0 at x0 -/
def PO (R : RV) (s b0 x0 : Nat) : Nat → Nat → Option Nat
  | 0, b => if b = b0 then some x0 else none
  | n + 1, b => if b = b0 then some x0 else if b < 12 ∧ R 2 b = nI 2 then
      (match PO R s b0 x0 n (bn R b) with
        | none => none
        | some x => pst (SZ R s (bn R b)) (AL R s (bn R b)) (adr s) x (IT R s (bn R b)) (sn R b * 3))
    else none
def posB (R : RV) (s b0 x0 b : Nat) : Option Nat := PO R s b0 x0 5 b
def stF (R : RV) (s b0 x0 b k : Nat) : Option Nat := match posB R s b0 x0 b with
  | none => none
  | some x => pst (SZ R s b) (AL R s b) (adr s) x (IT R s b) k
theorem PO_up {R : RV} {s b0 x0 : Nat} : ∀ {n m b : Nat}, rt R n b → n ≤ m → PO R s b0 x0 m b = PO R s b0 x0 n b := by
  intro n
  induction n with
  | zero =>
    intro m b h hm
    have : b = 12 := h
    subst this
    cases m with
    | zero => rfl
    | succ m =>
      rw [PO, PO]
      by_cases q : 12 = b0
      · rw [if_pos q, if_pos q]
      · rw [if_neg q, if_neg q, if_neg (by omega)]
  | succ n ih =>
    intro m b h hm
    cases m with
    | zero => omega
    | succ m =>
      rw [PO, PO]
      rcases h with rfl | ⟨h1, h2, h3⟩
      · by_cases q : 12 = b0
        · rw [if_pos q, if_pos q]
        · rw [if_neg q, if_neg q, if_neg (by omega), if_neg (by omega)]
      · rw [ih h3 (show n ≤ m by omega)]
theorem posB_0 (R : RV) (s b0 x0 : Nat) : posB R s b0 x0 b0 = some x0 := by
  unfold posB
  rw [PO, if_pos rfl]
theorem posB_12 {R : RV} {s b0 x0 : Nat} (h : ¬b0 = 12) : posB R s b0 x0 12 = none := by
  unfold posB
  rw [PO, if_neg (fun q => h q.symm), if_neg (by omega)]
theorem posB_eq {R : RV} (hI : InvT R) {s b0 x0 j : Nat} (hj : j < 12) (hk : R 2 j = nI 2) (h0 : ¬j = b0) : posB R s b0 x0 j = stF R s b0 x0 (bn R j) (sn R j * 3) := by
  have e : PO R s b0 x0 5 (bn R j) = PO R s b0 x0 4 (bn R j) := PO_up (hI.2.2.2 j hj (k2_ne0 hk)) (by omega)
  unfold stF posB
  rw [e]
  show PO R s b0 x0 (4 + 1) j = _
  rw [PO, if_neg h0, if_pos ⟨hj, hk⟩]
theorem pst_mem {sz al : Nat → Nat} {lim k z : Nat} : ∀ (l : List Nat) (pos : Nat), pst sz al lim pos l k = some z → k ∈ l := by
  intro l
  induction l with
  | nil => intro pos h; cases h
  | cons x l ih =>
    intro pos h
    rw [pst] at h
    by_cases hf : up pos (al x) + sz x ≤ lim
    · rw [if_pos hf] at h
      cases hp : pst sz al lim (up pos (al x) + sz x) l k with
      | some w => exact List.mem_cons_of_mem _ (ih _ (by rw [hp] at h; rw [← h]; exact hp))
      | none =>
        rw [hp] at h
        by_cases hx : k = x
        · rw [hx]; exact List.mem_cons_self ..
        · dsimp only at h
          rw [if_neg hx] at h; cases h
    · rw [if_neg hf] at h
      exact List.mem_cons_of_mem _ (ih _ h)
theorem pen_ge {sz al : Nat → Nat} {lim : Nat} : ∀ (l : List Nat) (pos : Nat), (∀ x, x ∈ l → 0 < al x) → pos ≤ pen sz al lim pos l := by
  intro l
  induction l with
  | nil => intro pos _; exact Nat.le_refl _
  | cons x l ih =>
    intro pos h
    have h0 : ∀ y, y ∈ l → 0 < al y := fun y hy => h y (List.mem_cons_of_mem _ hy)
    have h2 := @up_ge pos (al x) (h x (List.mem_cons_self ..))
    rw [pen]
    split
    · have := ih (up pos (al x) + sz x) h0; omega
    · exact ih pos h0
theorem pst_in {sz al : Nat → Nat} {lim k z : Nat} : ∀ (l : List Nat) (pos : Nat), (∀ x, x ∈ l → 0 < al x) → pst sz al lim pos l k = some z → pos ≤ z ∧ z + sz k ≤ pen sz al lim pos l ∧ z % al k = 0 := by
  intro l
  induction l with
  | nil => intro pos _ h; cases h
  | cons x l ih =>
    intro pos h0 h
    have hl : ∀ y, y ∈ l → 0 < al y := fun y hy => h0 y (List.mem_cons_of_mem _ hy)
    have hx := h0 x (List.mem_cons_self ..)
    have hge := @up_ge pos (al x) hx
    rw [pst] at h
    rw [pen]
    by_cases hf : up pos (al x) + sz x ≤ lim
    · rw [if_pos hf] at h ⊢
      cases hp : pst sz al lim (up pos (al x) + sz x) l k with
      | some w =>
        rw [hp] at h
        cases h
        obtain ⟨i1, i2, i3⟩ := ih _ hl hp
        exact ⟨by omega, i2, i3⟩
      | none =>
        rw [hp] at h
        dsimp only at h
        by_cases hk : k = x
        · rw [if_pos hk] at h
          cases h
          subst hk
          exact ⟨hge, pen_ge l _ hl, up_mod _ _⟩
        · rw [if_neg hk] at h; cases h
    · rw [if_neg hf] at h ⊢
      exact ih pos hl h
theorem pst_apart {sz al : Nat → Nat} {lim k k' z z' : Nat} (hne : ¬k = k') : ∀ (l : List Nat) (pos : Nat), (∀ x, x ∈ l → 0 < al x) → pst sz al lim pos l k = some z → pst sz al lim pos l k' = some z' → z + sz k ≤ z' ∨ z' + sz k' ≤ z := by
  intro l
  induction l with
  | nil => intro pos _ h; cases h
  | cons x l ih =>
    intro pos h0 h h'
    have hl : ∀ y, y ∈ l → 0 < al y := fun y hy => h0 y (List.mem_cons_of_mem _ hy)
    rw [pst] at h h'
    by_cases hf : up pos (al x) + sz x ≤ lim
    · rw [if_pos hf] at h h'
      cases hp : pst sz al lim (up pos (al x) + sz x) l k with
      | some w =>
        rw [hp] at h
        cases h
        cases hp' : pst sz al lim (up pos (al x) + sz x) l k' with
        | some w' =>
          rw [hp'] at h'
          cases h'
          exact ih _ hl hp hp'
        | none =>
          rw [hp'] at h'
          dsimp only at h'
          by_cases hk : k' = x
          · rw [if_pos hk] at h'
            cases h'
            subst hk
            have := (pst_in l _ hl hp).1
            omega
          · rw [if_neg hk] at h'; cases h'
      | none =>
        rw [hp] at h
        dsimp only at h
        by_cases hk : k = x
        · rw [if_pos hk] at h
          cases h
          subst hk
          cases hp' : pst sz al lim (up pos (al k) + sz k) l k' with
          | some w' =>
            rw [hp'] at h'
            cases h'
            have := (pst_in l _ hl hp').1
            omega
          | none =>
            rw [hp'] at h'
            dsimp only at h'
            rw [if_neg (fun q => hne q.symm)] at h'
            cases h'
        · rw [if_neg hk] at h; cases h
    · rw [if_neg hf] at h h'
      exact ih pos hl h h'
theorem up_add {x pos a : Nat} (ha : 0 < a) (hx : x % a = 0) : up (x + pos) a = x + up pos a := by
  have e := Nat.div_add_mod x a
  rw [hx, Nat.add_zero] at e
  unfold up
  have e1 : x + pos + a - 1 = (pos + a - 1) + a * (x / a) := by omega
  rw [e1, Nat.add_mul_div_left _ _ ha, Nat.add_mul, Nat.mul_comm (x / a), e, Nat.add_comm]
theorem pen_tr {sz al : Nat → Nat} {lim x0 : Nat} : ∀ (l : List Nat) (pos : Nat), (∀ y, y ∈ l → 0 < al y ∧ x0 % al y = 0) → x0 + pnl sz al pos l ≤ lim → pen sz al lim (x0 + pos) l = x0 + pnl sz al pos l := by
  intro l
  induction l with
  | nil => intro pos _ _; rfl
  | cons x l ih =>
    intro pos h hl
    have hx := h x (List.mem_cons_self ..)
    have h0 : ∀ y, y ∈ l → 0 < al y ∧ x0 % al y = 0 := fun y hy => h y (List.mem_cons_of_mem _ hy)
    have h1 := pnl_ge (sz := sz) l (up pos (al x) + sz x) (fun y hy => (h0 y hy).1)
    rw [pnl] at hl
    rw [pen, pnl, up_add hx.1 hx.2, if_pos (by omega), Nat.add_assoc, ih _ h0 hl]
def ndp : List Nat → Prop
  | [] => True
  | x :: l => ¬x ∈ l ∧ ndp l
theorem ndp_ins {al : Nat → Nat} {k : Nat} : ∀ l, ¬k ∈ l → ndp l → ndp (insL al k l) := by
  intro l
  induction l with
  | nil => intro _ _; exact ⟨fun h => (by cases h), trivial⟩
  | cons x l ih =>
    intro hk ⟨h1, h2⟩
    rw [insL]
    by_cases h : al x < al k
    · rw [if_pos h]; exact ⟨hk, h1, h2⟩
    · rw [if_neg h]
      refine ⟨fun q => ?_, ih (fun q => hk (List.mem_cons_of_mem _ q)) h2⟩
      rcases (ins_mem l).mp q with q | q
      · exact hk (by rw [q]; exact List.mem_cons_self ..)
      · exact h1 q
theorem ndp_itl {sz al : Nat → Nat} : ∀ n, ndp (itl sz al n) := by
  intro n
  induction n with
  | zero => exact trivial
  | succ n ih =>
    rw [itl]
    by_cases h : sz n = 0
    · rw [if_pos h]; exact ih
    · rw [if_neg h]
      exact ndp_ins _ (fun q => by have := (itl_mem n).mp q; omega) ih
