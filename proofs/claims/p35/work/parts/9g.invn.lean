/-! numbering keeps what every rack keeps -/
def sub (R : RV) (j d : Nat) : Prop := d = j ∨ anc R 4 (bn R d) j
/-- the device d is at or below a device in a slot from t on of bus b -/
def PS (R : RV) (b t d : Nat) : Prop := ¬R 2 d = nI 0 ∧ ∃ j, j < 12 ∧ ¬R 2 j = nI 0 ∧ bn R j = b ∧ t ≤ sn R j ∧ sub R j d
theorem anc_k {R : RV} (hI : InvT R) {x : Nat} : ∀ n c, anc R n c x → (c < 12 → R 2 c = nI 2) → x < 12 ∧ R 2 x = nI 2 := by
  intro n
  induction n with
  | zero => intro c h; exact h.elim
  | succ n ih =>
    intro c ⟨h1, h2⟩ hk
    rcases h2 with h2 | h2
    · subst h2; exact ⟨h1, hk h1⟩
    · exact ih (bn R c) h2 (hI.bus h1 (k2_ne0 (hk h1))).2.2
theorem anc_uq {R : RV} (hI : InvT R) {x x' : Nat} (he : dq R x = dq R x') : ∀ n m c, anc R n c x → anc R m c x' → (c < 12 → R 2 c = nI 2) → x = x' := by
  intro n
  induction n with
  | zero => intro m c h; exact h.elim
  | succ n ih =>
    intro m c h h' hk
    cases m with
    | zero => exact h'.elim
    | succ m =>
      obtain ⟨h1, h2⟩ := h
      obtain ⟨-, h2'⟩ := h'
      have hkc := hk h1
      have hup := (hI.bus h1 (k2_ne0 hkc)).2.2
      have low : ∀ z k, anc R k (bn R c) z → dq R z < dq R c := fun z k hz => by
        have hb : bn R c < 12 := by
          cases k with
          | zero => exact hz.elim
          | succ k => exact hz.1
        have e := dq_s hI h1 (k2_ne0 hkc) hb
        rcases anc_dq hI k (bn R c) hz hb (hup hb) with q | q
        · rw [q] at e; omega
        · omega
      rcases h2 with h2 | h2 <;> rcases h2' with h2' | h2'
      · rw [← h2, ← h2']
      · have := low x' m h2'
        rw [h2] at this
        omega
      · have := low x n h2
        rw [h2'] at this
        omega
      · exact ih m (bn R c) h2 h2' hup
theorem sub_dq {R : RV} (hI : InvT R) {j d : Nat} (hd : d < 12) (hk : ¬R 2 d = nI 0) (h : anc R 4 (bn R d) j) : dq R j < dq R d := by
  have hb : bn R d < 12 := h.1
  have e := dq_s hI hd hk hb
  rcases anc_dq hI 4 (bn R d) h hb ((hI.bus hd hk).2.2 hb) with q | q
  · rw [q] at e; omega
  · omega
theorem dq_bus {R : RV} {j j' : Nat} (h : bn R j = bn R j') : dq R j = dq R j' := by unfold dq; rw [h]
theorem sub_uq {R : RV} (hI : InvT R) {j j' d : Nat} (hd : d < 12) (hk : ¬R 2 d = nI 0) (h : sub R j d) (h' : sub R j' d) (hb : bn R j = bn R j') : j = j' := by
  have he := dq_bus hb
  rcases h with h | h <;> rcases h' with h' | h'
  · rw [← h, ← h']
  · have := sub_dq hI hd hk h'
    rw [h] at this
    omega
  · have := sub_dq hI hd hk h
    rw [h'] at this
    omega
  · exact anc_uq hI he 4 4 (bn R d) h h' (hI.bus hd hk).2.2
theorem anc_tr {R : RV} {i j : Nat} (hj : j < 12) (hb : bn R i = j) : ∀ n c, anc R n c i → anc R (n + 1) c j := by
  intro n
  induction n with
  | zero => intro c h; exact h.elim
  | succ n ih =>
    intro c ⟨h1, h2⟩
    refine ⟨h1, Or.inr ?_⟩
    rcases h2 with h2 | h2
    · rw [h2, hb]; exact ⟨hj, Or.inl rfl⟩
    · exact ih (bn R c) h2
theorem PS_anc {R : RV} (hI : InvT R) {j d : Nat} (hj : j < 12) (hd : d < 12) (hk : ¬R 2 d = nI 0) : anc R 4 (bn R d) j ↔ PS R j 0 d := by
  constructor
  · intro h
    refine ⟨hk, ?_⟩
    have main : ∀ n d, d < 12 → ¬R 2 d = nI 0 → dq R d < n → anc R 4 (bn R d) j → ∃ i, i < 12 ∧ ¬R 2 i = nI 0 ∧ bn R i = j ∧ 0 ≤ sn R i ∧ sub R i d := by
      intro n
      induction n with
      | zero => intro d _ _ h; omega
      | succ n ih =>
        intro d hd hk hn h
        have hb : bn R d < 12 := h.1
        have h2 := (hI.bus hd hk).2.2 hb
        rcases h.2 with q | q
        · exact ⟨d, hd, hk, q, Nat.zero_le _, Or.inl rfl⟩
        · have e := dq_s hI hd hk hb
          obtain ⟨i, i1, i2, i3, i4, i5⟩ := ih (bn R d) hb (k2_ne0 h2) (by omega) (anc_1 q)
          refine ⟨i, i1, i2, i3, i4, Or.inr ?_⟩
          have hf := fam_dn hI i d hd hk hb (by
            rw [famB, tb_iff]
            exact ⟨k2_ne0 h2, i5⟩)
          rw [famB, tb_iff] at hf
          rcases hf.2 with z | z
          · exfalso
            have hdq := dq_bus (R := R) (j := d) (j' := i) (by rw [z])
            rcases i5 with w | w
            · rw [← w] at hdq; omega
            · have := sub_dq hI hb (k2_ne0 h2) w
              omega
          · exact z
    exact main 5 d hd hk (by have := dq_le hI hd hk; omega) h
  · rintro ⟨-, i, i1, i2, i3, -, i5⟩
    rcases i5 with rfl | h
    · rw [i3]; exact ⟨hj, Or.inl rfl⟩
    · exact anc_dn (hI.2.2.2 d hd hk) (show 4 ≤ 5 by omega) (anc_tr hj i3 4 _ h)
theorem PS_cong {R R' : RV} (h : SameN R R') (b t d : Nat) : PS R' b t d ↔ PS R b t d := by
  have e3 := h 3 (by omega) (by omega)
  have e4 : sn R' = sn R := by funext j; unfold sn; rw [h 4 (by omega) (by omega)]
  unfold PS sub
  rw [h 2 (by omega) (by omega), bn_cong e3, e4]
  simp only [anc_cong e3]
def NumP (R : RV) (b t : Nat) (R' : RV) (x y : Nat) : Prop :=
  (∀ d, d < 12 → ¬PS R b t d → R' 12 d = R 12 d ∧ R' 13 d = R 13 d) ∧
  (∀ d, d < 12 → PS R b t d → (R' 12 d = -5 ∧ R' 13 d = -5) ∨ ∃ a c, numd R' d a c ∧ x ≤ a ∧ c < y ∧ R 2 d = nI 2) ∧
  (∀ d, d < 12 → PS R b t d → ¬bn R d = b → ∀ a c, numd R' d a c → ∃ a' c', numd R' (bn R d) a' c' ∧ a' < a ∧ c ≤ c') ∧
  (∀ d d', d < 12 → d' < 12 → PS R b t d → PS R b t d' → ¬d = d' → bn R d = bn R d' → ∀ a c a' c', numd R' d a c → numd R' d' a' c' → c < a' ∨ c' < a)
theorem numd_5 {R : RV} {d a c : Nat} (h : numd R d a c) : ¬R 12 d = -5 := fun q => by
  have := h.1
  rw [q, n5_ne (by have := h.2.2.2; omega)] at this
  exact this
theorem numd_eq {R R' : RV} {d a c : Nat} (h1 : R' 12 d = R 12 d) (h2 : R' 13 d = R 13 d) : numd R' d a c ↔ numd R d a c := by
  unfold numd
  rw [h1, h2]
def unN (R : RV) (b t : Nat) : Prop := ∀ d, d < 12 → PS R b t d → R 12 d = -5 ∧ R 13 d = -5
theorem vis_inv {n : Nat} (hn : ∀ R j x, InvT R → j < 12 → R 2 j = nI 2 → unN R j 0 → 1 ≤ x → x ≤ 16 → NumP R j 0 (nbB n R j x).1 x (nbB n R j x).2) {b : Nat} (hb : b < 13) : ∀ m, m ≤ 4 → ∀ R x, InvT R → unN R b (4 - m) → 1 ≤ x → x ≤ 16 → NumP R b (4 - m) (visS (nbB n) b m R x).1 x (visS (nbB n) b m R x).2 := by
  intro m
  induction m with
  | zero =>
    intro _ R x hI hU hx1 hx
    have hno : ∀ d, d < 12 → ¬PS R b 4 d := fun d hd ⟨hk, j, j1, j2, j3, j4, j5⟩ => by
      have := (sn_ok hI j1 j2).1
      omega
    exact ⟨fun d _ _ => ⟨rfl, rfl⟩, fun d hd h => absurd h (hno d hd), fun d hd h => absurd h (hno d hd), fun d d' hd _ h => absurd h (hno d hd)⟩
  | succ m ih =>
    intro hm R x hI hU hx1 hx
    have ht : 4 - (m + 1) = 3 - m := by omega
    have ht1 : 4 - m = 3 - m + 1 := by omega
    rw [ht] at hU ⊢
    have up : ∀ R d, PS R b (3 - m + 1) d → PS R b (3 - m) d := fun R d ⟨a0, j, a1, a2, a3, a4, a5⟩ => ⟨a0, j, a1, a2, a3, by omega, a5⟩
    cases hJ : (if x ≤ 15 then nbJ R b (3 - m) else none) with
    | none =>
      rw [visS, hJ]
      dsimp only
      have hr := ih (by omega) R x hI (fun d hd h => hU d hd (up R d (by rw [← ht1]; exact h))) hx1 hx
      rw [ht1] at hr
      obtain ⟨r1, r2, r3, r4⟩ := hr
      have same : ∀ d, d < 12 → PS R b (3 - m) d → ¬PS R b (3 - m + 1) d → ∀ a c, ¬numd (visS (nbB n) b m R x).1 d a c := fun d hd h1 h2 a c h3 => by
        have := numd_5 h3
        rw [(r1 d hd h2).1] at this
        exact this (hU d hd h1).1
      refine ⟨fun d hd h => r1 d hd (fun q => h (up R d q)), fun d hd h => ?_, fun d hd h hbd a c hnd => ?_, fun d d' hd hd' h h' hne hbb a c a' c' h1 h2 => ?_⟩
      · by_cases q : PS R b (3 - m + 1) d
        · exact r2 d hd q
        · rw [(r1 d hd q).1, (r1 d hd q).2]
          exact Or.inl (hU d hd h)
      · by_cases q : PS R b (3 - m + 1) d
        · exact r3 d hd q hbd a c hnd
        · exact absurd hnd (same d hd h q a c)
      · by_cases q : PS R b (3 - m + 1) d
        · by_cases q' : PS R b (3 - m + 1) d'
          · exact r4 d d' hd hd' q q' hne hbb a c a' c' h1 h2
          · exact absurd h2 (same d' hd' h' q' a' c')
        · exact absurd h1 (same d hd h q a c)
    | some j =>
      have hx15 : x ≤ 15 := by
        by_cases q : x ≤ 15
        · exact q
        · rw [if_neg q] at hJ; cases hJ
      have hJ' := hJ
      rw [if_pos hx15] at hJ'
      obtain ⟨hj, hv, hk, sb1, sb2⟩ := nbJ_some hI hb (by omega) hJ'
      rw [visS, hJ]
      dsimp only
      have hS1 : SameN R (u2 R 12 j (nI x)) := fun a h1 _ => u2_row h1
      have hI1 : InvT (u2 R 12 j (nI x)) := InvT_cong (hS1 2 (by omega) (by omega)) (hS1 3 (by omega) (by omega)) (hS1 4 (by omega) (by omega)) (hS1 5 (by omega) (by omega)) hI
      -- the three kinds of devices of these slots
      have dj : ∀ d, d < 12 → PS R j 0 d → PS R b (3 - m) d ∧ ¬d = j ∧ ¬PS R b (3 - m + 1) d ∧ ¬bn R d = b := fun d hd h => by
        have hk0 := h.1
        have ha := (PS_anc hI hj hd hk0).mpr h
        have hdq := sub_dq hI hd hk0 ha
        refine ⟨⟨hk0, j, hj, k2_ne0 hk, sb1, by omega, Or.inr ha⟩, fun q => by rw [q] at hdq; omega, fun ⟨_, i, a1, a2, a3, a4, a5⟩ => ?_, fun q => ?_⟩
        · have := sub_uq hI hd hk0 (Or.inr ha : sub R j d) a5 (by rw [sb1, a3])
          rw [← this, sb2] at a4
          omega
        · have := dq_bus (R := R) (j := d) (j' := j) (by rw [q, sb1])
          omega
      have djj : PS R b (3 - m) j ∧ ¬PS R b (3 - m + 1) j ∧ ¬PS R j 0 j := by
        refine ⟨⟨k2_ne0 hk, j, hj, k2_ne0 hk, sb1, by omega, Or.inl rfl⟩, fun ⟨_, i, a1, a2, a3, a4, a5⟩ => ?_, fun h => (dj j hj h).2.1 rfl⟩
        have := sub_uq hI hj (k2_ne0 hk) (Or.inl rfl : sub R j j) a5 (by rw [sb1, a3])
        rw [← this, sb2] at a4
        omega
      have split3 : ∀ d, d < 12 → PS R b (3 - m) d → d = j ∨ PS R j 0 d ∨ PS R b (3 - m + 1) d := fun d hd ⟨a0, i, a1, a2, a3, a4, a5⟩ => by
        by_cases q : i = j
        · subst q
          rcases a5 with q | q
          · exact Or.inl q
          · exact Or.inr (Or.inl ((PS_anc hI hj hd a0).mp q))
        · refine Or.inr (Or.inr ⟨a0, i, a1, a2, a3, ?_, a5⟩)
          by_cases g : sn R i = 3 - m
          · exact absurd (slot_dev hI hj a1 a2 hv a3 g) q
          · omega
      have hbd := nb_bd n (u2 R 12 j (nI x)) j (x + 1) (by omega)
      have hN : SameN R (nbB n (u2 R 12 j (nI x)) j (x + 1)).1 := fun a h1 h2 => by rw [nb_N n _ _ _ a h1 h2, u2_row h1]
      have hp := hn (u2 R 12 j (nI x)) j (x + 1) hI1 hj (by rw [u2_row (by omega)]; exact hk) (fun d hd h => by
        have h := (PS_cong hS1 j 0 d).mp h
        obtain ⟨g1, g2, -⟩ := dj d hd h
        rw [u2_o _ _ (by omega), u2_row (by omega)]
        exact hU d hd g1) (by omega) (by omega)
      generalize hr : nbB n (u2 R 12 j (nI x)) j (x + 1) = r at *
      have hla : nla R r.2 ≤ 15 ∧ x ≤ nla R r.2 ∧ (∀ c, c < r.2 → c ≤ 15 → c ≤ nla R r.2) := by
        unfold nla
        exact ⟨by omega, by omega, fun c h1 h2 => by omega⟩
      have hS2 : SameN R (u2 r.1 13 j (nI (nla R r.2))) := fun a h1 h2 => by rw [u2_row h2]; exact hN a h1 h2
      have hI2 : InvT (u2 r.1 13 j (nI (nla R r.2))) := InvT_cong (hS2 2 (by omega) (by omega)) (hS2 3 (by omega) (by omega)) (hS2 4 (by omega) (by omega)) (hS2 5 (by omega) (by omega)) hI
      unfold NumP at hp
      simp only [PS_cong hS1, bn_cong (hS1 3 (by omega) (by omega)), hS1 2 (by omega) (by omega)] at hp
      obtain ⟨p1, p2, p3, p4⟩ := hp
      have at2 : ∀ d, d < 12 → ¬d = j → u2 r.1 13 j (nI (nla R r.2)) 12 d = r.1 12 d ∧ u2 r.1 13 j (nI (nla R r.2)) 13 d = r.1 13 d := fun d hd h => ⟨by rw [u2_row (by omega)], u2_o _ _ (by omega)⟩
      have out1 : ∀ d, d < 12 → ¬d = j → ¬PS R j 0 d → u2 r.1 13 j (nI (nla R r.2)) 12 d = R 12 d ∧ u2 r.1 13 j (nI (nla R r.2)) 13 d = R 13 d := fun d hd h h' => by
        obtain ⟨g1, g2⟩ := p1 d hd h'
        rw [(at2 d hd h).1, (at2 d hd h).2, g1, g2, u2_o _ _ (by omega), u2_row (by omega)]
        exact ⟨rfl, rfl⟩
      have notj : ∀ d, d < 12 → PS R b (3 - m + 1) d → ¬d = j ∧ ¬PS R j 0 d := fun d hd h => ⟨fun q => djj.2.1 (by rw [← q]; exact h), fun q => (dj d hd q).2.2.1 h⟩
      have hq := ih (by omega) (u2 r.1 13 j (nI (nla R r.2))) (nla R r.2 + 1) hI2 (fun d hd h => by
        have h := (PS_cong hS2 b (4 - m) d).mp h
        rw [ht1] at h
        obtain ⟨g1, g2⟩ := notj d hd h
        rw [(out1 d hd g1 g2).1, (out1 d hd g1 g2).2]
        exact hU d hd (up R d h)) (by omega) (by omega)
      have hbd2 := vis_bd (fun R b x h => nb_bd n R b x h) b m (u2 r.1 13 j (nI (nla R r.2))) (nla R r.2 + 1) (by omega)
      generalize hfin : visS (nbB n) b m (u2 r.1 13 j (nI (nla R r.2))) (nla R r.2 + 1) = F at *
      unfold NumP at hq
      rw [ht1] at hq
      simp only [PS_cong hS2, bn_cong (hS2 3 (by omega) (by omega)), hS2 2 (by omega) (by omega)] at hq
      obtain ⟨s1, s2, s3, s4⟩ := hq
      have nj : F.1 12 j = nI x ∧ F.1 13 j = nI (nla R r.2) := by
        obtain ⟨g1, g2⟩ := s1 j hj djj.2.1
        obtain ⟨g3, -⟩ := p1 j hj djj.2.2
        rw [g1, g2, u2_s, u2_row (by omega), g3, u2_s]
        exact ⟨rfl, rfl⟩
      have ndj : numd F.1 j x (nla R r.2) := ⟨nj.1, nj.2, hx1, hla.2.1, hla.1⟩
      have ndj1 : ∀ a c, numd F.1 j a c → a = x ∧ c = nla R r.2 := fun a c h => by
        obtain ⟨z1, z2, z3, z4, z5⟩ := h
        rw [nj.1, nI_eqc (by omega) (by omega)] at z1
        rw [nj.2, nI_eqc (by omega) (by omega)] at z2
        exact ⟨z1.symm, z2.symm⟩
      have inj : ∀ d, d < 12 → PS R j 0 d → F.1 12 d = r.1 12 d ∧ F.1 13 d = r.1 13 d := fun d hd h => by
        obtain ⟨g1, g2, g3, -⟩ := dj d hd h
        obtain ⟨g4, g5⟩ := s1 d hd g3
        rw [g4, g5]
        exact at2 d hd g2
      have ninj : ∀ d a c, d < 12 → PS R j 0 d → (numd F.1 d a c ↔ numd r.1 d a c) := fun d a c hd h => numd_eq (inj d hd h).1 (inj d hd h).2
      have insd : ∀ d a c, d < 12 → PS R j 0 d → numd r.1 d a c → x + 1 ≤ a ∧ c ≤ nla R r.2 := fun d a c hd h hnd => by
        rcases p2 d hd h with ⟨q, -⟩ | ⟨a', c', q1, q2, q3, -⟩
        · exact absurd q (numd_5 hnd)
        · obtain ⟨z1, z2, z3, z4, z5⟩ := hnd
          obtain ⟨y1, y2, y3, y4, y5⟩ := q1
          rw [z1, nI_eqc (by omega) (by omega)] at y1
          rw [z2, nI_eqc (by omega) (by omega)] at y2
          subst y1
          subst y2
          exact ⟨q2, hla.2.2 c q3 z5⟩
      have outd : ∀ d a c, d < 12 → PS R b (3 - m + 1) d → numd F.1 d a c → nla R r.2 + 1 ≤ a := fun d a c hd h hnd => by
        rcases s2 d hd h with ⟨q, -⟩ | ⟨a', c', q1, q2, q3, -⟩
        · exact absurd q (numd_5 hnd)
        · obtain ⟨z1, z2, z3, z4, z5⟩ := hnd
          obtain ⟨y1, y2, y3, y4, y5⟩ := q1
          rw [z1, nI_eqc (by omega) (by omega)] at y1
          subst y1
          exact q2
      refine ⟨fun d hd h => ?_, fun d hd h => ?_, fun d hd h hbd' a c hnd => ?_, fun d d' hd hd' h h' hne hbb a c a' c' h1 h2 => ?_⟩
      · have g1 : ¬d = j := fun q => h (by rw [q]; exact djj.1)
        have g2 : ¬PS R j 0 d := fun q => h (dj d hd q).1
        obtain ⟨g3, g4⟩ := s1 d hd (fun q => h (up R d q))
        rw [g3, g4]
        exact out1 d hd g1 g2
      · rcases split3 d hd h with rfl | q | q
        · exact Or.inr ⟨x, nla R r.2, ndj, Nat.le_refl _, by omega, hk⟩
        · rcases p2 d hd q with ⟨z1, z2⟩ | ⟨a, c, z1, z2, z3, z4⟩
          · rw [(inj d hd q).1, (inj d hd q).2]
            exact Or.inl ⟨z1, z2⟩
          · have := insd d a c hd q z1
            exact Or.inr ⟨a, c, (ninj d a c hd q).mpr z1, by omega, by omega, z4⟩
        · rcases s2 d hd q with z | ⟨a, c, z1, z2, z3, z4⟩
          · exact Or.inl z
          · exact Or.inr ⟨a, c, z1, by omega, z3, z4⟩
      · rcases split3 d hd h with rfl | q | q
        · exact absurd sb1 hbd'
        · have hnr := (ninj d a c hd q).mp hnd
          have hin := insd d a c hd q hnr
          by_cases g : bn R d = j
          · rw [g]
            exact ⟨x, nla R r.2, ndj, by omega, hin.2⟩
          · obtain ⟨a', c', z1, z2, z3⟩ := p3 d hd q g a c hnr
            have ha := (PS_anc hI hj hd q.1).mpr q
            have hb12 : bn R d < 12 := ha.1
            have hkb := (hI.bus hd q.1).2.2 hb12
            have hP : PS R j 0 (bn R d) := (PS_anc hI hj hb12 (k2_ne0 hkb)).mp (anc_1 (ha.2.resolve_left g))
            exact ⟨a', c', (ninj _ a' c' hb12 hP).mpr z1, z2, z3⟩
        · exact s3 d hd q hbd' a c hnd
      · have cross : ∀ d d', d < 12 → d' < 12 → PS R j 0 d → PS R b (3 - m + 1) d' → bn R d = bn R d' → False := fun d d' hd hd' q q' hbb => by
          have ha := (PS_anc hI hj hd q.1).mpr q
          obtain ⟨k0', i, a1, a2, a3, a4, a5⟩ := q'
          rcases a5 with rfl | a5
          · exact (dj d hd q).2.2.2 (by rw [hbb, a3])
          · rw [hbb] at ha
            have := anc_uq hI (dq_bus (R := R) (j := j) (j' := i) (by rw [sb1, a3])) 4 4 (bn R d') ha a5 (hI.bus hd' k0').2.2
            rw [← this, sb2] at a4
            omega
        rcases split3 d hd h with rfl | q | q <;> rcases split3 d' hd' h' with rfl | q' | q'
        · exact absurd rfl hne
        · exact absurd (by rw [← hbb]; exact sb1) (dj d' hd' q').2.2.2
        · obtain ⟨rfl, rfl⟩ := ndj1 a c h1
          have := outd d' a' c' hd' q' h2
          omega
        · exact absurd (by rw [hbb]; exact sb1) (dj d hd q).2.2.2
        · exact p4 d d' hd hd' q q' hne hbb a c a' c' ((ninj d a c hd q).mp h1) ((ninj d' a' c' hd' q').mp h2)
        · exact (cross d d' hd hd' q q' hbb).elim
        · obtain ⟨rfl, rfl⟩ := ndj1 a' c' h2
          have := outd d a c hd q h1
          omega
        · exact (cross d' d hd' hd q' q hbb.symm).elim
        · exact s4 d d' hd hd' q q' hne hbb a c a' c' h1 h2
theorem nb_inv : ∀ n R b x, InvT R → b < 13 → unN R b 0 → 1 ≤ x → x ≤ 16 → NumP R b 0 (nbB n R b x).1 x (nbB n R b x).2 := by
  intro n
  induction n with
  | zero =>
    intro R b x hI hb hU hx1 hx
    exact ⟨fun d _ _ => ⟨rfl, rfl⟩, fun d hd h => Or.inl (hU d hd h), fun d hd h _ a c hnd => absurd (hU d hd h).1 (numd_5 hnd), fun d d' hd hd' h h' _ _ a c a' c' h1 _ => absurd (hU d hd h).1 (numd_5 h1)⟩
  | succ n ih =>
    intro R b x hI hb hU hx1 hx
    exact vis_inv (fun R j x h1 h2 _ h4 h5 h6 => ih R j x h1 (by omega) h4 h5 h6) hb 4 (by omega) R x hI hU hx1 hx
/-- a rack without numbers and places, numbered -/
theorem OK_nb {R : RV} (hO : OK R) (hU : ∀ d, d < 12 → R 12 d = -5 ∧ R 13 d = -5) : OK (nbB 5 R 12 1).1 := by
  have hN := nb_N 5 R 12 1
  obtain ⟨n1, n2, n3, n4⟩ := nb_inv 5 R 12 1 hO.T (by omega) (fun d hd _ => hU d hd) (by omega) (by omega)
  have row := fun a h1 h2 => hN a h1 h2
  have hbn := bn_cong (row 3 (by omega) (by omega))
  have inP : ∀ d a c, d < 12 → numd (nbB 5 R 12 1).1 d a c → PS R 12 0 d := fun d a c hd h => by
    by_cases q : PS R 12 0 d
    · exact q
    · have := numd_5 h
      rw [(n1 d hd q).1] at this
      exact absurd (hU d hd).1 this
  obtain ⟨i1, i2, i3, i4, i5, i6, i7, i8⟩ := hO
  have hW : ∀ s', InvW R s' → InvW (nbB 5 R 12 1).1 s' := fun s' h => InvW_cong (row 2 (by omega) (by omega)) (row 3 (by omega) (by omega)) (row 6 (by omega) (by omega)) (row 7 (by omega) (by omega)) (row 8 (by omega) (by omega)) (row 10 (by omega) (by omega)) (row 11 (by omega) (by omega)) h
  refine ⟨InvT_cong (row 2 (by omega) (by omega)) (row 3 (by omega) (by omega)) (row 4 (by omega) (by omega)) (row 5 (by omega) (by omega)) i1, ⟨?_, fun d hd hk => ?_⟩, InvG_cong (row 1 (by omega) (by omega)) i3, InvS_cong (row 6 (by omega) (by omega)) (row 7 (by omega) (by omega)) (row 8 (by omega) (by omega)) i4, InvR_cong (row 9 (by omega) (by omega)) i5, ⟨fun d hd => ?_, fun d x y hd hn => ?_, fun d d' x y x' y' hd hd' hne hb hn hn' => ?_⟩, hW 0 i7, hW 1 i8⟩
  · rw [row 2 (by omega) (by omega), row 7 (by omega) (by omega), row 8 (by omega) (by omega)]
    exact i2.1
  · rw [row 2 (by omega) (by omega)] at hk
    obtain ⟨-, -, a3⟩ := i2.2 d hd hk
    have h5 : (nbB 5 R 12 1).1 12 d = -5 ∧ (nbB 5 R 12 1).1 13 d = -5 := by
      by_cases q : PS R 12 0 d
      · rcases n2 d hd q with z | ⟨a, c, -, -, -, z⟩
        · exact z
        · exact absurd z hk
      · rw [(n1 d hd q).1, (n1 d hd q).2]; exact hU d hd
    refine ⟨h5.1, h5.2, ?_⟩
    rw [row 10 (by omega) (by omega), row 11 (by omega) (by omega), row 9 (by omega) (by omega)]
    exact a3
  · by_cases q : PS R 12 0 d
    · rcases n2 d hd q with z | ⟨a, c, z, -⟩
      · exact Or.inl z
      · exact Or.inr ⟨a, c, z⟩
    · rw [(n1 d hd q).1, (n1 d hd q).2]; exact Or.inl (hU d hd)
  · rw [hbn]
    by_cases g : bn R d = 12
    · exact Or.inl g
    · exact Or.inr (n3 d hd (inP d x y hd hn) g x y hn)
  · rw [hbn] at hb
    exact n4 d d' hd hd' (inP d x y hd hn) (inP d' x' y' hd' hn') hne hb x y x' y' hn hn'
