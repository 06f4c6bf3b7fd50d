/-! placing: reference, all buses -/
def bel (R : RV) (b0 j : Nat) : Prop := b0 = 12 ∨ anc R 4 (bn R j) b0
theorem anc_1 {R : RV} {x : Nat} : ∀ {n b : Nat}, anc R n b x → anc R (n + 1) b x := by
  intro n
  induction n with
  | zero => intro b h; exact h.elim
  | succ n ih =>
    intro b h
    exact ⟨h.1, h.2.imp id (fun q => ih q)⟩
theorem dpt_cong {R R' : RV} (h2 : R' 2 = R 2) (h3 : R' 3 = R 3) : ∀ n b, dpt R' n b = dpt R n b := by
  intro n
  induction n with
  | zero => intro b; rfl
  | succ n ih =>
    intro b
    rw [dpt_s, dpt_s, h2, bn_cong h3, ih]
theorem bel_up {R : RV} (hI : InvT R) {b0 j : Nat} (hj : j < 12) (hk : R 2 j = nI 2) (h : bel R b0 j) : bn R j = b0 ∨ (bn R j < 12 ∧ R 2 (bn R j) = nI 2 ∧ bel R b0 (bn R j)) := by
  obtain ⟨g1, g2, g3⟩ := hI.bus hj (k2_ne0 hk)
  rcases h with h | ⟨h1, h2⟩
  · by_cases q : bn R j < 12
    · exact Or.inr ⟨q, g3 q, Or.inl h⟩
    · exact Or.inl (by omega)
  · rcases h2 with h2 | h2
    · exact Or.inl h2
    · exact Or.inr ⟨h1, g3 h1, Or.inr (anc_1 h2)⟩
theorem anc_dq {R : RV} (hI : InvT R) {x : Nat} : ∀ n c, anc R n c x → c < 12 → R 2 c = nI 2 → c = x ∨ dq R x < dq R c := by
  intro n
  induction n with
  | zero => intro c h; exact h.elim
  | succ n ih =>
    intro c ⟨h1, h2⟩ hc hk
    rcases h2 with h2 | h2
    · exact Or.inl h2
    · right
      obtain ⟨g1, g2, g3⟩ := hI.bus hc (k2_ne0 hk)
      have hb : bn R c < 12 := by
        cases n with
        | zero => exact h2.elim
        | succ n => exact h2.1
      have e := dq_s hI hc (k2_ne0 hk) hb
      rcases ih (bn R c) h2 hb (g3 hb) with q | q
      · rw [q] at e; omega
      · omega
theorem bel_dq {R : RV} (hI : InvT R) {b0 j : Nat} (hb0 : b0 < 12) (hj : j < 12) (hk : R 2 j = nI 2) (h : bel R b0 j) : dq R b0 < dq R j := by
  rcases h with h | h
  · omega
  · have hb : bn R j < 12 := h.1
    obtain ⟨g1, g2, g3⟩ := hI.bus hj (k2_ne0 hk)
    have e := dq_s hI hj (k2_ne0 hk) hb
    rcases anc_dq hI 4 (bn R j) h hb (g3 hb) with q | q
    · rw [q] at e; omega
    · omega
theorem posB_bel {R : RV} (hI : InvT R) {s b0 x0 : Nat} : ∀ n b, b < 13 → (b < 12 → R 2 b = nI 2 → dq R b < n) → posB R s b0 x0 b ≠ none → b = b0 ∨ (b < 12 ∧ R 2 b = nI 2 ∧ bel R b0 b) := by
  intro n
  induction n with
  | zero =>
    intro b hb h1 h2
    by_cases e : b = b0
    · exact Or.inl e
    · by_cases h12 : b = 12
      · subst h12; exact absurd (posB_12 (fun q => e q.symm)) h2
      · by_cases k : R 2 b = nI 2
        · have := h1 (by omega) k; omega
        · exfalso
          apply h2
          unfold posB
          rw [PO, if_neg e, if_neg (fun q => k q.2)]
  | succ n ih =>
    intro b hb h1 h2
    by_cases e : b = b0
    · exact Or.inl e
    · by_cases h12 : b = 12
      · subst h12; exact absurd (posB_12 (fun q => e q.symm)) h2
      · by_cases k : R 2 b = nI 2
        · have hb12 : b < 12 := by omega
          have hd := h1 hb12 k
          rw [posB_eq hI hb12 k e] at h2
          obtain ⟨g1, g2, g3⟩ := hI.bus hb12 (k2_ne0 k)
          refine Or.inr ⟨hb12, k, ?_⟩
          by_cases z : b0 = 12
          · exact Or.inl z
          · right
            have hp : posB R s b0 x0 (bn R b) ≠ none := fun q => h2 (stF_none q)
            rcases ih (bn R b) g1 (fun q q2 => by have := dq_s hI hb12 (k2_ne0 k) q; omega) hp with q | ⟨q1, q2, q3⟩
            · have hbb : bn R b < 12 := by
                by_cases q3 : bn R b < 12
                · exact q3
                · have : bn R b = 12 := by omega
                  rw [this] at hp
                  exact absurd (posB_12 z) hp
              exact ⟨hbb, Or.inl q⟩
            · rcases q3 with q3 | q3
              · exact absurd q3 z
              · have hf := fam_dn hI b0 b hb12 (k2_ne0 k) q1 (by
                  rw [famB, tb_iff]
                  exact ⟨k2_ne0 q2, Or.inr q3⟩)
                rw [famB, tb_iff] at hf
                exact hf.2.resolve_left e
        · exfalso
          apply h2
          unfold posB
          rw [PO, if_neg e, if_neg (fun q => k q.2)]
def dnP (R : RV) (b0 D k b : Nat) : Prop := b = b0 ∨ (b < 12 ∧ R 2 b = nI 2 ∧ bel R b0 b ∧ (dq R b + 1 < D ∨ (dq R b + 1 = D ∧ b < k)))
noncomputable def stD (R : RV) (s b0 x0 D k : Nat) : Nat → Nat → Option Nat := fun b k' => if tb (dnP R b0 D k b) = true then stF R s b0 x0 b k' else none
theorem stD_y {R : RV} {s b0 x0 D k b k' : Nat} (h : dnP R b0 D k b) : stD R s b0 x0 D k b k' = stF R s b0 x0 b k' := if_pos ((tb_iff _).mpr h)
theorem stD_z {R : RV} {s b0 x0 D k b k' : Nat} (h : ¬dnP R b0 D k b) : stD R s b0 x0 D k b k' = none := if_neg (fun q => h ((tb_iff _).mp q))
theorem stD_cong {R : RV} {s b0 x0 D k D' k' : Nat} (h : ∀ b, (dnP R b0 D k b ↔ dnP R b0 D' k' b) ∨ posB R s b0 x0 b = none) : stD R s b0 x0 D k = stD R s b0 x0 D' k' := by
  funext b t
  rcases h b with h | h
  · by_cases q : dnP R b0 D k b
    · rw [stD_y q, stD_y (h.mp q)]
    · rw [stD_z q, stD_z (fun g => q (h.mpr g))]
  · have e := stF_none (k := t) h
    by_cases q : dnP R b0 D k b <;> by_cases g : dnP R b0 D' k' b
    · rw [stD_y q, stD_y g]
    · rw [stD_y q, stD_z g, e]
    · rw [stD_z q, stD_y g, e]
    · rw [stD_z q, stD_z g]
/-- nothing has a window below b0 -/
def PLg (R : RV) (s b0 : Nat) : Prop := ∀ j, j < 12 → R 2 j = nI 2 → bel R b0 j → R 10 (j * 2 + s) = -5
section
variable (d L : Nat) (p : Nat → Nat)
end
