/-! firstFit, freeRoom -/
theorem LF_r {mu : RV} {P : Nat → Prop} {r : Nat} (h : ¬r = 114) : LF mu P r = mu r := by
  funext t
  exact LF_o h
theorem cnt_int (u c : Nat) : ∀ n, cntP (fun t => u ≤ t ∧ t < u + c) n = min n (u + c) - min n u := by
  intro n
  induction n with
  | zero => simp [cntP]
  | succ n ih =>
    by_cases h : u ≤ n ∧ n < u + c
    · rw [cnt_s (fun t => u ≤ t ∧ t < u + c) h, ih]
      omega
    · rw [cnt_n (fun t => u ≤ t ∧ t < u + c) h, ih]
      omega
/-- free but for the parts from k on -/
def frk (R : RV) (s b A E k t : Nat) : Prop := inR s A E t ∧ ∀ i a n, i < k → CP R s b i a n → ¬(a ≤ t * grn s ∧ t * grn s < a + n)
theorem cp_bus {R : RV} (hO : OK R) {s b i a n : Nat} (hb : b < 13) (hi : i < 12) (hc : CP R s b i a n) : ∃ j, j < 12 ∧ bn R j = b ∧ R 4 j = nI (i / 3) ∧ cov R s j (i % 3) a n := by
  obtain ⟨j, c1, c2, c3⟩ := hc
  rcases hO.T.2.2.1 b (i / 3) hb (by omega) with hv | ⟨j', g1, g2, g3, g4, g5⟩
  · rw [hv, n5_ne (by omega)] at c2; exact c2.elim
  · rw [g2, nI_eqc (by omega) (by omega)] at c2
    subst c2
    exact ⟨j', c1, bn_of g4 hb, g5, c3⟩
theorem cp_apart {R : RV} (hO : OK R) {s b i a n i' a' n' : Nat} (hs : s < 2) (hb : b < 13) (hi : i < 12) (hi' : i' < 12) (hne : ¬i = i') (hc : CP R s b i a n) (hc' : CP R s b i' a' n') : a + n ≤ a' ∨ a' + n' ≤ a := by
  obtain ⟨j, j1, j2, j3, j4⟩ := cp_bus hO hb hi hc
  obtain ⟨j', k1, k2, k3, k4⟩ := cp_bus hO hb hi' hc'
  refine (hO.W hs).2.2.2 j (i % 3) j' (i' % 3) a n a' n' j1 (by omega) k1 (by omega) ?_ (by rw [j2, k2]) j4 k4
  rintro ⟨rfl, q⟩
  rw [j3, nI_eqc (by omega) (by omega)] at k3
  omega
theorem cp_room {R : RV} (hO : OK R) {s b i a n A E : Nat} (hs : s < 2) (hb : b < 13) (hi : i < 12) (hc : CP R s b i a n) (hr : room R s b A E) : A ≤ a ∧ a + n ≤ A + E := by
  obtain ⟨j, j1, j2, j3, j4⟩ := cp_bus hO hb hi hc
  obtain ⟨-, -, -, a0, n0, r1, r2, r3⟩ := (hO.W hs).2.2.1 j (i % 3) a n j1 (by omega) j4
  rw [j2] at r1
  obtain ⟨e1, e2⟩ := room_one hr r1
  omega
theorem cnt_free {R : RV} (hO : OK R) {s b A' E' : Nat} (hs : s < 2) (hb : b < 13) (hr : room R s b (grn s * A') (grn s * E')) (hAE : A' + E' ≤ 256) : ∀ k, k ≤ 12 → grn s * cntP (fun t => tb (frk R s b (grn s * A') (grn s * E') k t) = true) 256 + sumC R s b k = grn s * E' := by
  have hg := @grn_le s
  have hg0 : 0 < grn s := by omega
  intro k
  induction k with
  | zero =>
    intro _
    have e : cntP (fun t => tb (frk R s b (grn s * A') (grn s * E') 0 t) = true) 256 = cntP (fun t => A' ≤ t ∧ t < A' + E') 256 := cnt_cong _ _ 256 (fun t _ => by
      rw [tb_iff]
      unfold frk inR
      rw [Nat.mul_comm t, ← Nat.mul_add, gle hg0, glt hg0]
      exact ⟨fun q => q.1, fun q => ⟨q, fun i a n hi => by omega⟩⟩)
    rw [e, cnt_int]
    show grn s * _ + 0 = _
    rw [Nat.add_zero]
    congr 1
    omega
  | succ k ih =>
    intro hk
    have ih := ih (by omega)
    by_cases hc : ∃ a n, CP R s b k a n
    · obtain ⟨a, n, hc⟩ := hc
      obtain ⟨j, j1, j2, j3, j4⟩ := cp_bus hO hb (by omega) hc
      obtain ⟨u, c, rfl, rfl, e3, -⟩ := cov_grn hO.T (hO.W hs) j1 (by omega) j4
      have hrm := cp_room hO hs hb (by omega) hc hr
      rw [← Nat.mul_add, ← Nat.mul_add, gle hg0, gle hg0] at hrm
      have e : cntP (fun t => tb (frk R s b (grn s * A') (grn s * E') k t) = true) 256 = cntP (fun t => tb (frk R s b (grn s * A') (grn s * E') (k + 1) t) = true) 256 + cntP (fun t => u ≤ t ∧ t < u + c) 256 := by
        refine cnt_split _ _ _ (fun t => ⟨?_, ?_⟩) 256
        · rw [tb_iff, tb_iff]
          constructor
          · intro q
            by_cases hu : u ≤ t ∧ t < u + c
            · exact Or.inr hu
            · refine Or.inl ⟨q.1, fun i a n hi hcp => ?_⟩
              by_cases hik : i = k
              · subst hik
                obtain ⟨g1, g2⟩ := CP_un hc hcp
                rw [g1, g2]
                exact fun z => hu ((cov_t hg0).mp z)
              · exact q.2 i a n (by omega) hcp
          · rintro (q | q)
            · exact ⟨q.1, fun i a n hi hcp => q.2 i a n (by omega) hcp⟩
            · refine ⟨?_, fun i a n hi hcp z => ?_⟩
              · unfold inR
                rw [Nat.mul_comm t, ← Nat.mul_add, gle hg0, glt hg0]
                omega
              · have h1 := cp_apart hO hs hb (i := i) (i' := k) (by omega) (by omega) (by omega) hcp hc
                have h2 := (cov_t (g := grn s) hg0).mpr q
                omega
        · rw [tb_iff]
          rintro ⟨q1, q2⟩
          exact q1.2 k _ _ (by omega) hc ((cov_t hg0).mpr q2)
      have e2 : sumC R s b (k + 1) = sumC R s b k + grn s * c := by
        show _ + _ = _
        rw [szc_y hc]
      rw [cnt_int] at e
      rw [e, show min 256 (u + c) - min 256 u = c by omega, Nat.mul_add] at ih
      rw [e2]
      omega
    · have hno : ∀ a n, ¬CP R s b k a n := fun a n q => hc ⟨a, n, q⟩
      have e : cntP (fun t => tb (frk R s b (grn s * A') (grn s * E') k t) = true) 256 = cntP (fun t => tb (frk R s b (grn s * A') (grn s * E') (k + 1) t) = true) 256 := cnt_cong _ _ 256 (fun t _ => by
        rw [tb_iff, tb_iff]
        refine ⟨fun q => ⟨q.1, fun i a n hi hcp => ?_⟩, fun q => ⟨q.1, fun i a n hi hcp => q.2 i a n (by omega) hcp⟩⟩
        by_cases hik : i = k
        · subst hik; exact absurd hcp (hno a n)
        · exact q.2 i a n (by omega) hcp)
      have e2 : sumC R s b (k + 1) = sumC R s b k := by
        show _ + _ = _
        rw [szc_n hno, Nat.add_zero]
      rw [e2, ← e]
      exact ih
section
variable (d L : Nat) (mu : RV) (p : Nat → Nat)
end
