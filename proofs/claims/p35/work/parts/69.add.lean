/-! adding a device -/
theorem rt_of_dpt {R : RV} : ∀ {n b : Nat}, rt R (n + 1) b → dpt R (n + 1) b < n + 1 → rt R n b := by
  intro n
  induction n with
  | zero =>
    intro b h hd
    rcases h with h | ⟨h1, h2, h3⟩
    · exact h
    · rw [dpt_s, if_pos ⟨h1, h2⟩] at hd
      omega
  | succ n ih =>
    intro b h hd
    rcases h with h | ⟨h1, h2, h3⟩
    · exact Or.inl h
    · rw [dpt_s, if_pos ⟨h1, h2⟩] at hd
      exact Or.inr ⟨h1, h2, ih h3 (by omega)⟩
theorem cnt_lt (P : Nat → Prop) [DecidablePred P] : ∀ n j, j < n → ¬P j → cntP P n < n := by
  intro n
  induction n with
  | zero => intro j h; omega
  | succ n ih =>
    intro j h hp
    have hle := cnt_le P n
    by_cases hj : j = n
    · subst hj
      rw [cnt_n P hp]
      omega
    · have := ih j (by omega) hp
      show cntP P n + _ < _
      split <;> omega
theorem cnt_all (P : Nat → Prop) [DecidablePred P] : ∀ n, (∀ j, j < n → P j) → cntP P n = n := by
  intro n
  induction n with
  | zero => intro _; rfl
  | succ n ih =>
    intro h
    rw [cnt_s P (h n (by omega)), ih (fun j hj => h j (by omega))]
def addR (R : RV) (j b s : Nat) (k : Int32) : RV := u2 (u2 (u2 (u2 R 2 j k) 3 j (nI b)) 4 j (nI s)) 5 (b * 4 + s) (nI j)
theorem OK_add {R : RV} (h : OK R) {j b s : Nat} {k : Int32} (hj : j < 12) (hb : b < 13) (hs : s < 4) (hk : k = nI 1 ∨ k = nI 2) (hf : R 2 j = nI 0) (he : R 5 (b * 4 + s) = -5) (hbr : b < 12 → R 2 b = nI 2) (hrt : rt R 4 b) : OK (addR R j b s k) := by
  obtain ⟨i1, i2, i3, i4, i5, i6, i7, i8⟩ := h
  have rows : ∀ a, ¬a = 2 → ¬a = 3 → ¬a = 4 → ¬a = 5 → addR R j b s k a = R a := fun a h2 h3 h4 h5 => by
    unfold addR
    rw [u2_row h5, u2_row h4, u2_row h3, u2_row h2]
  have a2 : ∀ d, ¬d = j → addR R j b s k 2 d = R 2 d := fun d hd => by unfold addR; simp (disch := omega) only [u2_o]
  have a2j : addR R j b s k 2 j = k := by unfold addR; simp (disch := omega) only [u2_o, u2_e]
  have a3 : ∀ d, ¬d = j → addR R j b s k 3 d = R 3 d := fun d hd => by unfold addR; simp (disch := omega) only [u2_o]
  have a3j : addR R j b s k 3 j = nI b := by unfold addR; simp (disch := omega) only [u2_o, u2_e]
  have a4 : ∀ d, ¬d = j → addR R j b s k 4 d = R 4 d := fun d hd => by unfold addR; simp (disch := omega) only [u2_o]
  have a4j : addR R j b s k 4 j = nI s := by unfold addR; simp (disch := omega) only [u2_o, u2_e]
  have a5 : ∀ i, ¬i = b * 4 + s → addR R j b s k 5 i = R 5 i := fun d hd => by unfold addR; simp (disch := omega) only [u2_o]
  have a5j : addR R j b s k 5 (b * 4 + s) = nI j := by unfold addR; simp (disch := omega) only [u2_e]
  have bnd : ∀ d, ¬d = j → bn (addR R j b s k) d = bn R d := fun d hd => by unfold bn; rw [a3 d hd]
  have bnj : bn (addR R j b s k) j = b := bn_of a3j hb
  have brj : ∀ d, R 2 d = nI 2 → ¬d = j := fun d h1 h2 => by subst h2; rw [hf] at h1; exact absurd h1 (by decide)
  have nzj : ∀ d, ¬R 2 d = nI 0 → ¬d = j := fun d h1 h2 => by subst h2; exact h1 hf
  have hrt' : ∀ n x, rt R n x → rt (addR R j b s k) n x := by
    intro n
    induction n with
    | zero => intro x h; exact h
    | succ n ih =>
      intro x h
      rcases h with h | ⟨h1, h2, h3⟩
      · exact Or.inl h
      · refine Or.inr ⟨h1, by rw [a2 x (brj x h2)]; exact h2, ?_⟩
        rw [bnd x (brj x h2)]
        exact ih _ h3
  have k12 : ¬k = nI 0 := by rcases hk with q | q <;> rw [q] <;> decide
  have W : ∀ s', s' < 2 → InvW R s' → InvW (addR R j b s k) s' := by
    intro s' hs' ⟨w1, w2, w3, w4⟩
    obtain ⟨x1, x2, x3⟩ := i2.2 j hj (by rw [hf]; decide)
    have y1 := i2.1 j hj (by rw [hf]; decide)
    have cv : ∀ d q a n, d < 12 → q < 3 → cov (addR R j b s k) s' d q a n → cov R s' d q a n ∧ ¬d = j := by
      intro d q a n hd hq ⟨c1, c2, c3⟩
      by_cases g : d = j
      · exfalso
        subst g
        rw [rows 8 (by omega) (by omega) (by omega) (by omega), rows 10 (by omega) (by omega) (by omega) (by omega)] at c3
        rcases c3 with ⟨-, -, c3, -⟩ | ⟨-, -, c3, -⟩
        · rw [(y1 q hq).2, n5_ne (by omega)] at c3; exact c3
        · rw [(x3 s' hs').1, n5_ne (by omega)] at c3; exact c3
      · refine ⟨⟨c1, c2, ?_⟩, g⟩
        rw [rows 8 (by omega) (by omega) (by omega) (by omega), rows 10 (by omega) (by omega) (by omega) (by omega), rows 6 (by omega) (by omega) (by omega) (by omega), rows 7 (by omega) (by omega) (by omega) (by omega), rows 11 (by omega) (by omega) (by omega) (by omega), a2 d g] at c3
        exact c3
    refine ⟨fun d q hd hq => ?_, fun d hd => ?_, fun d q a n hd hq hc => ?_, fun d q d' q' a n a' n' hd hq hd' hq' hn hbb c1 c2 => ?_⟩
    · rw [rows 8 (by omega) (by omega) (by omega) (by omega)]; exact w1 d q hd hq
    · rw [rows 10 (by omega) (by omega) (by omega) (by omega), rows 11 (by omega) (by omega) (by omega) (by omega)]; exact w2 d hd
    · obtain ⟨c1, c2⟩ := cv d q a n hd hq hc
      obtain ⟨g1, g2, g3, a0, n0, g4, g5⟩ := w3 d q a n hd hq c1
      refine ⟨g1, g2, g3, a0, n0, ?_, g5⟩
      rw [bnd d c2]
      rcases g4 with g4 | ⟨b1, b2, b3, b4, b5, b6⟩
      · exact Or.inl g4
      · refine Or.inr ⟨b1, b2, b3, ?_, ?_, ?_⟩
        · rw [a2 _ (brj _ b4)]; exact b4
        · rw [rows 10 (by omega) (by omega) (by omega) (by omega)]; exact b5
        · rw [rows 11 (by omega) (by omega) (by omega) (by omega)]; exact b6
    · obtain ⟨c1, c2'⟩ := cv d q a n hd hq c1
      obtain ⟨c2, c3'⟩ := cv d' q' a' n' hd' hq' c2
      rw [bnd d c2', bnd d' c3'] at hbb
      exact w4 d q d' q' a n a' n' hd hq hd' hq' hn hbb c1 c2
  have nm : ∀ d a c, numd (addR R j b s k) d a c → numd R d a c := fun d a c hn => by
    unfold numd at *
    rw [rows 12 (by omega) (by omega) (by omega) (by omega), rows 13 (by omega) (by omega) (by omega) (by omega)] at hn
    exact hn
  have nm' : ∀ d a c, numd R d a c → numd (addR R j b s k) d a c := fun d a c hn => by
    unfold numd at *
    rw [rows 12 (by omega) (by omega) (by omega) (by omega), rows 13 (by omega) (by omega) (by omega) (by omega)]
    exact hn
  have njn : ∀ d a c, numd R d a c → ¬d = j := fun d a c hn hd => by
    subst hd
    have := (i2.2 d hj (by rw [hf]; decide)).1
    rw [hn.1, nI_ne5 (by have := hn.2.2.2; omega)] at this
    exact this
  refine ⟨⟨fun d hd => ?_, fun d hd hkd => ?_, fun b' s' hb' hs' => ?_, fun d hd hkd => ?_⟩, ⟨fun d hd hkd q hq => ?_, fun d hd hkd => ?_⟩, InvG_cong (rows 1 (by omega) (by omega) (by omega) (by omega)) i3, InvS_cong (rows 6 (by omega) (by omega) (by omega) (by omega)) (rows 7 (by omega) (by omega) (by omega) (by omega)) (rows 8 (by omega) (by omega) (by omega) (by omega)) i4, InvR_cong (rows 9 (by omega) (by omega) (by omega) (by omega)) i5, ⟨fun d hd => ?_, fun d a c hd hn => ?_, fun d d' a c a' c' hd hd' hne hbb n1 n2 => ?_⟩, W 0 (by omega) i7, W 1 (by omega) i8⟩
  · by_cases g : d = j
    · subst g
      rw [a2j]
      exact Or.inr hk
    · rw [a2 d g]; exact i1.1 d hd
  · by_cases g : d = j
    · subst g
      refine ⟨b, s, hb, hs, a3j, a4j, a5j, fun hb2 => ?_⟩
      rw [a2 b (brj b (hbr hb2))]
      exact hbr hb2
    · rw [a2 d g] at hkd
      obtain ⟨b', s', hb', hs', q1, q2, q3, q4⟩ := i1.2.1 d hd hkd
      refine ⟨b', s', hb', hs', by rw [a3 d g]; exact q1, by rw [a4 d g]; exact q2, ?_, fun hb2 => ?_⟩
      · rw [a5]
        · exact q3
        · intro e
          rw [e, he, n5_ne (by omega)] at q3
          exact q3
      · rw [a2 b' (brj b' (q4 hb2))]
        exact q4 hb2
  · by_cases g : b' * 4 + s' = b * 4 + s
    · have hbb : b' = b := by omega
      have hss : s' = s := by omega
      subst hbb
      subst hss
      exact Or.inr ⟨j, hj, a5j, by rw [a2j]; exact k12, a3j, a4j⟩
    · rw [a5 _ g]
      rcases i1.2.2.1 b' s' hb' hs' with q | ⟨d, hd, q1, q2, q3, q4⟩
      · exact Or.inl q
      · refine Or.inr ⟨d, hd, q1, ?_, ?_, ?_⟩
        · rw [a2 d (nzj d q2)]; exact q2
        · rw [a3 d (nzj d q2)]; exact q3
        · rw [a4 d (nzj d q2)]; exact q4
  · by_cases g : d = j
    · subst g
      rw [bnj]
      exact hrt' 4 b hrt
    · rw [a2 d g] at hkd
      rw [bnd d g]
      exact hrt' 4 _ (i1.2.2.2 d hd hkd)
  · rw [rows 7 (by omega) (by omega) (by omega) (by omega), rows 8 (by omega) (by omega) (by omega) (by omega)]
    refine i2.1 d hd ?_ q hq
    by_cases g : d = j
    · subst g; rw [hf]; decide
    · rw [a2 d g] at hkd; exact hkd
  · rw [rows 12 (by omega) (by omega) (by omega) (by omega), rows 13 (by omega) (by omega) (by omega) (by omega), rows 10 (by omega) (by omega) (by omega) (by omega), rows 11 (by omega) (by omega) (by omega) (by omega), rows 9 (by omega) (by omega) (by omega) (by omega)]
    refine i2.2 d hd ?_
    by_cases g : d = j
    · subst g; rw [hf]; decide
    · rw [a2 d g] at hkd; exact hkd
  · rcases i6.1 d hd with ⟨q1, q2⟩ | ⟨a, c, q⟩
    · exact Or.inl ⟨by rw [rows 12 (by omega) (by omega) (by omega) (by omega)]; exact q1, by rw [rows 13 (by omega) (by omega) (by omega) (by omega)]; exact q2⟩
    · exact Or.inr ⟨a, c, nm' d a c q⟩
  · have n1 := nm d a c hn
    rw [bnd d (njn d a c n1)]
    rcases i6.2.1 d a c hd n1 with q | ⟨a', c', q1, q2⟩
    · exact Or.inl q
    · exact Or.inr ⟨a', c', nm' _ _ _ q1, q2⟩
  · have n1 := nm d a c n1
    have n2 := nm d' a' c' n2
    rw [bnd d (njn d a c n1), bnd d' (njn d' a' c' n2)] at hbb
    exact i6.2.2 d d' a c a' c' hd hd' hne hbb n1 n2
