/-! the script's row stays -/
theorem zrun_sc : ∀ (n d k pc : Nat) (L st : List AV) (A : AH) (v : Option AV) (A1 : AH), zrun n d k pc L st A = some (v, A1) → (A.2.1 SC).1 = 20 → Sc A A1 := by
  intro n
  induction n with
  | zero => intro d k pc L st A v A1 h; cases h
  | succ n ih =>
    intro d k pc L st A v A1 h ht
    unfold zrun at h
    cases hd : decode (mB k) pc with
    | error e => rw [hd] at h; cases h
    | ok q =>
      obtain ⟨i, len⟩ := q
      rw [hd] at h
      dsimp only at h
      by_cases hl : ilok i len = true
      · rw [if_pos hl] at h
        cases hn : nxd k pc i L st A with
        | none => rw [hn] at h; cases h
        | some o =>
          rw [hn] at h
          obtain ⟨pc1, L1, st1, A2⟩ | ⟨v2, A2⟩ | ⟨c, as, rest⟩ := o
          · dsimp only at h
            by_cases hA : A.1.1 ≤ A2.1.1 ∧ A.1.2 ≤ A2.1.2
            · rw [if_pos hA] at h
              have s1 := nxd_sc hn ht
              exact Sc_t s1 (ih _ _ _ _ _ _ _ _ h (by rw [s1.1]; exact ht))
            · rw [if_neg hA] at h; cases h
          · dsimp only at h
            cases h
            rw [(nx_ret hn).1]
            exact Sc_r _
          · dsimp only at h
            cases d with
            | zero => cases h
            | succ d =>
              dsimp only at h
              by_cases ha : as.length ≤ mL c
              · rw [if_pos ha] at h
                cases hc : zrun n d c 0 (ent c as) [] A with
                | none => rw [hc] at h; cases h
                | some r =>
                  obtain ⟨v2, A2⟩ := r
                  rw [hc] at h
                  dsimp only at h
                  have s1 := ih _ _ _ _ _ _ _ _ hc ht
                  exact Sc_t s1 (ih _ _ _ _ _ _ _ _ h (by rw [s1.1]; exact ht))
              · rw [if_neg ha] at h; cases h
      · rw [if_neg hl] at h; cases h
theorem zsem_sc {d k pc : Nat} {L st : List AV} {A A1 : AH} {v : Option AV} (h : zsem d k pc L st A = some (v, A1)) (ht : (A.2.1 SC).1 = 20) : Sc A A1 := by
  obtain ⟨n, hn⟩ := zsem_ex h
  exact zrun_sc n d k pc L st A v A1 hn ht
theorem hh_sc {d k pc L : Nat} {ls st : List AV} {mu mu1 : RV} {p p1 : Nat → Nat} {v : Option AV} (h : zsem d k pc ls st (HH L mu p) = some (v, HH L mu1 p1)) : mu1 SC = mu SC := (zsem_sc h rfl).2
