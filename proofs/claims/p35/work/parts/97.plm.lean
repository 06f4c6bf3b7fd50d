/-! placing: reference -/
/-- starts of bus b out of f, else as before -/
def stP (st : Nat → Nat → Option Nat) (b : Nat) (f : Nat → Option Nat) : Nat → Nat → Option Nat := fun b' k => if b' = b then (match f k with
  | some z => some z
  | none => st b k) else st b' k
theorem stP_y {st : Nat → Nat → Option Nat} {sz al : Nat → Nat} {lim pos b x : Nat} {l : List Nat} (h : up pos (al x) + sz x ≤ lim) : stP st b (pst sz al lim pos (x :: l)) = stP (st1 st b x (up pos (al x))) b (pst sz al lim (up pos (al x) + sz x) l) := by
  funext b' k
  unfold stP
  by_cases hb : b' = b
  · subst hb
    rw [if_pos rfl, if_pos rfl, pst, if_pos h]
    cases pst sz al lim (up pos (al x) + sz x) l k with
    | some z => rfl
    | none =>
      show (match (if k = x then some (up pos (al x)) else none) with | some z => some z | none => st b' k) = st1 st b' x (up pos (al x)) b' k
      by_cases hk : k = x
      · subst hk
        rw [if_pos rfl, st1_s]
      · rw [if_neg hk, st1_o (fun q => hk q.2)]
  · rw [if_neg hb, if_neg hb, st1_o (fun q => hb q.1)]
theorem stP_n {st : Nat → Nat → Option Nat} {sz al : Nat → Nat} {lim pos b x : Nat} {l : List Nat} (h : ¬up pos (al x) + sz x ≤ lim) : stP st b (pst sz al lim pos (x :: l)) = stP st b (pst sz al lim pos l) := by
  have : pst sz al lim pos (x :: l) = pst sz al lim pos l := by
    funext k
    rw [pst, if_neg h]
  rw [this]
theorem stP_0 {st : Nat → Nat → Option Nat} {sz al : Nat → Nat} {lim pos b : Nat} : stP st b (pst sz al lim pos []) = st := by
  funext b' k
  unfold stP
  by_cases hb : b' = b
  · subst hb; rw [if_pos rfl]; rfl
  · rw [if_neg hb]
section
variable (d L : Nat) (p : Nat → Nat)
end
