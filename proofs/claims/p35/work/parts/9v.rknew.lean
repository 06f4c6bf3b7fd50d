/-! a new rack, in any heap -/
theorem z_fillA (d : Nat) (A : AH) (r n : Nat) (x : Int32) (h : A.2.1 r = (10, n)) (hn : n < 2147483648) : zsem d 4 0 [.inr (.inl (some r)), .inl x, .inr (.inl none), .inr (.inl none)] [] A = some (none, (A.1, A.2.1, fl A.2.2.1 r n x, A.2.2.2)) := by
  have hL : ∀ m k, k + m = n → zsem d 4 5 [.inr (.inl (some r)), .inl x, .inl (nI k), .inl (nI n)] [] (A.1, A.2.1, fl A.2.2.1 r k x, A.2.2.2) = some (none, (A.1, A.2.1, fl A.2.2.1 r n x, A.2.2.2)) := by
    intro m
    induction m with
    | zero =>
      intro k hk
      have : k = n := by omega
      subst this
      rw [e4_5, e4_6, e4_7, if_pos (by rw [nI_lec (by omega) (by omega)]; exact Nat.le_refl _), e4_20]
    | succ m ih =>
      intro k hk
      have e0 := ixb (j := k) (n := n) (by omega) hn
      rw [e4_5, e4_6, e4_7, if_neg (by rw [nI_lec (by omega) (by omega)]; omega), e4_10, e4_11, e4_12, e4_13 (h := by show (A.2.1 r).1 = 10; rw [h]) (h0 := by rw [nI_lec (by omega) (by omega)]; omega) (h1 := by show _ < (A.2.1 r).2; rw [h, e0.2]; show k < n; omega), e4_14, e4_17, e0.2, nI_add]
      have e1 : sI (A.1, A.2.1, fl A.2.2.1 r k x, A.2.2.2) r k x = (A.1, A.2.1, fl A.2.2.1 r (k + 1) x, A.2.2.2) := by
        unfold sI
        dsimp only
        rw [fl_s]
      rw [e1]
      exact ih (k + 1) (by omega)
  have e0 := hL n 0 (by omega)
  rw [fl_0] at e0
  rw [e4_0, e4_1, e4_2, e4_3 (h := Or.inl (by rw [h])), h, e4_4]
  exact e0
def rsz (k : Nat) : Nat := match k with
  | 0 => 12
  | 1 => 12
  | 2 => 12
  | 3 => 52
  | 4 => 36
  | 5 => 36
  | 6 => 36
  | 7 => 24
  | 8 => 24
  | 9 => 24
  | 10 => 12
  | 11 => 12
  | _ => 0
/-- after k rows of a new rack -/
def RN (A : AH) (r c w k v : Nat) : AH := ((c + k, w + v), fun j => if c ≤ j ∧ j < c + k then (10, rsz (j - c)) else A.2.1 j, fun a i => if c ≤ a ∧ a < c + k then 0 else A.2.2.1 a i, fun a i => if c ≤ a ∧ a < c + k then none else if a = r ∧ i < k then some (c + i) else A.2.2.2 a i)
theorem RN_0 {A : AH} {r c w : Nat} (h : A.1 = (c, w)) : RN A r c w 0 0 = A := by
  obtain ⟨a1, a2, a3, a4⟩ := A
  have h : a1 = (c, w) := h
  subst h
  unfold RN
  refine Prod.ext rfl (Prod.ext ?_ (Prod.ext ?_ ?_))
  · funext j
    exact if_neg (by omega)
  · funext a i
    exact if_neg (by omega)
  · funext a i
    show (if _ then _ else _) = _
    rw [if_neg (by omega), if_neg (by omega)]
theorem RN_s {A : AH} {r c w k v n : Nat} (hr : r < c) (hn : n = rsz k) : sR (nw (RN A r c w k v) (10, n) n) r k (some (c + k)) = RN A r c w (k + 1) (v + n) := by
  subst hn
  unfold RN nw sR
  refine Prod.ext ?_ (Prod.ext ?_ (Prod.ext ?_ ?_))
  · show (c + k + 1, w + v + rsz k) = (c + (k + 1), w + (v + rsz k))
    rw [Nat.add_assoc, Nat.add_assoc]
  · funext j
    show (if j = c + k then _ else _) = _
    by_cases h : j = c + k
    · subst h
      rw [if_pos rfl]
      show _ = if _ then _ else _
      rw [if_pos (by omega), Nat.add_sub_cancel_left]
    · rw [if_neg h]
      show (if _ then _ else _) = if _ then _ else _
      by_cases h2 : c ≤ j ∧ j < c + k
      · rw [if_pos h2, if_pos (by omega)]
      · rw [if_neg h2, if_neg (by omega)]
  · funext a i
    show (if a = c + k then _ else _) = _
    by_cases h : a = c + k
    · subst h
      rw [if_pos rfl]
      show _ = if _ then _ else _
      rw [if_pos (by omega)]
    · rw [if_neg h]
      show (if _ then _ else _) = if _ then _ else _
      by_cases h2 : c ≤ a ∧ a < c + k
      · rw [if_pos h2, if_pos (by omega)]
      · rw [if_neg h2, if_neg (by omega)]
  · funext a i
    by_cases h : a = r ∧ i = k
    · obtain ⟨rfl, rfl⟩ := h
      show u2 _ a i (some (c + i)) a i = if _ then _ else _
      rw [u2_s, if_neg (by omega), if_pos (by omega)]
    · show u2 _ r k (some (c + k)) a i = if _ then _ else _
      rw [u2_o _ _ h]
      show (if a = c + k then _ else _) = _
      by_cases h1 : a = c + k
      · rw [if_pos h1, if_pos (by omega)]
      · rw [if_neg h1]
        show (if _ then _ else _) = _
        by_cases h2 : c ≤ a ∧ a < c + k
        · rw [if_pos h2, if_pos (by omega)]
        · rw [if_neg h2, if_neg (show ¬(c ≤ a ∧ a < c + (k + 1)) by omega)]
          by_cases h3 : a = r ∧ i < k
          · rw [if_pos h3, if_pos (by omega)]
          · rw [if_neg h3, if_neg (by omega)]
theorem RN_t {A : AH} {r c w k v : Nat} (hr : r < c) (h : (A.2.1 r).1 = 2) : ((RN A r c w k v).2.1 r).1 = 2 := by
  show (if _ then _ else _ : Nat × Nat).1 = 2
  rw [if_neg (by omega)]
  exact h
theorem nw_t {A : AH} {r : Nat} {t : Nat × Nat} {w : Nat} (h : ¬r = A.1.1) : (nw A t w).2.1 r = A.2.1 r := if_neg h
section
variable (d : Nat) (A : AH) (r c w : Nat)
theorem rn_0 (hr : r < c) (hc : c + 12 < SC) (ht : (A.2.1 r).1 = 2) : zsem d 2 4 [.inr (.inl (some r))] [] (RN A r c w 0 0) = zsem d 2 12 [.inr (.inl (some r))] [] (RN A r c w 1 12) := by
  rw [e2_4, e2_5, e2_7 (h0 := by decide) (h1 := by decide) (h := by show c + 0 + 1 < SC; omega), show (nI 12).toNatClampNeg = 12 by decide]
  show zsem d 2 9 [.inr (.inl (some r))] [.inr (.inl (some (c + 0))), .inr (.inl (some r))] _ = _
  rw [e2_9 (h := by rw [nw_t (by show ¬r = c + 0; omega)]; exact RN_t hr ht), RN_s (n := 12) hr rfl]
theorem rn_1 (hr : r < c) (hc : c + 12 < SC) (ht : (A.2.1 r).1 = 2) : zsem d 2 12 [.inr (.inl (some r))] [] (RN A r c w 1 12) = zsem d 2 20 [.inr (.inl (some r))] [] (RN A r c w 2 24) := by
  rw [e2_12, e2_13, e2_15 (h0 := by decide) (h1 := by decide) (h := by show c + 1 + 1 < SC; omega), show (nI 12).toNatClampNeg = 12 by decide]
  show zsem d 2 17 [.inr (.inl (some r))] [.inr (.inl (some (c + 1))), .inr (.inl (some r))] _ = _
  rw [e2_17 (h := by rw [nw_t (by show ¬r = c + 1; omega)]; exact RN_t hr ht), RN_s (n := 12) hr rfl]
theorem rn_2 (hr : r < c) (hc : c + 12 < SC) (ht : (A.2.1 r).1 = 2) : zsem d 2 20 [.inr (.inl (some r))] [] (RN A r c w 2 24) = zsem d 2 28 [.inr (.inl (some r))] [] (RN A r c w 3 36) := by
  rw [e2_20, e2_21, e2_23 (h0 := by decide) (h1 := by decide) (h := by show c + 2 + 1 < SC; omega), show (nI 12).toNatClampNeg = 12 by decide]
  show zsem d 2 25 [.inr (.inl (some r))] [.inr (.inl (some (c + 2))), .inr (.inl (some r))] _ = _
  rw [e2_25 (h := by rw [nw_t (by show ¬r = c + 2; omega)]; exact RN_t hr ht), RN_s (n := 12) hr rfl]
theorem rn_3 (hr : r < c) (hc : c + 12 < SC) (ht : (A.2.1 r).1 = 2) : zsem d 2 28 [.inr (.inl (some r))] [] (RN A r c w 3 36) = zsem d 2 36 [.inr (.inl (some r))] [] (RN A r c w 4 88) := by
  rw [e2_28, e2_29, e2_31 (h0 := by decide) (h1 := by decide) (h := by show c + 3 + 1 < SC; omega), show (nI 52).toNatClampNeg = 52 by decide]
  show zsem d 2 33 [.inr (.inl (some r))] [.inr (.inl (some (c + 3))), .inr (.inl (some r))] _ = _
  rw [e2_33 (h := by rw [nw_t (by show ¬r = c + 3; omega)]; exact RN_t hr ht), RN_s (n := 52) hr rfl]
theorem rn_4 (hr : r < c) (hc : c + 12 < SC) (ht : (A.2.1 r).1 = 2) : zsem d 2 36 [.inr (.inl (some r))] [] (RN A r c w 4 88) = zsem d 2 44 [.inr (.inl (some r))] [] (RN A r c w 5 124) := by
  rw [e2_36, e2_37, e2_39 (h0 := by decide) (h1 := by decide) (h := by show c + 4 + 1 < SC; omega), show (nI 36).toNatClampNeg = 36 by decide]
  show zsem d 2 41 [.inr (.inl (some r))] [.inr (.inl (some (c + 4))), .inr (.inl (some r))] _ = _
  rw [e2_41 (h := by rw [nw_t (by show ¬r = c + 4; omega)]; exact RN_t hr ht), RN_s (n := 36) hr rfl]
theorem rn_5 (hr : r < c) (hc : c + 12 < SC) (ht : (A.2.1 r).1 = 2) : zsem d 2 44 [.inr (.inl (some r))] [] (RN A r c w 5 124) = zsem d 2 52 [.inr (.inl (some r))] [] (RN A r c w 6 160) := by
  rw [e2_44, e2_45, e2_47 (h0 := by decide) (h1 := by decide) (h := by show c + 5 + 1 < SC; omega), show (nI 36).toNatClampNeg = 36 by decide]
  show zsem d 2 49 [.inr (.inl (some r))] [.inr (.inl (some (c + 5))), .inr (.inl (some r))] _ = _
  rw [e2_49 (h := by rw [nw_t (by show ¬r = c + 5; omega)]; exact RN_t hr ht), RN_s (n := 36) hr rfl]
theorem rn_6 (hr : r < c) (hc : c + 12 < SC) (ht : (A.2.1 r).1 = 2) : zsem d 2 52 [.inr (.inl (some r))] [] (RN A r c w 6 160) = zsem d 2 60 [.inr (.inl (some r))] [] (RN A r c w 7 196) := by
  rw [e2_52, e2_53, e2_55 (h0 := by decide) (h1 := by decide) (h := by show c + 6 + 1 < SC; omega), show (nI 36).toNatClampNeg = 36 by decide]
  show zsem d 2 57 [.inr (.inl (some r))] [.inr (.inl (some (c + 6))), .inr (.inl (some r))] _ = _
  rw [e2_57 (h := by rw [nw_t (by show ¬r = c + 6; omega)]; exact RN_t hr ht), RN_s (n := 36) hr rfl]
theorem rn_7 (hr : r < c) (hc : c + 12 < SC) (ht : (A.2.1 r).1 = 2) : zsem d 2 60 [.inr (.inl (some r))] [] (RN A r c w 7 196) = zsem d 2 68 [.inr (.inl (some r))] [] (RN A r c w 8 220) := by
  rw [e2_60, e2_61, e2_63 (h0 := by decide) (h1 := by decide) (h := by show c + 7 + 1 < SC; omega), show (nI 24).toNatClampNeg = 24 by decide]
  show zsem d 2 65 [.inr (.inl (some r))] [.inr (.inl (some (c + 7))), .inr (.inl (some r))] _ = _
  rw [e2_65 (h := by rw [nw_t (by show ¬r = c + 7; omega)]; exact RN_t hr ht), RN_s (n := 24) hr rfl]
theorem rn_8 (hr : r < c) (hc : c + 12 < SC) (ht : (A.2.1 r).1 = 2) : zsem d 2 68 [.inr (.inl (some r))] [] (RN A r c w 8 220) = zsem d 2 76 [.inr (.inl (some r))] [] (RN A r c w 9 244) := by
  rw [e2_68, e2_69, e2_71 (h0 := by decide) (h1 := by decide) (h := by show c + 8 + 1 < SC; omega), show (nI 24).toNatClampNeg = 24 by decide]
  show zsem d 2 73 [.inr (.inl (some r))] [.inr (.inl (some (c + 8))), .inr (.inl (some r))] _ = _
  rw [e2_73 (h := by rw [nw_t (by show ¬r = c + 8; omega)]; exact RN_t hr ht), RN_s (n := 24) hr rfl]
theorem rn_9 (hr : r < c) (hc : c + 12 < SC) (ht : (A.2.1 r).1 = 2) : zsem d 2 76 [.inr (.inl (some r))] [] (RN A r c w 9 244) = zsem d 2 84 [.inr (.inl (some r))] [] (RN A r c w 10 268) := by
  rw [e2_76, e2_77, e2_79 (h0 := by decide) (h1 := by decide) (h := by show c + 9 + 1 < SC; omega), show (nI 24).toNatClampNeg = 24 by decide]
  show zsem d 2 81 [.inr (.inl (some r))] [.inr (.inl (some (c + 9))), .inr (.inl (some r))] _ = _
  rw [e2_81 (h := by rw [nw_t (by show ¬r = c + 9; omega)]; exact RN_t hr ht), RN_s (n := 24) hr rfl]
theorem rn_10 (hr : r < c) (hc : c + 12 < SC) (ht : (A.2.1 r).1 = 2) : zsem d 2 84 [.inr (.inl (some r))] [] (RN A r c w 10 268) = zsem d 2 92 [.inr (.inl (some r))] [] (RN A r c w 11 280) := by
  rw [e2_84, e2_85, e2_87 (h0 := by decide) (h1 := by decide) (h := by show c + 10 + 1 < SC; omega), show (nI 12).toNatClampNeg = 12 by decide]
  show zsem d 2 89 [.inr (.inl (some r))] [.inr (.inl (some (c + 10))), .inr (.inl (some r))] _ = _
  rw [e2_89 (h := by rw [nw_t (by show ¬r = c + 10; omega)]; exact RN_t hr ht), RN_s (n := 12) hr rfl]
theorem rn_11 (hr : r < c) (hc : c + 12 < SC) (ht : (A.2.1 r).1 = 2) : zsem d 2 92 [.inr (.inl (some r))] [] (RN A r c w 11 280) = zsem d 2 100 [.inr (.inl (some r))] [] (RN A r c w 12 292) := by
  rw [e2_92, e2_93, e2_95 (h0 := by decide) (h1 := by decide) (h := by show c + 11 + 1 < SC; omega), show (nI 12).toNatClampNeg = 12 by decide]
  show zsem d 2 97 [.inr (.inl (some r))] [.inr (.inl (some (c + 11))), .inr (.inl (some r))] _ = _
  rw [e2_97 (h := by rw [nw_t (by show ¬r = c + 11; omega)]; exact RN_t hr ht), RN_s (n := 12) hr rfl]
theorem rn_all (hA : A.1 = (c, w)) (hr : r < c) (hc : c + 12 < SC) (ht : (A.2.1 r).1 = 2) : zsem d 2 0 [.inr (.inl (some r))] [] A = zsem d 2 100 [.inr (.inl (some r))] [] (RN A r c w 12 292) := by
  have e0 : zsem d 2 0 [.inr (.inl (some r))] [] A = zsem d 2 4 [.inr (.inl (some r))] [] (RN A r c w 0 0) := by rw [e2_0, e2_1, RN_0 hA]
  rw [e0, rn_0 d A r c w hr hc ht, rn_1 d A r c w hr hc ht, rn_2 d A r c w hr hc ht, rn_3 d A r c w hr hc ht, rn_4 d A r c w hr hc ht, rn_5 d A r c w hr hc ht, rn_6 d A r c w hr hc ht, rn_7 d A r c w hr hc ht, rn_8 d A r c w hr hc ht, rn_9 d A r c w hr hc ht, rn_10 d A r c w hr hc ht, rn_11 d A r c w hr hc ht]
end
