/-! a new rack, emptied -/
section
variable (d : Nat) (cs : Nat × Nat) (T : Nat → Nat × Nat) (M : Nat → Nat → Int32) (F : Nat → Nat → Option Nat) (r c : Nat)
theorem me_0 (ht : (T r).1 = 2) (hf : ∀ i, i < 12 → F r i = some (c + i)) (hs : ∀ i, i < 12 → T (c + i) = (10, rsz i)) : zsem (d + 1) 3 0 [.inr (.inl (some r))] [] (cs, T, M, F) = zsem (d + 1) 3 8 [.inr (.inl (some r))] [] (cs, T, fl M (c + 0) 12 (nI 0), F) := by
  rw [e3_0, e3_1 (h := ht)]
  show zsem (d + 1) 3 4 [.inr (.inl (some r))] [.inr (.inl (F r 0))] (cs, T, M, F) = _
  rw [hf 0 (by omega), e3_4, e3_5, z_fillA d (cs, T, M, F) (c + 0) 12 (nI 0) (hs 0 (by omega)) (by omega)]
  rfl
theorem me_1 (ht : (T r).1 = 2) (hf : ∀ i, i < 12 → F r i = some (c + i)) (hs : ∀ i, i < 12 → T (c + i) = (10, rsz i)) : zsem (d + 1) 3 8 [.inr (.inl (some r))] [] (cs, T, M, F) = zsem (d + 1) 3 17 [.inr (.inl (some r))] [] (cs, T, fl M (c + 1) 12 (nI 12), F) := by
  rw [e3_8, e3_9 (h := ht)]
  show zsem (d + 1) 3 12 [.inr (.inl (some r))] [.inr (.inl (F r 1))] (cs, T, M, F) = _
  rw [hf 1 (by omega), e3_12, e3_14, z_fillA d (cs, T, M, F) (c + 1) 12 (nI 12) (hs 1 (by omega)) (by omega)]
  rfl
theorem me_2 (ht : (T r).1 = 2) (hf : ∀ i, i < 12 → F r i = some (c + i)) (hs : ∀ i, i < 12 → T (c + i) = (10, rsz i)) : zsem (d + 1) 3 17 [.inr (.inl (some r))] [] (cs, T, M, F) = zsem (d + 1) 3 25 [.inr (.inl (some r))] [] (cs, T, fl M (c + 2) 12 (nI 0), F) := by
  rw [e3_17, e3_18 (h := ht)]
  show zsem (d + 1) 3 21 [.inr (.inl (some r))] [.inr (.inl (F r 2))] (cs, T, M, F) = _
  rw [hf 2 (by omega), e3_21, e3_22, z_fillA d (cs, T, M, F) (c + 2) 12 (nI 0) (hs 2 (by omega)) (by omega)]
  rfl
theorem me_3 (ht : (T r).1 = 2) (hf : ∀ i, i < 12 → F r i = some (c + i)) (hs : ∀ i, i < 12 → T (c + i) = (10, rsz i)) : zsem (d + 1) 3 25 [.inr (.inl (some r))] [] (cs, T, M, F) = zsem (d + 1) 3 34 [.inr (.inl (some r))] [] (cs, T, fl M (c + 3) 52 ((-5)), F) := by
  rw [e3_25, e3_26 (h := ht)]
  show zsem (d + 1) 3 29 [.inr (.inl (some r))] [.inr (.inl (F r 3))] (cs, T, M, F) = _
  rw [hf 3 (by omega), e3_29, e3_31, z_fillA d (cs, T, M, F) (c + 3) 52 ((-5)) (hs 3 (by omega)) (by omega)]
  rfl
theorem me_4 (ht : (T r).1 = 2) (hf : ∀ i, i < 12 → F r i = some (c + i)) (hs : ∀ i, i < 12 → T (c + i) = (10, rsz i)) : zsem (d + 1) 3 34 [.inr (.inl (some r))] [] (cs, T, M, F) = zsem (d + 1) 3 42 [.inr (.inl (some r))] [] (cs, T, fl M (c + 4) 36 (nI 0), F) := by
  rw [e3_34, e3_35 (h := ht)]
  show zsem (d + 1) 3 38 [.inr (.inl (some r))] [.inr (.inl (F r 4))] (cs, T, M, F) = _
  rw [hf 4 (by omega), e3_38, e3_39, z_fillA d (cs, T, M, F) (c + 4) 36 (nI 0) (hs 4 (by omega)) (by omega)]
  rfl
theorem me_5 (ht : (T r).1 = 2) (hf : ∀ i, i < 12 → F r i = some (c + i)) (hs : ∀ i, i < 12 → T (c + i) = (10, rsz i)) : zsem (d + 1) 3 42 [.inr (.inl (some r))] [] (cs, T, M, F) = zsem (d + 1) 3 50 [.inr (.inl (some r))] [] (cs, T, fl M (c + 5) 36 (nI 0), F) := by
  rw [e3_42, e3_43 (h := ht)]
  show zsem (d + 1) 3 46 [.inr (.inl (some r))] [.inr (.inl (F r 5))] (cs, T, M, F) = _
  rw [hf 5 (by omega), e3_46, e3_47, z_fillA d (cs, T, M, F) (c + 5) 36 (nI 0) (hs 5 (by omega)) (by omega)]
  rfl
theorem me_6 (ht : (T r).1 = 2) (hf : ∀ i, i < 12 → F r i = some (c + i)) (hs : ∀ i, i < 12 → T (c + i) = (10, rsz i)) : zsem (d + 1) 3 50 [.inr (.inl (some r))] [] (cs, T, M, F) = zsem (d + 1) 3 59 [.inr (.inl (some r))] [] (cs, T, fl M (c + 6) 36 ((-5)), F) := by
  rw [e3_50, e3_51 (h := ht)]
  show zsem (d + 1) 3 54 [.inr (.inl (some r))] [.inr (.inl (F r 6))] (cs, T, M, F) = _
  rw [hf 6 (by omega), e3_54, e3_56, z_fillA d (cs, T, M, F) (c + 6) 36 ((-5)) (hs 6 (by omega)) (by omega)]
  rfl
theorem me_7 (ht : (T r).1 = 2) (hf : ∀ i, i < 12 → F r i = some (c + i)) (hs : ∀ i, i < 12 → T (c + i) = (10, rsz i)) : zsem (d + 1) 3 59 [.inr (.inl (some r))] [] (cs, T, M, F) = zsem (d + 1) 3 67 [.inr (.inl (some r))] [] (cs, T, fl M (c + 7) 24 (nI 0), F) := by
  rw [e3_59, e3_60 (h := ht)]
  show zsem (d + 1) 3 63 [.inr (.inl (some r))] [.inr (.inl (F r 7))] (cs, T, M, F) = _
  rw [hf 7 (by omega), e3_63, e3_64, z_fillA d (cs, T, M, F) (c + 7) 24 (nI 0) (hs 7 (by omega)) (by omega)]
  rfl
theorem me_8 (ht : (T r).1 = 2) (hf : ∀ i, i < 12 → F r i = some (c + i)) (hs : ∀ i, i < 12 → T (c + i) = (10, rsz i)) : zsem (d + 1) 3 67 [.inr (.inl (some r))] [] (cs, T, M, F) = zsem (d + 1) 3 76 [.inr (.inl (some r))] [] (cs, T, fl M (c + 8) 24 ((-5)), F) := by
  rw [e3_67, e3_68 (h := ht)]
  show zsem (d + 1) 3 71 [.inr (.inl (some r))] [.inr (.inl (F r 8))] (cs, T, M, F) = _
  rw [hf 8 (by omega), e3_71, e3_73, z_fillA d (cs, T, M, F) (c + 8) 24 ((-5)) (hs 8 (by omega)) (by omega)]
  rfl
theorem me_9 (ht : (T r).1 = 2) (hf : ∀ i, i < 12 → F r i = some (c + i)) (hs : ∀ i, i < 12 → T (c + i) = (10, rsz i)) : zsem (d + 1) 3 76 [.inr (.inl (some r))] [] (cs, T, M, F) = zsem (d + 1) 3 84 [.inr (.inl (some r))] [] (cs, T, fl M (c + 9) 24 (nI 0), F) := by
  rw [e3_76, e3_77 (h := ht)]
  show zsem (d + 1) 3 80 [.inr (.inl (some r))] [.inr (.inl (F r 9))] (cs, T, M, F) = _
  rw [hf 9 (by omega), e3_80, e3_81, z_fillA d (cs, T, M, F) (c + 9) 24 (nI 0) (hs 9 (by omega)) (by omega)]
  rfl
theorem me_10 (ht : (T r).1 = 2) (hf : ∀ i, i < 12 → F r i = some (c + i)) (hs : ∀ i, i < 12 → T (c + i) = (10, rsz i)) : zsem (d + 1) 3 84 [.inr (.inl (some r))] [] (cs, T, M, F) = zsem (d + 1) 3 93 [.inr (.inl (some r))] [] (cs, T, fl M (c + 10) 12 ((-5)), F) := by
  rw [e3_84, e3_85 (h := ht)]
  show zsem (d + 1) 3 88 [.inr (.inl (some r))] [.inr (.inl (F r 10))] (cs, T, M, F) = _
  rw [hf 10 (by omega), e3_88, e3_90, z_fillA d (cs, T, M, F) (c + 10) 12 ((-5)) (hs 10 (by omega)) (by omega)]
  rfl
theorem me_11 (ht : (T r).1 = 2) (hf : ∀ i, i < 12 → F r i = some (c + i)) (hs : ∀ i, i < 12 → T (c + i) = (10, rsz i)) : zsem (d + 1) 3 93 [.inr (.inl (some r))] [] (cs, T, M, F) = zsem (d + 1) 3 102 [.inr (.inl (some r))] [] (cs, T, fl M (c + 11) 12 ((-5)), F) := by
  rw [e3_93, e3_94 (h := ht)]
  show zsem (d + 1) 3 97 [.inr (.inl (some r))] [.inr (.inl (F r 11))] (cs, T, M, F) = _
  rw [hf 11 (by omega), e3_97, e3_99, z_fillA d (cs, T, M, F) (c + 11) 12 ((-5)) (hs 11 (by omega)) (by omega)]
  rfl
def emA (M : Nat → Nat → Int32) (c : Nat) : Nat → Nat → Int32 := fl (fl (fl (fl (fl (fl (fl (fl (fl (fl (fl (fl M (c + 0) 12 (nI 0)) (c + 1) 12 (nI 12)) (c + 2) 12 (nI 0)) (c + 3) 52 ((-5))) (c + 4) 36 (nI 0)) (c + 5) 36 (nI 0)) (c + 6) 36 ((-5))) (c + 7) 24 (nI 0)) (c + 8) 24 ((-5))) (c + 9) 24 (nI 0)) (c + 10) 12 ((-5))) (c + 11) 12 ((-5))
theorem z_emA (ht : (T r).1 = 2) (hf : ∀ i, i < 12 → F r i = some (c + i)) (hs : ∀ i, i < 12 → T (c + i) = (10, rsz i)) : zsem (d + 1) 3 0 [.inr (.inl (some r))] [] (cs, T, M, F) = some (none, (cs, T, emA M c, F)) := by
  rw [me_0 d cs T _ F r c ht hf hs, me_1 d cs T _ F r c ht hf hs, me_2 d cs T _ F r c ht hf hs, me_3 d cs T _ F r c ht hf hs, me_4 d cs T _ F r c ht hf hs, me_5 d cs T _ F r c ht hf hs, me_6 d cs T _ F r c ht hf hs, me_7 d cs T _ F r c ht hf hs, me_8 d cs T _ F r c ht hf hs, me_9 d cs T _ F r c ht hf hs, me_10 d cs T _ F r c ht hf hs, me_11 d cs T _ F r c ht hf hs, e3_102]
  rfl
end
/-- the heap with a new rack at r and its rows from c -/
def RK (A : AH) (r c w : Nat) : AH := ((c + 12, w + 292), fun j => if c ≤ j ∧ j < c + 12 then (10, rsz (j - c)) else A.2.1 j, emA (u2 (fun a i => if c ≤ a ∧ a < c + 12 then 0 else A.2.2.1 a i) r 12 (nI 0)) c, fun a i => if c ≤ a ∧ a < c + 12 then none else if a = r ∧ i < 12 then some (c + i) else A.2.2.2 a i)
theorem z_rackNew (d : Nat) (A : AH) (r c w : Nat) (hA : A.1 = (c, w)) (hr : r < c) (hc : c + 12 < SC) (ht : (A.2.1 r).1 = 2) : zsem (d + 2) 2 0 [.inr (.inl (some r))] [] A = some (none, RK A r c w) := by
  have ht2 := RN_t (w := w) (k := 12) (v := 292) hr ht
  have e1 := z_emA d (c + 12, w + 292) (RN A r c w 12 292).2.1 (u2 (RN A r c w 12 292).2.2.1 r 12 (nI 0)) (RN A r c w 12 292).2.2.2 r c ht2 (fun i hi => by
    show (if _ then _ else _) = _
    rw [if_neg (by omega), if_pos ⟨rfl, hi⟩]) (fun i hi => by
    show (if _ then _ else _) = _
    rw [if_pos (by omega), Nat.add_sub_cancel_left])
  rw [rn_all (d + 2) A r c w hA hr hc ht, e2_100, e2_101, e2_102 (h := ht2), e2_105, e2_106 (A := sI (RN A r c w 12 292) r 12 (nI 0)) (h := ht2)]
  show (zsem (d + 1) 3 0 [.inr (.inl (some r))] [] ((c + 12, w + 292), (RN A r c w 12 292).2.1, u2 (RN A r c w 12 292).2.2.1 r 12 (nI 0), (RN A r c w 12 292).2.2.2)).bind _ = _
  rw [e1]
  show zsem (d + 2) 2 109 _ [] _ = _
  rw [e2_109]
  rfl
