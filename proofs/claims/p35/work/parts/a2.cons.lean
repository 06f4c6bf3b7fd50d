/-! the two objects of the law: written by wip/gen/gencon.py -/
/-- the heap at the law's start: no cells, the script -/
def A00 (L : Nat) (xs : Nat → Int32) : AH := ((0, 0), fun k => if k = SC then (20, L) else (99, 0), fun a => if a = SC then xs else fun _ => 0, fun _ _ => none)
def K0 (L : Nat) (xs : Nat → Int32) : AH := A00 L xs
theorem K0_1 (L : Nat) (xs : Nat → Int32) : (K0 L xs).1 = (0, 0) := rfl
def K1 (L : Nat) (xs : Nat → Int32) : AH := nw (K0 L xs) (4, 0) 8
theorem K1_1 (L : Nat) (xs : Nat → Int32) : (K1 L xs).1 = (1, 8) := congrArg (fun q : Nat × Nat => (q.1 + 1, q.2 + 8)) (K0_1 L xs)
def K2 (L : Nat) (xs : Nat → Int32) : AH := nw (K1 L xs) (2, 0) 13
theorem K2_1 (L : Nat) (xs : Nat → Int32) : (K2 L xs).1 = (2, 21) := congrArg (fun q : Nat × Nat => (q.1 + 1, q.2 + 13)) (K1_1 L xs)
def K3 (L : Nat) (xs : Nat → Int32) : AH := RK (K2 L xs) 1 2 21
theorem K3_1 (L : Nat) (xs : Nat → Int32) : (K3 L xs).1 = (14, 313) := rfl
def K4 (L : Nat) (xs : Nat → Int32) : AH := sR (K3 L xs) 0 0 (some 1)
theorem K4_1 (L : Nat) (xs : Nat → Int32) : (K4 L xs).1 = (14, 313) := K3_1 L xs
def K5 (L : Nat) (xs : Nat → Int32) : AH := nw (K4 L xs) (2, 0) 13
theorem K5_1 (L : Nat) (xs : Nat → Int32) : (K5 L xs).1 = (15, 326) := congrArg (fun q : Nat × Nat => (q.1 + 1, q.2 + 13)) (K4_1 L xs)
def K6 (L : Nat) (xs : Nat → Int32) : AH := RK (K5 L xs) 14 15 326
theorem K6_1 (L : Nat) (xs : Nat → Int32) : (K6 L xs).1 = (27, 618) := rfl
def K7 (L : Nat) (xs : Nat → Int32) : AH := sR (K6 L xs) 0 1 (some 14)
theorem K7_1 (L : Nat) (xs : Nat → Int32) : (K7 L xs).1 = (27, 618) := K6_1 L xs
def K8 (L : Nat) (xs : Nat → Int32) : AH := sI (K7 L xs) 0 2 (nI 0)
theorem K8_1 (L : Nat) (xs : Nat → Int32) : (K8 L xs).1 = (27, 618) := K7_1 L xs
def K9 (L : Nat) (xs : Nat → Int32) : AH := nw (K8 L xs) (0, 0) 2
theorem K9_1 (L : Nat) (xs : Nat → Int32) : (K9 L xs).1 = (28, 620) := congrArg (fun q : Nat × Nat => (q.1 + 1, q.2 + 2)) (K8_1 L xs)
def K10 (L : Nat) (xs : Nat → Int32) : AH := nw (K9 L xs) (13, 4) 4
theorem K10_1 (L : Nat) (xs : Nat → Int32) : (K10 L xs).1 = (29, 624) := congrArg (fun q : Nat × Nat => (q.1 + 1, q.2 + 4)) (K9_1 L xs)
def K11 (L : Nat) (xs : Nat → Int32) : AH := sR (K10 L xs) 27 0 (some 28)
theorem K11_1 (L : Nat) (xs : Nat → Int32) : (K11 L xs).1 = (29, 624) := K10_1 L xs
def K12 (L : Nat) (xs : Nat → Int32) : AH := sI (K11 L xs) 27 1 (nI 0)
theorem K12_1 (L : Nat) (xs : Nat → Int32) : (K12 L xs).1 = (29, 624) := K11_1 L xs
def K13 (L : Nat) (xs : Nat → Int32) : AH := nw (K12 L xs) (2, 0) 13
theorem K13_1 (L : Nat) (xs : Nat → Int32) : (K13 L xs).1 = (30, 637) := congrArg (fun q : Nat × Nat => (q.1 + 1, q.2 + 13)) (K12_1 L xs)
def K14 (L : Nat) (xs : Nat → Int32) : AH := RK (K13 L xs) 29 30 637
theorem K14_1 (L : Nat) (xs : Nat → Int32) : (K14 L xs).1 = (42, 929) := rfl
def K15 (L : Nat) (xs : Nat → Int32) : AH := sR (K14 L xs) 28 0 (some 29)
theorem K15_1 (L : Nat) (xs : Nat → Int32) : (K15 L xs).1 = (42, 929) := K14_1 L xs
def K16 (L : Nat) (xs : Nat → Int32) : AH := nw (K15 L xs) (2, 0) 13
theorem K16_1 (L : Nat) (xs : Nat → Int32) : (K16 L xs).1 = (43, 942) := congrArg (fun q : Nat × Nat => (q.1 + 1, q.2 + 13)) (K15_1 L xs)
def K17 (L : Nat) (xs : Nat → Int32) : AH := RK (K16 L xs) 42 43 942
theorem K17_1 (L : Nat) (xs : Nat → Int32) : (K17 L xs).1 = (55, 1234) := rfl
def K18 (L : Nat) (xs : Nat → Int32) : AH := sR (K17 L xs) 28 1 (some 42)
theorem K18_1 (L : Nat) (xs : Nat → Int32) : (K18 L xs).1 = (55, 1234) := K17_1 L xs
def K19 (L : Nat) (xs : Nat → Int32) : AH := nw (K18 L xs) (2, 0) 13
theorem K19_1 (L : Nat) (xs : Nat → Int32) : (K19 L xs).1 = (56, 1247) := congrArg (fun q : Nat × Nat => (q.1 + 1, q.2 + 13)) (K18_1 L xs)
def K20 (L : Nat) (xs : Nat → Int32) : AH := RK (K19 L xs) 55 56 1247
theorem K20_1 (L : Nat) (xs : Nat → Int32) : (K20 L xs).1 = (68, 1539) := rfl
def K21 (L : Nat) (xs : Nat → Int32) : AH := sR (K20 L xs) 28 2 (some 55)
theorem K21_1 (L : Nat) (xs : Nat → Int32) : (K21 L xs).1 = (68, 1539) := K20_1 L xs
def K22 (L : Nat) (xs : Nat → Int32) : AH := nw (K21 L xs) (2, 0) 13
theorem K22_1 (L : Nat) (xs : Nat → Int32) : (K22 L xs).1 = (69, 1552) := congrArg (fun q : Nat × Nat => (q.1 + 1, q.2 + 13)) (K21_1 L xs)
def K23 (L : Nat) (xs : Nat → Int32) : AH := RK (K22 L xs) 68 69 1552
theorem K23_1 (L : Nat) (xs : Nat → Int32) : (K23 L xs).1 = (81, 1844) := rfl
def K24 (L : Nat) (xs : Nat → Int32) : AH := sR (K23 L xs) 28 3 (some 68)
theorem K24_1 (L : Nat) (xs : Nat → Int32) : (K24 L xs).1 = (81, 1844) := K23_1 L xs
def K25 (L : Nat) (xs : Nat → Int32) : AH := sR (K24 L xs) 0 3 (some 27)
theorem K25_1 (L : Nat) (xs : Nat → Int32) : (K25 L xs).1 = (81, 1844) := K24_1 L xs
def K26 (L : Nat) (xs : Nat → Int32) : AH := nw (K25 L xs) (1, 0) 7
theorem K26_1 (L : Nat) (xs : Nat → Int32) : (K26 L xs).1 = (82, 1851) := congrArg (fun q : Nat × Nat => (q.1 + 1, q.2 + 7)) (K25_1 L xs)
def K27 (L : Nat) (xs : Nat → Int32) : AH := nw (K26 L xs) (10, 12) 12
theorem K27_1 (L : Nat) (xs : Nat → Int32) : (K27 L xs).1 = (83, 1863) := congrArg (fun q : Nat × Nat => (q.1 + 1, q.2 + 12)) (K26_1 L xs)
def K28 (L : Nat) (xs : Nat → Int32) : AH := sR (K27 L xs) 81 0 (some 82)
theorem K28_1 (L : Nat) (xs : Nat → Int32) : (K28 L xs).1 = (83, 1863) := K27_1 L xs
def K29 (L : Nat) (xs : Nat → Int32) : AH := nw (K28 L xs) (10, 12) 12
theorem K29_1 (L : Nat) (xs : Nat → Int32) : (K29 L xs).1 = (84, 1875) := congrArg (fun q : Nat × Nat => (q.1 + 1, q.2 + 12)) (K28_1 L xs)
def K30 (L : Nat) (xs : Nat → Int32) : AH := sR (K29 L xs) 81 1 (some 83)
theorem K30_1 (L : Nat) (xs : Nat → Int32) : (K30 L xs).1 = (84, 1875) := K29_1 L xs
def K31 (L : Nat) (xs : Nat → Int32) : AH := nw (K30 L xs) (10, 12) 12
theorem K31_1 (L : Nat) (xs : Nat → Int32) : (K31 L xs).1 = (85, 1887) := congrArg (fun q : Nat × Nat => (q.1 + 1, q.2 + 12)) (K30_1 L xs)
def K32 (L : Nat) (xs : Nat → Int32) : AH := sR (K31 L xs) 81 2 (some 84)
theorem K32_1 (L : Nat) (xs : Nat → Int32) : (K32 L xs).1 = (85, 1887) := K31_1 L xs
def K33 (L : Nat) (xs : Nat → Int32) : AH := nw (K32 L xs) (10, 12) 12
theorem K33_1 (L : Nat) (xs : Nat → Int32) : (K33 L xs).1 = (86, 1899) := congrArg (fun q : Nat × Nat => (q.1 + 1, q.2 + 12)) (K32_1 L xs)
def K34 (L : Nat) (xs : Nat → Int32) : AH := sR (K33 L xs) 81 3 (some 85)
theorem K34_1 (L : Nat) (xs : Nat → Int32) : (K34 L xs).1 = (86, 1899) := K33_1 L xs
def K35 (L : Nat) (xs : Nat → Int32) : AH := nw (K34 L xs) (10, 12) 12
theorem K35_1 (L : Nat) (xs : Nat → Int32) : (K35 L xs).1 = (87, 1911) := congrArg (fun q : Nat × Nat => (q.1 + 1, q.2 + 12)) (K34_1 L xs)
def K36 (L : Nat) (xs : Nat → Int32) : AH := sR (K35 L xs) 81 4 (some 86)
theorem K36_1 (L : Nat) (xs : Nat → Int32) : (K36 L xs).1 = (87, 1911) := K35_1 L xs
def K37 (L : Nat) (xs : Nat → Int32) : AH := nw (K36 L xs) (10, 13) 13
theorem K37_1 (L : Nat) (xs : Nat → Int32) : (K37 L xs).1 = (88, 1924) := congrArg (fun q : Nat × Nat => (q.1 + 1, q.2 + 13)) (K36_1 L xs)
def K38 (L : Nat) (xs : Nat → Int32) : AH := sR (K37 L xs) 81 5 (some 87)
theorem K38_1 (L : Nat) (xs : Nat → Int32) : (K38 L xs).1 = (88, 1924) := K37_1 L xs
def K39 (L : Nat) (xs : Nat → Int32) : AH := sI (K38 L xs) 81 6 (nI 0)
theorem K39_1 (L : Nat) (xs : Nat → Int32) : (K39 L xs).1 = (88, 1924) := K38_1 L xs
def K40 (L : Nat) (xs : Nat → Int32) : AH := sR (K39 L xs) 0 4 (some 81)
theorem K40_1 (L : Nat) (xs : Nat → Int32) : (K40 L xs).1 = (88, 1924) := K39_1 L xs
def K41 (L : Nat) (xs : Nat → Int32) : AH := nw (K40 L xs) (3, 0) 8
theorem K41_1 (L : Nat) (xs : Nat → Int32) : (K41 L xs).1 = (89, 1932) := congrArg (fun q : Nat × Nat => (q.1 + 1, q.2 + 8)) (K40_1 L xs)
def K42 (L : Nat) (xs : Nat → Int32) : AH := nw (K41 L xs) (2, 0) 13
theorem K42_1 (L : Nat) (xs : Nat → Int32) : (K42 L xs).1 = (90, 1945) := congrArg (fun q : Nat × Nat => (q.1 + 1, q.2 + 13)) (K41_1 L xs)
def K43 (L : Nat) (xs : Nat → Int32) : AH := RK (K42 L xs) 89 90 1945
theorem K43_1 (L : Nat) (xs : Nat → Int32) : (K43 L xs).1 = (102, 2237) := rfl
def K44 (L : Nat) (xs : Nat → Int32) : AH := sR (K43 L xs) 88 0 (some 89)
theorem K44_1 (L : Nat) (xs : Nat → Int32) : (K44 L xs).1 = (102, 2237) := K43_1 L xs
def K45 (L : Nat) (xs : Nat → Int32) : AH := sI (K44 L xs) 88 1 (nI 0)
theorem K45_1 (L : Nat) (xs : Nat → Int32) : (K45 L xs).1 = (102, 2237) := K44_1 L xs
def K46 (L : Nat) (xs : Nat → Int32) : AH := sI (K45 L xs) 88 2 (nI 0)
theorem K46_1 (L : Nat) (xs : Nat → Int32) : (K46 L xs).1 = (102, 2237) := K45_1 L xs
def K47 (L : Nat) (xs : Nat → Int32) : AH := sI (K46 L xs) 88 3 (nI 0)
theorem K47_1 (L : Nat) (xs : Nat → Int32) : (K47 L xs).1 = (102, 2237) := K46_1 L xs
def K48 (L : Nat) (xs : Nat → Int32) : AH := nw (K47 L xs) (10, 6) 6
theorem K48_1 (L : Nat) (xs : Nat → Int32) : (K48 L xs).1 = (103, 2243) := congrArg (fun q : Nat × Nat => (q.1 + 1, q.2 + 6)) (K47_1 L xs)
def K49 (L : Nat) (xs : Nat → Int32) : AH := sR (K48 L xs) 88 4 (some 102)
theorem K49_1 (L : Nat) (xs : Nat → Int32) : (K49 L xs).1 = (103, 2243) := K48_1 L xs
def K50 (L : Nat) (xs : Nat → Int32) : AH := nw (K49 L xs) (10, 6) 6
theorem K50_1 (L : Nat) (xs : Nat → Int32) : (K50 L xs).1 = (104, 2249) := congrArg (fun q : Nat × Nat => (q.1 + 1, q.2 + 6)) (K49_1 L xs)
def K51 (L : Nat) (xs : Nat → Int32) : AH := sR (K50 L xs) 88 5 (some 103)
theorem K51_1 (L : Nat) (xs : Nat → Int32) : (K51 L xs).1 = (104, 2249) := K50_1 L xs
def K52 (L : Nat) (xs : Nat → Int32) : AH := sI (K51 L xs) 88 6 (nI 0)
theorem K52_1 (L : Nat) (xs : Nat → Int32) : (K52 L xs).1 = (104, 2249) := K51_1 L xs
def K53 (L : Nat) (xs : Nat → Int32) : AH := sI (K52 L xs) 88 7 (nI 0)
theorem K53_1 (L : Nat) (xs : Nat → Int32) : (K53 L xs).1 = (104, 2249) := K52_1 L xs
def K54 (L : Nat) (xs : Nat → Int32) : AH := sR (K53 L xs) 0 5 (some 88)
theorem K54_1 (L : Nat) (xs : Nat → Int32) : (K54 L xs).1 = (104, 2249) := K53_1 L xs
def K55 (L : Nat) (xs : Nat → Int32) : AH := nw (K54 L xs) (11, 80) 80
theorem K55_1 (L : Nat) (xs : Nat → Int32) : (K55 L xs).1 = (105, 2329) := congrArg (fun q : Nat × Nat => (q.1 + 1, q.2 + 80)) (K54_1 L xs)
def K56 (L : Nat) (xs : Nat → Int32) : AH := sR (K55 L xs) 0 6 (some 104)
theorem K56_1 (L : Nat) (xs : Nat → Int32) : (K56 L xs).1 = (105, 2329) := K55_1 L xs
def K57 (L : Nat) (xs : Nat → Int32) : AH := sI (K56 L xs) 0 7 (nI 0)
theorem K57_1 (L : Nat) (xs : Nat → Int32) : (K57 L xs).1 = (105, 2329) := K56_1 L xs
/-! rows from 105 on, and references from 20 on, stay as they were -/
def Hi (L : Nat) (A : AH) : Prop := (∀ k, 105 ≤ k → A.2.1 k = if k = SC then (20, L) else (99, 0)) ∧ ∀ a i, 105 ≤ a ∨ 20 ≤ i → A.2.2.2 a i = none
theorem hi_nw {L : Nat} {A : AH} {t : Nat × Nat} {w : Nat} (h : Hi L A) (h1 : A.1.1 < 105) : Hi L (nw A t w) := by
  refine ⟨fun k hk => ?_, fun a i ha => ?_⟩
  · show (if k = A.1.1 then t else A.2.1 k) = _
    rw [if_neg (by omega)]
    exact h.1 k hk
  · show (if a = A.1.1 then none else A.2.2.2 a i) = _
    rw [h.2 a i ha]
    split <;> rfl
theorem hi_sI {L : Nat} {A : AH} {r j : Nat} {x : Int32} (h : Hi L A) : Hi L (sI A r j x) := h
theorem hi_sR {L : Nat} {A : AH} {r j : Nat} {x : Option Nat} (h : Hi L A) (h1 : r < 105) (h2 : j < 20) : Hi L (sR A r j x) := by
  refine ⟨h.1, fun a i ha => ?_⟩
  show (if a = r then (if i = j then x else A.2.2.2 r i) else A.2.2.2 a i) = _
  by_cases e : a = r
  · subst e
    rw [if_pos rfl, if_neg (by omega), h.2 a i ha]
  · rw [if_neg e, h.2 a i ha]
theorem hi_rk {L : Nat} {A : AH} {r c w : Nat} (h : Hi L A) (h1 : r < c) (h2 : c + 12 ≤ 105) : Hi L (RK A r c w) := by
  refine ⟨fun k hk => ?_, fun a i ha => ?_⟩
  · show (if c ≤ k ∧ k < c + 12 then _ else A.2.1 k) = _
    rw [if_neg (by omega)]
    exact h.1 k hk
  · show (if c ≤ a ∧ a < c + 12 then none else if a = r ∧ i < 12 then some (c + i) else A.2.2.2 a i) = _
    rw [h.2 a i ha]
    split
    next => rfl
    next =>
      rw [if_neg (by omega)]
theorem K0_h (L : Nat) (xs : Nat → Int32) : Hi L (K0 L xs) := ⟨fun _ _ => rfl, fun _ _ _ => rfl⟩
theorem K1_h (L : Nat) (xs : Nat → Int32) : Hi L (K1 L xs) := hi_nw (K0_h L xs) (by rw [K0_1]; decide)
theorem K2_h (L : Nat) (xs : Nat → Int32) : Hi L (K2 L xs) := hi_nw (K1_h L xs) (by rw [K1_1]; decide)
theorem K3_h (L : Nat) (xs : Nat → Int32) : Hi L (K3 L xs) := hi_rk (K2_h L xs) (by decide) (by decide)
theorem K4_h (L : Nat) (xs : Nat → Int32) : Hi L (K4 L xs) := hi_sR (K3_h L xs) (by decide) (by decide)
theorem K5_h (L : Nat) (xs : Nat → Int32) : Hi L (K5 L xs) := hi_nw (K4_h L xs) (by rw [K4_1]; decide)
theorem K6_h (L : Nat) (xs : Nat → Int32) : Hi L (K6 L xs) := hi_rk (K5_h L xs) (by decide) (by decide)
theorem K7_h (L : Nat) (xs : Nat → Int32) : Hi L (K7 L xs) := hi_sR (K6_h L xs) (by decide) (by decide)
theorem K8_h (L : Nat) (xs : Nat → Int32) : Hi L (K8 L xs) := hi_sI (K7_h L xs)
theorem K9_h (L : Nat) (xs : Nat → Int32) : Hi L (K9 L xs) := hi_nw (K8_h L xs) (by rw [K8_1]; decide)
theorem K10_h (L : Nat) (xs : Nat → Int32) : Hi L (K10 L xs) := hi_nw (K9_h L xs) (by rw [K9_1]; decide)
theorem K11_h (L : Nat) (xs : Nat → Int32) : Hi L (K11 L xs) := hi_sR (K10_h L xs) (by decide) (by decide)
theorem K12_h (L : Nat) (xs : Nat → Int32) : Hi L (K12 L xs) := hi_sI (K11_h L xs)
theorem K13_h (L : Nat) (xs : Nat → Int32) : Hi L (K13 L xs) := hi_nw (K12_h L xs) (by rw [K12_1]; decide)
theorem K14_h (L : Nat) (xs : Nat → Int32) : Hi L (K14 L xs) := hi_rk (K13_h L xs) (by decide) (by decide)
theorem K15_h (L : Nat) (xs : Nat → Int32) : Hi L (K15 L xs) := hi_sR (K14_h L xs) (by decide) (by decide)
theorem K16_h (L : Nat) (xs : Nat → Int32) : Hi L (K16 L xs) := hi_nw (K15_h L xs) (by rw [K15_1]; decide)
theorem K17_h (L : Nat) (xs : Nat → Int32) : Hi L (K17 L xs) := hi_rk (K16_h L xs) (by decide) (by decide)
theorem K18_h (L : Nat) (xs : Nat → Int32) : Hi L (K18 L xs) := hi_sR (K17_h L xs) (by decide) (by decide)
theorem K19_h (L : Nat) (xs : Nat → Int32) : Hi L (K19 L xs) := hi_nw (K18_h L xs) (by rw [K18_1]; decide)
theorem K20_h (L : Nat) (xs : Nat → Int32) : Hi L (K20 L xs) := hi_rk (K19_h L xs) (by decide) (by decide)
theorem K21_h (L : Nat) (xs : Nat → Int32) : Hi L (K21 L xs) := hi_sR (K20_h L xs) (by decide) (by decide)
theorem K22_h (L : Nat) (xs : Nat → Int32) : Hi L (K22 L xs) := hi_nw (K21_h L xs) (by rw [K21_1]; decide)
theorem K23_h (L : Nat) (xs : Nat → Int32) : Hi L (K23 L xs) := hi_rk (K22_h L xs) (by decide) (by decide)
theorem K24_h (L : Nat) (xs : Nat → Int32) : Hi L (K24 L xs) := hi_sR (K23_h L xs) (by decide) (by decide)
theorem K25_h (L : Nat) (xs : Nat → Int32) : Hi L (K25 L xs) := hi_sR (K24_h L xs) (by decide) (by decide)
theorem K26_h (L : Nat) (xs : Nat → Int32) : Hi L (K26 L xs) := hi_nw (K25_h L xs) (by rw [K25_1]; decide)
theorem K27_h (L : Nat) (xs : Nat → Int32) : Hi L (K27 L xs) := hi_nw (K26_h L xs) (by rw [K26_1]; decide)
theorem K28_h (L : Nat) (xs : Nat → Int32) : Hi L (K28 L xs) := hi_sR (K27_h L xs) (by decide) (by decide)
theorem K29_h (L : Nat) (xs : Nat → Int32) : Hi L (K29 L xs) := hi_nw (K28_h L xs) (by rw [K28_1]; decide)
theorem K30_h (L : Nat) (xs : Nat → Int32) : Hi L (K30 L xs) := hi_sR (K29_h L xs) (by decide) (by decide)
theorem K31_h (L : Nat) (xs : Nat → Int32) : Hi L (K31 L xs) := hi_nw (K30_h L xs) (by rw [K30_1]; decide)
theorem K32_h (L : Nat) (xs : Nat → Int32) : Hi L (K32 L xs) := hi_sR (K31_h L xs) (by decide) (by decide)
theorem K33_h (L : Nat) (xs : Nat → Int32) : Hi L (K33 L xs) := hi_nw (K32_h L xs) (by rw [K32_1]; decide)
theorem K34_h (L : Nat) (xs : Nat → Int32) : Hi L (K34 L xs) := hi_sR (K33_h L xs) (by decide) (by decide)
theorem K35_h (L : Nat) (xs : Nat → Int32) : Hi L (K35 L xs) := hi_nw (K34_h L xs) (by rw [K34_1]; decide)
theorem K36_h (L : Nat) (xs : Nat → Int32) : Hi L (K36 L xs) := hi_sR (K35_h L xs) (by decide) (by decide)
theorem K37_h (L : Nat) (xs : Nat → Int32) : Hi L (K37 L xs) := hi_nw (K36_h L xs) (by rw [K36_1]; decide)
theorem K38_h (L : Nat) (xs : Nat → Int32) : Hi L (K38 L xs) := hi_sR (K37_h L xs) (by decide) (by decide)
theorem K39_h (L : Nat) (xs : Nat → Int32) : Hi L (K39 L xs) := hi_sI (K38_h L xs)
theorem K40_h (L : Nat) (xs : Nat → Int32) : Hi L (K40 L xs) := hi_sR (K39_h L xs) (by decide) (by decide)
theorem K41_h (L : Nat) (xs : Nat → Int32) : Hi L (K41 L xs) := hi_nw (K40_h L xs) (by rw [K40_1]; decide)
theorem K42_h (L : Nat) (xs : Nat → Int32) : Hi L (K42 L xs) := hi_nw (K41_h L xs) (by rw [K41_1]; decide)
theorem K43_h (L : Nat) (xs : Nat → Int32) : Hi L (K43 L xs) := hi_rk (K42_h L xs) (by decide) (by decide)
theorem K44_h (L : Nat) (xs : Nat → Int32) : Hi L (K44 L xs) := hi_sR (K43_h L xs) (by decide) (by decide)
theorem K45_h (L : Nat) (xs : Nat → Int32) : Hi L (K45 L xs) := hi_sI (K44_h L xs)
theorem K46_h (L : Nat) (xs : Nat → Int32) : Hi L (K46 L xs) := hi_sI (K45_h L xs)
theorem K47_h (L : Nat) (xs : Nat → Int32) : Hi L (K47 L xs) := hi_sI (K46_h L xs)
theorem K48_h (L : Nat) (xs : Nat → Int32) : Hi L (K48 L xs) := hi_nw (K47_h L xs) (by rw [K47_1]; decide)
theorem K49_h (L : Nat) (xs : Nat → Int32) : Hi L (K49 L xs) := hi_sR (K48_h L xs) (by decide) (by decide)
theorem K50_h (L : Nat) (xs : Nat → Int32) : Hi L (K50 L xs) := hi_nw (K49_h L xs) (by rw [K49_1]; decide)
theorem K51_h (L : Nat) (xs : Nat → Int32) : Hi L (K51 L xs) := hi_sR (K50_h L xs) (by decide) (by decide)
theorem K52_h (L : Nat) (xs : Nat → Int32) : Hi L (K52 L xs) := hi_sI (K51_h L xs)
theorem K53_h (L : Nat) (xs : Nat → Int32) : Hi L (K53 L xs) := hi_sI (K52_h L xs)
theorem K54_h (L : Nat) (xs : Nat → Int32) : Hi L (K54 L xs) := hi_sR (K53_h L xs) (by decide) (by decide)
theorem K55_h (L : Nat) (xs : Nat → Int32) : Hi L (K55 L xs) := hi_nw (K54_h L xs) (by rw [K54_1]; decide)
theorem K56_h (L : Nat) (xs : Nat → Int32) : Hi L (K56 L xs) := hi_sR (K55_h L xs) (by decide) (by decide)
theorem K57_h (L : Nat) (xs : Nat → Int32) : Hi L (K57 L xs) := hi_sI (K56_h L xs)
theorem cn_5 (L : Nat) (xs : Nat → Int32) : zsem 18 5 0 [.inr (.inl (some 27)), .inr (.inl none)] [] (K9 L xs) = some (none, (K24 L xs)) := by
  rw [e5_0]
  rw [e5_1]
  rw [e5_4]
  rw [e5_5]
  rw [e5_6 (h0 := by decide) (h1 := by decide) (h := by rw [K9_1]; decide), show (nI 4).toNatClampNeg = 4 from nI_clamp (by decide)]
  show zsem 18 5 9 [.inr (.inl (some 27)), .inr (.inl none)] [.inr (.inl (some 28)), .inr (.inl (some 27))] (K10 L xs) = _
  rw [e5_9 (h := by rfl)]
  show zsem 18 5 12 [.inr (.inl (some 27)), .inr (.inl none)] [] (K11 L xs) = _
  rw [e5_12]
  rw [e5_13]
  rw [e5_14 (h := by rfl)]
  show zsem 18 5 17 [.inr (.inl (some 27)), .inr (.inl none)] [] (K12 L xs) = _
  rw [e5_17]
  rw [e5_18]
  rw [e5_19]
  rw [e5_20]
  rw [e5_21, if_neg (by decide)]
  rw [e5_24]
  rw [e5_25 (h := by rfl)]
  show zsem 18 5 28 [.inr (.inl (some 27)), .inl (nI 0)] [.inr (.inl (some 28))] (K12 L xs) = _
  rw [e5_28]
  rw [e5_29 (h := by rw [K12_1]; decide)]
  show zsem 18 5 32 [.inr (.inl (some 27)), .inl (nI 0)] [.inr (.inl (some 29)), .inl (nI 0), .inr (.inl (some 28))] (K13 L xs) = _
  rw [e5_32]
  rw [e5_33, show zsem 17 2 0 [.inr (.inl (some 29))] [] (K13 L xs) = some (none, (K14 L xs)) from z_rackNew 15 (K13 L xs) 29 30 637 (K13_1 L xs) (by decide) (by decide) rfl]
  show zsem 18 5 36 [.inr (.inl (some 27)), .inl (nI 0)] [.inr (.inl (some 29)), .inl (nI 0), .inr (.inl (some 28))] (K14 L xs) = _
  rw [e5_36 (h := by rfl) (hv := by rfl) (h0 := by decide) (h1 := by show _ < 4; decide), show (nI 0).toNatClampNeg = 0 from nI_clamp (by decide)]
  show zsem 18 5 37 [.inr (.inl (some 27)), .inl (nI 0)] [] (K15 L xs) = _
  rw [e5_37, show ((nI 0) + nI 1 : Int32) = nI 1 from by decide]
  rw [e5_40]
  rw [e5_19]
  rw [e5_20]
  rw [e5_21, if_neg (by decide)]
  rw [e5_24]
  rw [e5_25 (h := by rfl)]
  show zsem 18 5 28 [.inr (.inl (some 27)), .inl (nI 1)] [.inr (.inl (some 28))] (K15 L xs) = _
  rw [e5_28]
  rw [e5_29 (h := by rw [K15_1]; decide)]
  show zsem 18 5 32 [.inr (.inl (some 27)), .inl (nI 1)] [.inr (.inl (some 42)), .inl (nI 1), .inr (.inl (some 28))] (K16 L xs) = _
  rw [e5_32]
  rw [e5_33, show zsem 17 2 0 [.inr (.inl (some 42))] [] (K16 L xs) = some (none, (K17 L xs)) from z_rackNew 15 (K16 L xs) 42 43 942 (K16_1 L xs) (by decide) (by decide) rfl]
  show zsem 18 5 36 [.inr (.inl (some 27)), .inl (nI 1)] [.inr (.inl (some 42)), .inl (nI 1), .inr (.inl (some 28))] (K17 L xs) = _
  rw [e5_36 (h := by rfl) (hv := by rfl) (h0 := by decide) (h1 := by show _ < 4; decide), show (nI 1).toNatClampNeg = 1 from nI_clamp (by decide)]
  show zsem 18 5 37 [.inr (.inl (some 27)), .inl (nI 1)] [] (K18 L xs) = _
  rw [e5_37, show ((nI 1) + nI 1 : Int32) = nI 2 from by decide]
  rw [e5_40]
  rw [e5_19]
  rw [e5_20]
  rw [e5_21, if_neg (by decide)]
  rw [e5_24]
  rw [e5_25 (h := by rfl)]
  show zsem 18 5 28 [.inr (.inl (some 27)), .inl (nI 2)] [.inr (.inl (some 28))] (K18 L xs) = _
  rw [e5_28]
  rw [e5_29 (h := by rw [K18_1]; decide)]
  show zsem 18 5 32 [.inr (.inl (some 27)), .inl (nI 2)] [.inr (.inl (some 55)), .inl (nI 2), .inr (.inl (some 28))] (K19 L xs) = _
  rw [e5_32]
  rw [e5_33, show zsem 17 2 0 [.inr (.inl (some 55))] [] (K19 L xs) = some (none, (K20 L xs)) from z_rackNew 15 (K19 L xs) 55 56 1247 (K19_1 L xs) (by decide) (by decide) rfl]
  show zsem 18 5 36 [.inr (.inl (some 27)), .inl (nI 2)] [.inr (.inl (some 55)), .inl (nI 2), .inr (.inl (some 28))] (K20 L xs) = _
  rw [e5_36 (h := by rfl) (hv := by rfl) (h0 := by decide) (h1 := by show _ < 4; decide), show (nI 2).toNatClampNeg = 2 from nI_clamp (by decide)]
  show zsem 18 5 37 [.inr (.inl (some 27)), .inl (nI 2)] [] (K21 L xs) = _
  rw [e5_37, show ((nI 2) + nI 1 : Int32) = nI 3 from by decide]
  rw [e5_40]
  rw [e5_19]
  rw [e5_20]
  rw [e5_21, if_neg (by decide)]
  rw [e5_24]
  rw [e5_25 (h := by rfl)]
  show zsem 18 5 28 [.inr (.inl (some 27)), .inl (nI 3)] [.inr (.inl (some 28))] (K21 L xs) = _
  rw [e5_28]
  rw [e5_29 (h := by rw [K21_1]; decide)]
  show zsem 18 5 32 [.inr (.inl (some 27)), .inl (nI 3)] [.inr (.inl (some 68)), .inl (nI 3), .inr (.inl (some 28))] (K22 L xs) = _
  rw [e5_32]
  rw [e5_33, show zsem 17 2 0 [.inr (.inl (some 68))] [] (K22 L xs) = some (none, (K23 L xs)) from z_rackNew 15 (K22 L xs) 68 69 1552 (K22_1 L xs) (by decide) (by decide) rfl]
  show zsem 18 5 36 [.inr (.inl (some 27)), .inl (nI 3)] [.inr (.inl (some 68)), .inl (nI 3), .inr (.inl (some 28))] (K23 L xs) = _
  rw [e5_36 (h := by rfl) (hv := by rfl) (h0 := by decide) (h1 := by show _ < 4; decide), show (nI 3).toNatClampNeg = 3 from nI_clamp (by decide)]
  show zsem 18 5 37 [.inr (.inl (some 27)), .inl (nI 3)] [] (K24 L xs) = _
  rw [e5_37, show ((nI 3) + nI 1 : Int32) = nI 4 from by decide]
  rw [e5_40]
  rw [e5_19]
  rw [e5_20]
  rw [e5_21, if_pos (by decide)]
  rw [e5_43]
theorem cn_6 (L : Nat) (xs : Nat → Int32) : zsem 18 6 0 [.inr (.inl (some 81))] [] (K26 L xs) = some (none, (K39 L xs)) := by
  rw [e6_0]
  rw [e6_1]
  rw [e6_4]
  rw [e6_5]
  rw [e6_7 (h0 := by decide) (h1 := by decide) (h := by rw [K26_1]; decide), show (nI 12).toNatClampNeg = 12 from nI_clamp (by decide)]
  show zsem 18 6 9 [.inr (.inl (some 81))] [.inr (.inl (some 82)), .inr (.inl (some 81))] (K27 L xs) = _
  rw [e6_9 (h := by rfl)]
  show zsem 18 6 12 [.inr (.inl (some 81))] [] (K28 L xs) = _
  rw [e6_12]
  rw [e6_13]
  rw [e6_15 (h0 := by decide) (h1 := by decide) (h := by rw [K28_1]; decide), show (nI 12).toNatClampNeg = 12 from nI_clamp (by decide)]
  show zsem 18 6 17 [.inr (.inl (some 81))] [.inr (.inl (some 83)), .inr (.inl (some 81))] (K29 L xs) = _
  rw [e6_17 (h := by rfl)]
  show zsem 18 6 20 [.inr (.inl (some 81))] [] (K30 L xs) = _
  rw [e6_20]
  rw [e6_21]
  rw [e6_23 (h0 := by decide) (h1 := by decide) (h := by rw [K30_1]; decide), show (nI 12).toNatClampNeg = 12 from nI_clamp (by decide)]
  show zsem 18 6 25 [.inr (.inl (some 81))] [.inr (.inl (some 84)), .inr (.inl (some 81))] (K31 L xs) = _
  rw [e6_25 (h := by rfl)]
  show zsem 18 6 28 [.inr (.inl (some 81))] [] (K32 L xs) = _
  rw [e6_28]
  rw [e6_29]
  rw [e6_31 (h0 := by decide) (h1 := by decide) (h := by rw [K32_1]; decide), show (nI 12).toNatClampNeg = 12 from nI_clamp (by decide)]
  show zsem 18 6 33 [.inr (.inl (some 81))] [.inr (.inl (some 85)), .inr (.inl (some 81))] (K33 L xs) = _
  rw [e6_33 (h := by rfl)]
  show zsem 18 6 36 [.inr (.inl (some 81))] [] (K34 L xs) = _
  rw [e6_36]
  rw [e6_37]
  rw [e6_39 (h0 := by decide) (h1 := by decide) (h := by rw [K34_1]; decide), show (nI 12).toNatClampNeg = 12 from nI_clamp (by decide)]
  show zsem 18 6 41 [.inr (.inl (some 81))] [.inr (.inl (some 86)), .inr (.inl (some 81))] (K35 L xs) = _
  rw [e6_41 (h := by rfl)]
  show zsem 18 6 44 [.inr (.inl (some 81))] [] (K36 L xs) = _
  rw [e6_44]
  rw [e6_45]
  rw [e6_47 (h0 := by decide) (h1 := by decide) (h := by rw [K36_1]; decide), show (nI 13).toNatClampNeg = 13 from nI_clamp (by decide)]
  show zsem 18 6 49 [.inr (.inl (some 81))] [.inr (.inl (some 87)), .inr (.inl (some 81))] (K37 L xs) = _
  rw [e6_49 (h := by rfl)]
  show zsem 18 6 52 [.inr (.inl (some 81))] [] (K38 L xs) = _
  rw [e6_52]
  rw [e6_53]
  rw [e6_54 (h := by rfl)]
  show zsem 18 6 57 [.inr (.inl (some 81))] [] (K39 L xs) = _
  rw [e6_57]
theorem cn_7 (L : Nat) (xs : Nat → Int32) : zsem 18 7 0 [.inr (.inl (some 88))] [] (K41 L xs) = some (none, (K53 L xs)) := by
  rw [e7_0]
  rw [e7_1]
  rw [e7_4]
  rw [e7_5 (h := by rw [K41_1]; decide)]
  show zsem 18 7 8 [.inr (.inl (some 88))] [.inr (.inl (some 89)), .inr (.inl (some 88))] (K42 L xs) = _
  rw [e7_8]
  rw [e7_9, show zsem 17 2 0 [.inr (.inl (some 89))] [] (K42 L xs) = some (none, (K43 L xs)) from z_rackNew 15 (K42 L xs) 89 90 1945 (K42_1 L xs) (by decide) (by decide) rfl]
  show zsem 18 7 12 [.inr (.inl (some 88))] [.inr (.inl (some 89)), .inr (.inl (some 88))] (K43 L xs) = _
  rw [e7_12 (h := by rfl)]
  show zsem 18 7 15 [.inr (.inl (some 88))] [] (K44 L xs) = _
  rw [e7_15]
  rw [e7_16]
  rw [e7_17 (h := by rfl)]
  show zsem 18 7 20 [.inr (.inl (some 88))] [] (K45 L xs) = _
  rw [e7_20]
  rw [e7_21]
  rw [e7_22 (h := by rfl)]
  show zsem 18 7 25 [.inr (.inl (some 88))] [] (K46 L xs) = _
  rw [e7_25]
  rw [e7_26]
  rw [e7_27 (h := by rfl)]
  show zsem 18 7 30 [.inr (.inl (some 88))] [] (K47 L xs) = _
  rw [e7_30]
  rw [e7_31]
  rw [e7_33 (h0 := by decide) (h1 := by decide) (h := by rw [K47_1]; decide), show (nI 6).toNatClampNeg = 6 from nI_clamp (by decide)]
  show zsem 18 7 35 [.inr (.inl (some 88))] [.inr (.inl (some 102)), .inr (.inl (some 88))] (K48 L xs) = _
  rw [e7_35 (h := by rfl)]
  show zsem 18 7 38 [.inr (.inl (some 88))] [] (K49 L xs) = _
  rw [e7_38]
  rw [e7_39]
  rw [e7_41 (h0 := by decide) (h1 := by decide) (h := by rw [K49_1]; decide), show (nI 6).toNatClampNeg = 6 from nI_clamp (by decide)]
  show zsem 18 7 43 [.inr (.inl (some 88))] [.inr (.inl (some 103)), .inr (.inl (some 88))] (K50 L xs) = _
  rw [e7_43 (h := by rfl)]
  show zsem 18 7 46 [.inr (.inl (some 88))] [] (K51 L xs) = _
  rw [e7_46]
  rw [e7_47]
  rw [e7_48 (h := by rfl)]
  show zsem 18 7 51 [.inr (.inl (some 88))] [] (K52 L xs) = _
  rw [e7_51]
  rw [e7_52]
  rw [e7_53 (h := by rfl)]
  show zsem 18 7 56 [.inr (.inl (some 88))] [] (K53 L xs) = _
  rw [e7_56]
theorem cn_0 (L : Nat) (xs : Nat → Int32) : zsem 19 0 0 [.inr (.inl (some 0))] [] (K1 L xs) = some (none, (K57 L xs)) := by
  rw [e0_0]
  rw [e0_1]
  rw [e0_4]
  rw [e0_5 (h := by rw [K1_1]; decide)]
  show zsem 19 0 8 [.inr (.inl (some 0))] [.inr (.inl (some 1)), .inr (.inl (some 0))] (K2 L xs) = _
  rw [e0_8]
  rw [e0_9, show zsem 18 2 0 [.inr (.inl (some 1))] [] (K2 L xs) = some (none, (K3 L xs)) from z_rackNew 16 (K2 L xs) 1 2 21 (K2_1 L xs) (by decide) (by decide) rfl]
  show zsem 19 0 12 [.inr (.inl (some 0))] [.inr (.inl (some 1)), .inr (.inl (some 0))] (K3 L xs) = _
  rw [e0_12 (h := by rfl)]
  show zsem 19 0 15 [.inr (.inl (some 0))] [] (K4 L xs) = _
  rw [e0_15]
  rw [e0_16 (h := by rw [K4_1]; decide)]
  show zsem 19 0 19 [.inr (.inl (some 0))] [.inr (.inl (some 14)), .inr (.inl (some 0))] (K5 L xs) = _
  rw [e0_19]
  rw [e0_20, show zsem 18 2 0 [.inr (.inl (some 14))] [] (K5 L xs) = some (none, (K6 L xs)) from z_rackNew 16 (K5 L xs) 14 15 326 (K5_1 L xs) (by decide) (by decide) rfl]
  show zsem 19 0 23 [.inr (.inl (some 0))] [.inr (.inl (some 14)), .inr (.inl (some 0))] (K6 L xs) = _
  rw [e0_23 (h := by rfl)]
  show zsem 19 0 26 [.inr (.inl (some 0))] [] (K7 L xs) = _
  rw [e0_26]
  rw [e0_27]
  rw [e0_28 (h := by rfl) (h2 := by rfl)]
  show zsem 19 0 31 [.inr (.inl (some 0))] [] (K8 L xs) = _
  rw [e0_31]
  rw [e0_32 (h := by rw [K8_1]; decide)]
  show zsem 19 0 35 [.inr (.inl (some 0))] [.inr (.inl (some 27)), .inr (.inl (some 0))] (K9 L xs) = _
  rw [e0_35]
  rw [e0_36, cn_5 L xs]
  show zsem 19 0 39 [.inr (.inl (some 0))] [.inr (.inl (some 27)), .inr (.inl (some 0))] (K24 L xs) = _
  rw [e0_39 (h := by rfl)]
  show zsem 19 0 42 [.inr (.inl (some 0))] [] (K25 L xs) = _
  rw [e0_42]
  rw [e0_43 (h := by rw [K25_1]; decide)]
  show zsem 19 0 46 [.inr (.inl (some 0))] [.inr (.inl (some 81)), .inr (.inl (some 0))] (K26 L xs) = _
  rw [e0_46]
  rw [e0_47, cn_6 L xs]
  show zsem 19 0 50 [.inr (.inl (some 0))] [.inr (.inl (some 81)), .inr (.inl (some 0))] (K39 L xs) = _
  rw [e0_50 (h := by rfl)]
  show zsem 19 0 53 [.inr (.inl (some 0))] [] (K40 L xs) = _
  rw [e0_53]
  rw [e0_54 (h := by rw [K40_1]; decide)]
  show zsem 19 0 57 [.inr (.inl (some 0))] [.inr (.inl (some 88)), .inr (.inl (some 0))] (K41 L xs) = _
  rw [e0_57]
  rw [e0_58, cn_7 L xs]
  show zsem 19 0 61 [.inr (.inl (some 0))] [.inr (.inl (some 88)), .inr (.inl (some 0))] (K53 L xs) = _
  rw [e0_61 (h := by rfl)]
  show zsem 19 0 64 [.inr (.inl (some 0))] [] (K54 L xs) = _
  rw [e0_64]
  rw [e0_65]
  rw [e0_67 (h0 := by decide) (h1 := by decide) (h := by rw [K54_1]; decide), show (nI 80).toNatClampNeg = 80 from nI_clamp (by decide)]
  show zsem 19 0 69 [.inr (.inl (some 0))] [.inr (.inl (some 104)), .inr (.inl (some 0))] (K55 L xs) = _
  rw [e0_69 (h := by rfl)]
  show zsem 19 0 72 [.inr (.inl (some 0))] [] (K56 L xs) = _
  rw [e0_72]
  rw [e0_73]
  rw [e0_74 (h := by rfl)]
  show zsem 19 0 77 [.inr (.inl (some 0))] [] (K57 L xs) = _
  rw [e0_77]
theorem cn_law (L : Nat) (xs : Nat → Int32) : zsem 20 109 0 [.inr (.inl (some SC)), .inr (.inl none), .inr (.inl none), .inr (.inl none), .inr (.inl none), .inr (.inl none), .inr (.inl none), .inr (.inl none)] [] (A00 L xs) = zsem 20 109 8 [.inr (.inl (some SC)), .inr (.inl (some 0)), .inr (.inl none), .inr (.inl none), .inr (.inl none), .inr (.inl none), .inr (.inl none), .inr (.inl none)] [] (K57 L xs) := by
  show zsem 20 109 0 _ [] (K0 L xs) = _
  rw [e109_0 (h := by rw [K0_1]; decide)]
  show zsem 20 109 3 [.inr (.inl (some SC)), .inr (.inl none), .inr (.inl none), .inr (.inl none), .inr (.inl none), .inr (.inl none), .inr (.inl none), .inr (.inl none)] [.inr (.inl (some 0))] (K1 L xs) = _
  rw [e109_3, e109_4, cn_0 L xs]
  show zsem 20 109 7 [.inr (.inl (some SC)), .inr (.inl none), .inr (.inl none), .inr (.inl none), .inr (.inl none), .inr (.inl none), .inr (.inl none), .inr (.inl none)] [.inr (.inl (some 0))] (K57 L xs) = _
  rw [e109_7]
