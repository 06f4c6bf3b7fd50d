/-! the heap after the constructors: 105 cells; mu the ints, pi the four racks of the history -/
def TTL : List (Nat × Nat) := [(4, 0), (2, 0), (10, 12), (10, 12), (10, 12), (10, 52), (10, 36), (10, 36), (10, 36), (10, 24), (10, 24), (10, 24), (10, 12), (10, 12), (2, 0), (10, 12), (10, 12), (10, 12), (10, 52), (10, 36), (10, 36), (10, 36), (10, 24), (10, 24), (10, 24), (10, 12), (10, 12), (0, 0), (13, 4), (2, 0), (10, 12), (10, 12), (10, 12), (10, 52), (10, 36), (10, 36), (10, 36), (10, 24), (10, 24), (10, 24), (10, 12), (10, 12), (2, 0), (10, 12), (10, 12), (10, 12), (10, 52), (10, 36), (10, 36), (10, 36), (10, 24), (10, 24), (10, 24), (10, 12), (10, 12), (2, 0), (10, 12), (10, 12), (10, 12), (10, 52), (10, 36), (10, 36), (10, 36), (10, 24), (10, 24), (10, 24), (10, 12), (10, 12), (2, 0), (10, 12), (10, 12), (10, 12), (10, 52), (10, 36), (10, 36), (10, 36), (10, 24), (10, 24), (10, 24), (10, 12), (10, 12), (1, 0), (10, 12), (10, 12), (10, 12), (10, 12), (10, 12), (10, 13), (3, 0), (2, 0), (10, 12), (10, 12), (10, 12), (10, 52), (10, 36), (10, 36), (10, 36), (10, 24), (10, 24), (10, 24), (10, 12), (10, 12), (10, 6), (10, 6), (11, 80)]
def RTL : List (List (Option Nat)) := [[some 1, some 14, none, some 27, some 81, some 88, some 104, none], [some 2, some 3, some 4, some 5, some 6, some 7, some 8, some 9, some 10, some 11, some 12, some 13, none], [], [], [], [], [], [], [], [], [], [], [], [], [some 15, some 16, some 17, some 18, some 19, some 20, some 21, some 22, some 23, some 24, some 25, some 26, none], [], [], [], [], [], [], [], [], [], [], [], [], [some 28, none], [], [some 30, some 31, some 32, some 33, some 34, some 35, some 36, some 37, some 38, some 39, some 40, some 41, none], [], [], [], [], [], [], [], [], [], [], [], [], [some 43, some 44, some 45, some 46, some 47, some 48, some 49, some 50, some 51, some 52, some 53, some 54, none], [], [], [], [], [], [], [], [], [], [], [], [], [some 56, some 57, some 58, some 59, some 60, some 61, some 62, some 63, some 64, some 65, some 66, some 67, none], [], [], [], [], [], [], [], [], [], [], [], [], [some 69, some 70, some 71, some 72, some 73, some 74, some 75, some 76, some 77, some 78, some 79, some 80, none], [], [], [], [], [], [], [], [], [], [], [], [], [some 82, some 83, some 84, some 85, some 86, some 87, none], [], [], [], [], [], [], [some 89, none, none, none, some 102, some 103, none, none], [some 90, some 91, some 92, some 93, some 94, some 95, some 96, some 97, some 98, some 99, some 100, some 101, none], [], [], [], [], [], [], [], [], [], [], [], [], [], [], []]
def tgl (L : Nat) (l : List (Nat × Nat)) : Nat → Nat × Nat := fun k => if k = SC then (20, L) else l.getD k (99, 0)
def rho (l : List (List (Option Nat))) : Nat → Nat → Option Nat := fun a i => (l.getD a []).getD i none
def TT (L : Nat) : Nat → Nat × Nat := tgl L TTL
def RR (p : Nat → Nat) : Nat → Nat → Option Nat := fun a i => if a = 28 then (if i < 4 then some (p i) else none) else rho RTL a i
def HH (L : Nat) (mu : Nat → Nat → Int32) (p : Nat → Nat) : AH := ((105, 2329), TT L, mu, RR p)
def fl (mu : Nat → Nat → Int32) (a n : Nat) (v : Int32) : Nat → Nat → Int32 := fun a' i' => if a' = a then (if i' < n then v else mu a' i') else mu a' i'
def cpm (mu : Nat → Nat → Int32) (a0 a n : Nat) : Nat → Nat → Int32 := fun a' i' => if a' = a then (if i' < n then mu a0 i' else mu a' i') else mu a' i'
theorem hh_1 (L : Nat) (mu : Nat → Nat → Int32) (p : Nat → Nat) : (HH L mu p).1 = (105, 2329) := rfl
theorem hh_t (L : Nat) (mu : Nat → Nat → Int32) (p : Nat → Nat) : (HH L mu p).2.1 = TT L := rfl
theorem hh_m (L : Nat) (mu : Nat → Nat → Int32) (p : Nat → Nat) : (HH L mu p).2.2.1 = mu := rfl
theorem hh_r (L : Nat) (mu : Nat → Nat → Int32) (p : Nat → Nat) : (HH L mu p).2.2.2 = RR p := rfl
theorem hh_sI (L : Nat) (mu : Nat → Nat → Int32) (p : Nat → Nat) (a i : Nat) (x : Int32) : sI (HH L mu p) a i x = HH L (u2 mu a i x) p := rfl
theorem hh_cp (L : Nat) (mu : Nat → Nat → Int32) (p : Nat → Nat) (a0 a n : Nat) : cpA (HH L mu p) a0 a 0 0 n = HH L (cpm mu a0 a n) p := by
  unfold cpA HH cpm
  refine Prod.ext rfl (Prod.ext rfl (Prod.ext ?_ rfl))
  funext a' i'
  by_cases h : a' = a
  · subst h
    simp [va_cpy]
  · simp [h]
theorem tt_sc (L : Nat) : TT L SC = (20, L) := rfl
theorem tt_0 (L : Nat) : TT L 0 = (4, 0) := rfl
theorem tt_1 (L : Nat) : TT L 1 = (2, 0) := rfl
theorem tt_2 (L : Nat) : TT L 2 = (10, 12) := rfl
theorem tt_3 (L : Nat) : TT L 3 = (10, 12) := rfl
theorem tt_4 (L : Nat) : TT L 4 = (10, 12) := rfl
theorem tt_5 (L : Nat) : TT L 5 = (10, 52) := rfl
theorem tt_6 (L : Nat) : TT L 6 = (10, 36) := rfl
theorem tt_7 (L : Nat) : TT L 7 = (10, 36) := rfl
theorem tt_8 (L : Nat) : TT L 8 = (10, 36) := rfl
theorem tt_9 (L : Nat) : TT L 9 = (10, 24) := rfl
theorem tt_10 (L : Nat) : TT L 10 = (10, 24) := rfl
theorem tt_11 (L : Nat) : TT L 11 = (10, 24) := rfl
theorem tt_12 (L : Nat) : TT L 12 = (10, 12) := rfl
theorem tt_13 (L : Nat) : TT L 13 = (10, 12) := rfl
theorem tt_14 (L : Nat) : TT L 14 = (2, 0) := rfl
theorem tt_15 (L : Nat) : TT L 15 = (10, 12) := rfl
theorem tt_16 (L : Nat) : TT L 16 = (10, 12) := rfl
theorem tt_17 (L : Nat) : TT L 17 = (10, 12) := rfl
theorem tt_18 (L : Nat) : TT L 18 = (10, 52) := rfl
theorem tt_19 (L : Nat) : TT L 19 = (10, 36) := rfl
theorem tt_20 (L : Nat) : TT L 20 = (10, 36) := rfl
theorem tt_21 (L : Nat) : TT L 21 = (10, 36) := rfl
theorem tt_22 (L : Nat) : TT L 22 = (10, 24) := rfl
theorem tt_23 (L : Nat) : TT L 23 = (10, 24) := rfl
theorem tt_24 (L : Nat) : TT L 24 = (10, 24) := rfl
theorem tt_25 (L : Nat) : TT L 25 = (10, 12) := rfl
theorem tt_26 (L : Nat) : TT L 26 = (10, 12) := rfl
theorem tt_27 (L : Nat) : TT L 27 = (0, 0) := rfl
theorem tt_28 (L : Nat) : TT L 28 = (13, 4) := rfl
theorem tt_29 (L : Nat) : TT L 29 = (2, 0) := rfl
theorem tt_30 (L : Nat) : TT L 30 = (10, 12) := rfl
theorem tt_31 (L : Nat) : TT L 31 = (10, 12) := rfl
theorem tt_32 (L : Nat) : TT L 32 = (10, 12) := rfl
theorem tt_33 (L : Nat) : TT L 33 = (10, 52) := rfl
theorem tt_34 (L : Nat) : TT L 34 = (10, 36) := rfl
theorem tt_35 (L : Nat) : TT L 35 = (10, 36) := rfl
theorem tt_36 (L : Nat) : TT L 36 = (10, 36) := rfl
theorem tt_37 (L : Nat) : TT L 37 = (10, 24) := rfl
theorem tt_38 (L : Nat) : TT L 38 = (10, 24) := rfl
theorem tt_39 (L : Nat) : TT L 39 = (10, 24) := rfl
theorem tt_40 (L : Nat) : TT L 40 = (10, 12) := rfl
theorem tt_41 (L : Nat) : TT L 41 = (10, 12) := rfl
theorem tt_42 (L : Nat) : TT L 42 = (2, 0) := rfl
theorem tt_43 (L : Nat) : TT L 43 = (10, 12) := rfl
theorem tt_44 (L : Nat) : TT L 44 = (10, 12) := rfl
theorem tt_45 (L : Nat) : TT L 45 = (10, 12) := rfl
theorem tt_46 (L : Nat) : TT L 46 = (10, 52) := rfl
theorem tt_47 (L : Nat) : TT L 47 = (10, 36) := rfl
theorem tt_48 (L : Nat) : TT L 48 = (10, 36) := rfl
theorem tt_49 (L : Nat) : TT L 49 = (10, 36) := rfl
theorem tt_50 (L : Nat) : TT L 50 = (10, 24) := rfl
theorem tt_51 (L : Nat) : TT L 51 = (10, 24) := rfl
theorem tt_52 (L : Nat) : TT L 52 = (10, 24) := rfl
theorem tt_53 (L : Nat) : TT L 53 = (10, 12) := rfl
theorem tt_54 (L : Nat) : TT L 54 = (10, 12) := rfl
theorem tt_55 (L : Nat) : TT L 55 = (2, 0) := rfl
theorem tt_56 (L : Nat) : TT L 56 = (10, 12) := rfl
theorem tt_57 (L : Nat) : TT L 57 = (10, 12) := rfl
theorem tt_58 (L : Nat) : TT L 58 = (10, 12) := rfl
theorem tt_59 (L : Nat) : TT L 59 = (10, 52) := rfl
theorem tt_60 (L : Nat) : TT L 60 = (10, 36) := rfl
theorem tt_61 (L : Nat) : TT L 61 = (10, 36) := rfl
theorem tt_62 (L : Nat) : TT L 62 = (10, 36) := rfl
theorem tt_63 (L : Nat) : TT L 63 = (10, 24) := rfl
theorem tt_64 (L : Nat) : TT L 64 = (10, 24) := rfl
theorem tt_65 (L : Nat) : TT L 65 = (10, 24) := rfl
theorem tt_66 (L : Nat) : TT L 66 = (10, 12) := rfl
theorem tt_67 (L : Nat) : TT L 67 = (10, 12) := rfl
theorem tt_68 (L : Nat) : TT L 68 = (2, 0) := rfl
theorem tt_69 (L : Nat) : TT L 69 = (10, 12) := rfl
theorem tt_70 (L : Nat) : TT L 70 = (10, 12) := rfl
theorem tt_71 (L : Nat) : TT L 71 = (10, 12) := rfl
theorem tt_72 (L : Nat) : TT L 72 = (10, 52) := rfl
theorem tt_73 (L : Nat) : TT L 73 = (10, 36) := rfl
theorem tt_74 (L : Nat) : TT L 74 = (10, 36) := rfl
theorem tt_75 (L : Nat) : TT L 75 = (10, 36) := rfl
theorem tt_76 (L : Nat) : TT L 76 = (10, 24) := rfl
theorem tt_77 (L : Nat) : TT L 77 = (10, 24) := rfl
theorem tt_78 (L : Nat) : TT L 78 = (10, 24) := rfl
theorem tt_79 (L : Nat) : TT L 79 = (10, 12) := rfl
theorem tt_80 (L : Nat) : TT L 80 = (10, 12) := rfl
theorem tt_81 (L : Nat) : TT L 81 = (1, 0) := rfl
theorem tt_82 (L : Nat) : TT L 82 = (10, 12) := rfl
theorem tt_83 (L : Nat) : TT L 83 = (10, 12) := rfl
theorem tt_84 (L : Nat) : TT L 84 = (10, 12) := rfl
theorem tt_85 (L : Nat) : TT L 85 = (10, 12) := rfl
theorem tt_86 (L : Nat) : TT L 86 = (10, 12) := rfl
theorem tt_87 (L : Nat) : TT L 87 = (10, 13) := rfl
theorem tt_88 (L : Nat) : TT L 88 = (3, 0) := rfl
theorem tt_89 (L : Nat) : TT L 89 = (2, 0) := rfl
theorem tt_90 (L : Nat) : TT L 90 = (10, 12) := rfl
theorem tt_91 (L : Nat) : TT L 91 = (10, 12) := rfl
theorem tt_92 (L : Nat) : TT L 92 = (10, 12) := rfl
theorem tt_93 (L : Nat) : TT L 93 = (10, 52) := rfl
theorem tt_94 (L : Nat) : TT L 94 = (10, 36) := rfl
theorem tt_95 (L : Nat) : TT L 95 = (10, 36) := rfl
theorem tt_96 (L : Nat) : TT L 96 = (10, 36) := rfl
theorem tt_97 (L : Nat) : TT L 97 = (10, 24) := rfl
theorem tt_98 (L : Nat) : TT L 98 = (10, 24) := rfl
theorem tt_99 (L : Nat) : TT L 99 = (10, 24) := rfl
theorem tt_100 (L : Nat) : TT L 100 = (10, 12) := rfl
theorem tt_101 (L : Nat) : TT L 101 = (10, 12) := rfl
theorem tt_102 (L : Nat) : TT L 102 = (10, 6) := rfl
theorem tt_103 (L : Nat) : TT L 103 = (10, 6) := rfl
theorem tt_104 (L : Nat) : TT L 104 = (11, 80) := rfl
theorem rr_0_0 (p : Nat → Nat) : RR p 0 0 = some 1 := rfl
theorem rr_0_1 (p : Nat → Nat) : RR p 0 1 = some 14 := rfl
theorem rr_0_3 (p : Nat → Nat) : RR p 0 3 = some 27 := rfl
theorem rr_0_4 (p : Nat → Nat) : RR p 0 4 = some 81 := rfl
theorem rr_0_5 (p : Nat → Nat) : RR p 0 5 = some 88 := rfl
theorem rr_0_6 (p : Nat → Nat) : RR p 0 6 = some 104 := rfl
theorem rr_1_0 (p : Nat → Nat) : RR p 1 0 = some 2 := rfl
theorem rr_1_1 (p : Nat → Nat) : RR p 1 1 = some 3 := rfl
theorem rr_1_2 (p : Nat → Nat) : RR p 1 2 = some 4 := rfl
theorem rr_1_3 (p : Nat → Nat) : RR p 1 3 = some 5 := rfl
theorem rr_1_4 (p : Nat → Nat) : RR p 1 4 = some 6 := rfl
theorem rr_1_5 (p : Nat → Nat) : RR p 1 5 = some 7 := rfl
theorem rr_1_6 (p : Nat → Nat) : RR p 1 6 = some 8 := rfl
theorem rr_1_7 (p : Nat → Nat) : RR p 1 7 = some 9 := rfl
theorem rr_1_8 (p : Nat → Nat) : RR p 1 8 = some 10 := rfl
theorem rr_1_9 (p : Nat → Nat) : RR p 1 9 = some 11 := rfl
theorem rr_1_10 (p : Nat → Nat) : RR p 1 10 = some 12 := rfl
theorem rr_1_11 (p : Nat → Nat) : RR p 1 11 = some 13 := rfl
theorem rr_14_0 (p : Nat → Nat) : RR p 14 0 = some 15 := rfl
theorem rr_14_1 (p : Nat → Nat) : RR p 14 1 = some 16 := rfl
theorem rr_14_2 (p : Nat → Nat) : RR p 14 2 = some 17 := rfl
theorem rr_14_3 (p : Nat → Nat) : RR p 14 3 = some 18 := rfl
theorem rr_14_4 (p : Nat → Nat) : RR p 14 4 = some 19 := rfl
theorem rr_14_5 (p : Nat → Nat) : RR p 14 5 = some 20 := rfl
theorem rr_14_6 (p : Nat → Nat) : RR p 14 6 = some 21 := rfl
theorem rr_14_7 (p : Nat → Nat) : RR p 14 7 = some 22 := rfl
theorem rr_14_8 (p : Nat → Nat) : RR p 14 8 = some 23 := rfl
theorem rr_14_9 (p : Nat → Nat) : RR p 14 9 = some 24 := rfl
theorem rr_14_10 (p : Nat → Nat) : RR p 14 10 = some 25 := rfl
theorem rr_14_11 (p : Nat → Nat) : RR p 14 11 = some 26 := rfl
theorem rr_27_0 (p : Nat → Nat) : RR p 27 0 = some 28 := rfl
theorem rr_29_0 (p : Nat → Nat) : RR p 29 0 = some 30 := rfl
theorem rr_29_1 (p : Nat → Nat) : RR p 29 1 = some 31 := rfl
theorem rr_29_2 (p : Nat → Nat) : RR p 29 2 = some 32 := rfl
theorem rr_29_3 (p : Nat → Nat) : RR p 29 3 = some 33 := rfl
theorem rr_29_4 (p : Nat → Nat) : RR p 29 4 = some 34 := rfl
theorem rr_29_5 (p : Nat → Nat) : RR p 29 5 = some 35 := rfl
theorem rr_29_6 (p : Nat → Nat) : RR p 29 6 = some 36 := rfl
theorem rr_29_7 (p : Nat → Nat) : RR p 29 7 = some 37 := rfl
theorem rr_29_8 (p : Nat → Nat) : RR p 29 8 = some 38 := rfl
theorem rr_29_9 (p : Nat → Nat) : RR p 29 9 = some 39 := rfl
theorem rr_29_10 (p : Nat → Nat) : RR p 29 10 = some 40 := rfl
theorem rr_29_11 (p : Nat → Nat) : RR p 29 11 = some 41 := rfl
theorem rr_42_0 (p : Nat → Nat) : RR p 42 0 = some 43 := rfl
theorem rr_42_1 (p : Nat → Nat) : RR p 42 1 = some 44 := rfl
theorem rr_42_2 (p : Nat → Nat) : RR p 42 2 = some 45 := rfl
theorem rr_42_3 (p : Nat → Nat) : RR p 42 3 = some 46 := rfl
theorem rr_42_4 (p : Nat → Nat) : RR p 42 4 = some 47 := rfl
theorem rr_42_5 (p : Nat → Nat) : RR p 42 5 = some 48 := rfl
theorem rr_42_6 (p : Nat → Nat) : RR p 42 6 = some 49 := rfl
theorem rr_42_7 (p : Nat → Nat) : RR p 42 7 = some 50 := rfl
theorem rr_42_8 (p : Nat → Nat) : RR p 42 8 = some 51 := rfl
theorem rr_42_9 (p : Nat → Nat) : RR p 42 9 = some 52 := rfl
theorem rr_42_10 (p : Nat → Nat) : RR p 42 10 = some 53 := rfl
theorem rr_42_11 (p : Nat → Nat) : RR p 42 11 = some 54 := rfl
theorem rr_55_0 (p : Nat → Nat) : RR p 55 0 = some 56 := rfl
theorem rr_55_1 (p : Nat → Nat) : RR p 55 1 = some 57 := rfl
theorem rr_55_2 (p : Nat → Nat) : RR p 55 2 = some 58 := rfl
theorem rr_55_3 (p : Nat → Nat) : RR p 55 3 = some 59 := rfl
theorem rr_55_4 (p : Nat → Nat) : RR p 55 4 = some 60 := rfl
theorem rr_55_5 (p : Nat → Nat) : RR p 55 5 = some 61 := rfl
theorem rr_55_6 (p : Nat → Nat) : RR p 55 6 = some 62 := rfl
theorem rr_55_7 (p : Nat → Nat) : RR p 55 7 = some 63 := rfl
theorem rr_55_8 (p : Nat → Nat) : RR p 55 8 = some 64 := rfl
theorem rr_55_9 (p : Nat → Nat) : RR p 55 9 = some 65 := rfl
theorem rr_55_10 (p : Nat → Nat) : RR p 55 10 = some 66 := rfl
theorem rr_55_11 (p : Nat → Nat) : RR p 55 11 = some 67 := rfl
theorem rr_68_0 (p : Nat → Nat) : RR p 68 0 = some 69 := rfl
theorem rr_68_1 (p : Nat → Nat) : RR p 68 1 = some 70 := rfl
theorem rr_68_2 (p : Nat → Nat) : RR p 68 2 = some 71 := rfl
theorem rr_68_3 (p : Nat → Nat) : RR p 68 3 = some 72 := rfl
theorem rr_68_4 (p : Nat → Nat) : RR p 68 4 = some 73 := rfl
theorem rr_68_5 (p : Nat → Nat) : RR p 68 5 = some 74 := rfl
theorem rr_68_6 (p : Nat → Nat) : RR p 68 6 = some 75 := rfl
theorem rr_68_7 (p : Nat → Nat) : RR p 68 7 = some 76 := rfl
theorem rr_68_8 (p : Nat → Nat) : RR p 68 8 = some 77 := rfl
theorem rr_68_9 (p : Nat → Nat) : RR p 68 9 = some 78 := rfl
theorem rr_68_10 (p : Nat → Nat) : RR p 68 10 = some 79 := rfl
theorem rr_68_11 (p : Nat → Nat) : RR p 68 11 = some 80 := rfl
theorem rr_81_0 (p : Nat → Nat) : RR p 81 0 = some 82 := rfl
theorem rr_81_1 (p : Nat → Nat) : RR p 81 1 = some 83 := rfl
theorem rr_81_2 (p : Nat → Nat) : RR p 81 2 = some 84 := rfl
theorem rr_81_3 (p : Nat → Nat) : RR p 81 3 = some 85 := rfl
theorem rr_81_4 (p : Nat → Nat) : RR p 81 4 = some 86 := rfl
theorem rr_81_5 (p : Nat → Nat) : RR p 81 5 = some 87 := rfl
theorem rr_88_0 (p : Nat → Nat) : RR p 88 0 = some 89 := rfl
theorem rr_88_4 (p : Nat → Nat) : RR p 88 4 = some 102 := rfl
theorem rr_88_5 (p : Nat → Nat) : RR p 88 5 = some 103 := rfl
theorem rr_89_0 (p : Nat → Nat) : RR p 89 0 = some 90 := rfl
theorem rr_89_1 (p : Nat → Nat) : RR p 89 1 = some 91 := rfl
theorem rr_89_2 (p : Nat → Nat) : RR p 89 2 = some 92 := rfl
theorem rr_89_3 (p : Nat → Nat) : RR p 89 3 = some 93 := rfl
theorem rr_89_4 (p : Nat → Nat) : RR p 89 4 = some 94 := rfl
theorem rr_89_5 (p : Nat → Nat) : RR p 89 5 = some 95 := rfl
theorem rr_89_6 (p : Nat → Nat) : RR p 89 6 = some 96 := rfl
theorem rr_89_7 (p : Nat → Nat) : RR p 89 7 = some 97 := rfl
theorem rr_89_8 (p : Nat → Nat) : RR p 89 8 = some 98 := rfl
theorem rr_89_9 (p : Nat → Nat) : RR p 89 9 = some 99 := rfl
theorem rr_89_10 (p : Nat → Nat) : RR p 89 10 = some 100 := rfl
theorem rr_89_11 (p : Nat → Nat) : RR p 89 11 = some 101 := rfl
theorem rr_h (p : Nat → Nat) (i : Nat) (h : i < 4) : RR p 28 i = some (p i) := by
  unfold RR
  rw [if_pos rfl, if_pos h]
/-- a cell that is a rack, with its twelve rows behind it -/
def isRk (r : Nat) : Prop := r = 1 ∨ r = 14 ∨ r = 29 ∨ r = 42 ∨ r = 55 ∨ r = 68 ∨ r = 89
theorem rk_r0 (p : Nat → Nat) (r : Nat) (h : isRk r) : RR p r 0 = some (r + 1) := by
  rcases h with rfl | rfl | rfl | rfl | rfl | rfl | rfl <;> rfl
theorem rk_t0 (L : Nat) (r : Nat) (h : isRk r) : TT L (r + 1) = (10, 12) := by
  rcases h with rfl | rfl | rfl | rfl | rfl | rfl | rfl <;> rfl
theorem rk_r1 (p : Nat → Nat) (r : Nat) (h : isRk r) : RR p r 1 = some (r + 2) := by
  rcases h with rfl | rfl | rfl | rfl | rfl | rfl | rfl <;> rfl
theorem rk_t1 (L : Nat) (r : Nat) (h : isRk r) : TT L (r + 2) = (10, 12) := by
  rcases h with rfl | rfl | rfl | rfl | rfl | rfl | rfl <;> rfl
theorem rk_r2 (p : Nat → Nat) (r : Nat) (h : isRk r) : RR p r 2 = some (r + 3) := by
  rcases h with rfl | rfl | rfl | rfl | rfl | rfl | rfl <;> rfl
theorem rk_t2 (L : Nat) (r : Nat) (h : isRk r) : TT L (r + 3) = (10, 12) := by
  rcases h with rfl | rfl | rfl | rfl | rfl | rfl | rfl <;> rfl
theorem rk_r3 (p : Nat → Nat) (r : Nat) (h : isRk r) : RR p r 3 = some (r + 4) := by
  rcases h with rfl | rfl | rfl | rfl | rfl | rfl | rfl <;> rfl
theorem rk_t3 (L : Nat) (r : Nat) (h : isRk r) : TT L (r + 4) = (10, 52) := by
  rcases h with rfl | rfl | rfl | rfl | rfl | rfl | rfl <;> rfl
theorem rk_r4 (p : Nat → Nat) (r : Nat) (h : isRk r) : RR p r 4 = some (r + 5) := by
  rcases h with rfl | rfl | rfl | rfl | rfl | rfl | rfl <;> rfl
theorem rk_t4 (L : Nat) (r : Nat) (h : isRk r) : TT L (r + 5) = (10, 36) := by
  rcases h with rfl | rfl | rfl | rfl | rfl | rfl | rfl <;> rfl
theorem rk_r5 (p : Nat → Nat) (r : Nat) (h : isRk r) : RR p r 5 = some (r + 6) := by
  rcases h with rfl | rfl | rfl | rfl | rfl | rfl | rfl <;> rfl
theorem rk_t5 (L : Nat) (r : Nat) (h : isRk r) : TT L (r + 6) = (10, 36) := by
  rcases h with rfl | rfl | rfl | rfl | rfl | rfl | rfl <;> rfl
theorem rk_r6 (p : Nat → Nat) (r : Nat) (h : isRk r) : RR p r 6 = some (r + 7) := by
  rcases h with rfl | rfl | rfl | rfl | rfl | rfl | rfl <;> rfl
theorem rk_t6 (L : Nat) (r : Nat) (h : isRk r) : TT L (r + 7) = (10, 36) := by
  rcases h with rfl | rfl | rfl | rfl | rfl | rfl | rfl <;> rfl
theorem rk_r7 (p : Nat → Nat) (r : Nat) (h : isRk r) : RR p r 7 = some (r + 8) := by
  rcases h with rfl | rfl | rfl | rfl | rfl | rfl | rfl <;> rfl
theorem rk_t7 (L : Nat) (r : Nat) (h : isRk r) : TT L (r + 8) = (10, 24) := by
  rcases h with rfl | rfl | rfl | rfl | rfl | rfl | rfl <;> rfl
theorem rk_r8 (p : Nat → Nat) (r : Nat) (h : isRk r) : RR p r 8 = some (r + 9) := by
  rcases h with rfl | rfl | rfl | rfl | rfl | rfl | rfl <;> rfl
theorem rk_t8 (L : Nat) (r : Nat) (h : isRk r) : TT L (r + 9) = (10, 24) := by
  rcases h with rfl | rfl | rfl | rfl | rfl | rfl | rfl <;> rfl
theorem rk_r9 (p : Nat → Nat) (r : Nat) (h : isRk r) : RR p r 9 = some (r + 10) := by
  rcases h with rfl | rfl | rfl | rfl | rfl | rfl | rfl <;> rfl
theorem rk_t9 (L : Nat) (r : Nat) (h : isRk r) : TT L (r + 10) = (10, 24) := by
  rcases h with rfl | rfl | rfl | rfl | rfl | rfl | rfl <;> rfl
theorem rk_r10 (p : Nat → Nat) (r : Nat) (h : isRk r) : RR p r 10 = some (r + 11) := by
  rcases h with rfl | rfl | rfl | rfl | rfl | rfl | rfl <;> rfl
theorem rk_t10 (L : Nat) (r : Nat) (h : isRk r) : TT L (r + 11) = (10, 12) := by
  rcases h with rfl | rfl | rfl | rfl | rfl | rfl | rfl <;> rfl
theorem rk_r11 (p : Nat → Nat) (r : Nat) (h : isRk r) : RR p r 11 = some (r + 12) := by
  rcases h with rfl | rfl | rfl | rfl | rfl | rfl | rfl <;> rfl
theorem rk_t11 (L : Nat) (r : Nat) (h : isRk r) : TT L (r + 12) = (10, 12) := by
  rcases h with rfl | rfl | rfl | rfl | rfl | rfl | rfl <;> rfl
theorem rk_t (L : Nat) (r : Nat) (h : isRk r) : TT L r = (2, 0) := by
  rcases h with rfl | rfl | rfl | rfl | rfl | rfl | rfl <;> rfl
