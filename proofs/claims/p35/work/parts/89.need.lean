/-! needs -/
theorem dec_ok (E : Nat) : nI (E + 1) + (-1) = nI E := by
  rw [← nI_add E 1, Int32.add_assoc]
  have : nI 1 + (-1 : Int32) = 0 := by decide
  rw [this, Int32.add_zero]
theorem m1_ne0 : (-1 : Int32) < nI 0 := by decide
section
variable (d L : Nat) (p : Nat → Nat)
theorem z_packO (sz al : Nat → Nat) (s lim : Nat) (hs : s < 2) (hlim : lim ≤ 1000000) (from' : Int32) (hsz : ∀ i, i < 12 → sz i ≤ 1000000) (hal : ∀ i, i < 12 → sz i ≠ 0 → al i ≤ 4096) : ∀ E, E ≤ 7 → ∀ pos mu (w6 w7 w8 w9 : AV), pos ≤ lim → LayI sz al mu →
    PkR L p sz al lim pos (tl sz al (grn s) 12 E) mu (zsem (d + 1) 75 18 [.inr (.inl (some 81)), .inl (nI s), .inl from', .inl (nI lim), .inl (nI pos), .inl (nI E + (-1)), w6, w7, w8, w9] [] (HH L mu p)) := by
  intro E
  induction E with
  | zero =>
    intro hE pos mu w6 w7 w8 w9 hpos hI
    have e0 : nI 0 + (-1) = -1 := by decide
    have e1 := m1_ne0
    refine ⟨mu, ?_, fun r _ => rfl, fun j hj => rfl⟩
    rw [h75_18]
    simp (disch := first | omega | assumption) only [h75_0, h75_1, h75_4, h75_6, h75_9, h75_10, h75_12, h75_13, h75_16, h75_20, h75_23, h75_24, h75_27, h75_29, h75_30, h75_32, h75_33, h75_37, h75_39, h75_42, h75_44, h75_46, h75_49, h75_51, h75_52, h75_55, h75_57, h75_58, h75_61, h75_62, h75_65, h75_67, h75_68, h75_70, h75_73, h75_74, h75_77, h75_78, h75_80, h75_82, h75_85, h75_87, h75_88, h75_91, h75_93, h75_94, h75_95, h75_96, h75_99, h75_100, h75_103, h75_105, h75_107, h75_108, h75_110, h75_111, h75_114, h75_116, h75_117, h75_118, h75_120, h75_123, h75_126, h75_129, h75_132, h75_134, Option.bind_some, Option.toList_some, Option.toList_none, List.cons_append, List.nil_append, nI_ltc, nI_lec, nI_eqc, nI_ne5, n5_ne, n5_lt, bI_0, bI_1, nI_add, pk_mul, if_pos, if_neg, ite_not, if_true, if_false, not_true_eq_false, not_false_eq_true, true_and, false_and, and_true, and_false, Nat.reduceAdd, Nat.reduceMul, e0, e1]
    rfl
  | succ E ih =>
    intro hE pos mu w6 w7 w8 w9 hpos hI
    have ih := ih (by omega)
    have hsh := shl_ok s E hs (by omega)
    have e0 := dec_ok E
    have := z_packL d L p sz al s lim hs hlim from' hsz hal E (by omega) 12 0 pos mu w8 w9 rfl hpos hI ih
    rw [tl, blk, List.range_eq_range']
    have e : zsem (d + 1) 75 18 [.inr (.inl (some 81)), .inl (nI s), .inl from', .inl (nI lim), .inl (nI pos), .inl (nI (E + 1) + (-1)), w6, w7, w8, w9] [] (HH L mu p) = zsem (d + 1) 75 35 [.inr (.inl (some 81)), .inl (nI s), .inl from', .inl (nI lim), .inl (nI pos), .inl (nI E), .inl (nI (grn s * 2 ^ E)), .inl (nI 0), w8, w9] [] (HH L mu p) := by
      rw [h75_18]
      simp (disch := first | omega | assumption) only [h75_0, h75_1, h75_4, h75_6, h75_9, h75_10, h75_12, h75_13, h75_16, h75_20, h75_23, h75_24, h75_27, h75_29, h75_30, h75_32, h75_33, h75_37, h75_39, h75_42, h75_44, h75_46, h75_49, h75_51, h75_52, h75_55, h75_57, h75_58, h75_61, h75_62, h75_65, h75_67, h75_68, h75_70, h75_73, h75_74, h75_77, h75_78, h75_80, h75_82, h75_85, h75_87, h75_88, h75_91, h75_93, h75_94, h75_95, h75_96, h75_99, h75_100, h75_103, h75_105, h75_107, h75_108, h75_110, h75_111, h75_114, h75_116, h75_117, h75_118, h75_120, h75_123, h75_126, h75_129, h75_132, h75_134, Option.bind_some, Option.toList_some, Option.toList_none, List.cons_append, List.nil_append, nI_ltc, nI_lec, nI_eqc, nI_ne5, n5_ne, n5_lt, bI_0, bI_1, nI_add, pk_mul, if_pos, if_neg, ite_not, if_true, if_false, not_true_eq_false, not_false_eq_true, true_and, false_and, and_true, and_false, Nat.reduceAdd, Nat.reduceMul, e0, z_grainOf, hsh]
    rw [e]
    exact this
theorem z_pack (sz al : Nat → Nat) (s lim from' : Nat) (hs : s < 2) (hlim : lim ≤ 1000000) (hf : from' ≤ lim) (hsz : ∀ i, i < 12 → sz i ≤ 1000000) (hal : ∀ i, i < 12 → sz i ≠ 0 → ∃ e, e ≤ lex s ∧ al i = grn s * 2 ^ e) (mu : RV) (hI : LayI sz al mu) :
    ∃ mu', zsem (d + 1) 75 0 [.inr (.inl (some 81)), .inl (nI s), .inl (nI from'), .inl (nI lim), .inr (.inl none), .inr (.inl none), .inr (.inl none), .inr (.inl none), .inr (.inl none), .inr (.inl none)] [] (HH L mu p) = some (some (.inl (nI (pen sz al lim from' (itl sz al 12)))), HH L mu' p) ∧ (∀ r, ¬r = 86 → mu' r = mu r) ∧ ∀ j, j < 12 → mu' 86 j = ovr (pst sz al lim from' (itl sz al 12) j) (-5) := by
  have hg := @grn_le s
  have hlex : lex s ≤ 6 := by unfold lex; split <;> omega
  have hI' : LayI sz al (fl mu 86 12 (-5)) := fun i hi => by
    rw [fl_o (by omega), fl_o (by omega)]; exact hI i hi
  have hT := itl_tl (sz := sz) (al := al) (g := grn s) (E := lex s + 1) (by omega) 12 (fun k hk hz => by
    obtain ⟨e, e1, e2⟩ := hal k hk hz
    exact ⟨e, by omega, e2⟩)
  obtain ⟨mu', e1, e2, e3⟩ := z_packO d L p sz al s lim hs hlim (nI from') hsz (fun i hi hz => by
    obtain ⟨e, e1, e2⟩ := hal i hi hz
    have := sz_lt e1
    omega) (lex s + 1) (by omega) from' (fl mu 86 12 (-5)) (.inr (.inl none)) (.inr (.inl none)) (.inr (.inl none)) (.inr (.inl none)) hf hI'
  rw [dec_ok] at e1
  rw [hT]
  have hfl := z_fill d L mu p 86 12 (-5) (tt_86 L) (by omega)
  refine ⟨mu', ?_, fun r hr => by rw [e2 r hr, fl_o hr], fun j hj => by rw [e3 j hj, fl_i hj]⟩
  rw [← e1]
  simp (disch := first | omega | assumption) only [h75_0, h75_1, h75_4, h75_6, h75_9, h75_10, h75_12, h75_13, h75_16, h75_20, h75_23, h75_24, h75_27, h75_29, h75_30, h75_32, h75_33, h75_37, h75_39, h75_42, h75_44, h75_46, h75_49, h75_51, h75_52, h75_55, h75_57, h75_58, h75_61, h75_62, h75_65, h75_67, h75_68, h75_70, h75_73, h75_74, h75_77, h75_78, h75_80, h75_82, h75_85, h75_87, h75_88, h75_91, h75_93, h75_94, h75_95, h75_96, h75_99, h75_100, h75_103, h75_105, h75_107, h75_108, h75_110, h75_111, h75_114, h75_116, h75_117, h75_118, h75_120, h75_123, h75_126, h75_129, h75_132, h75_134, Option.bind_some, Option.toList_some, Option.toList_none, List.cons_append, List.nil_append, nI_ltc, nI_lec, nI_eqc, nI_ne5, n5_ne, n5_lt, bI_0, bI_1, nI_add, pk_mul, if_pos, if_neg, ite_not, if_true, if_false, not_true_eq_false, not_false_eq_true, true_and, false_and, and_true, and_false, Nat.reduceAdd, Nat.reduceMul, hfl, z_largestExponentOf]
theorem max_ok (a b : Nat) (ha : a < 2147483648) (hb : b < 2147483648) : (if nI a < nI b then nI b else nI a) = nI (max a b) := by
  by_cases h : a < b
  · rw [if_pos (by rw [nI_ltc ha hb]; exact h)]; congr 1; omega
  · rw [if_neg (by rw [nI_ltc ha hb]; exact h)]; congr 1; omega
theorem z_greatest (sz al : Nat → Nat) (s : Nat) (hs : s < 2) (hsz : ∀ i, i < 12 → sz i ≤ 1000000) (hal : ∀ i, i < 12 → sz i ≠ 0 → al i ≤ 4096) (mu : RV) (hI : LayI sz al mu) :
    zsem (d + 1) 76 0 [.inr (.inl (some 81)), .inl (nI s), .inr (.inl none), .inr (.inl none)] [] (HH L mu p) = some (some (.inl (nI (gal sz al (grn s) 12))), HH L mu p) := by
  have hg := @grn_le s
  have hb : ∀ k, k ≤ 12 → gal sz al (grn s) k ≤ 4096 := by
    intro k
    induction k with
    | zero => intro _; show grn s ≤ 4096; omega
    | succ k ih =>
      intro hk
      have := ih (by omega)
      rw [gal]
      by_cases h : sz k = 0
      · rw [if_pos h]; exact this
      · have := hal k (by omega) h
        rw [if_neg h]; omega
  have hL : ∀ m k, k + m = 12 → zsem (d + 1) 76 7 [.inr (.inl (some 81)), .inl (nI s), .inl (nI (gal sz al (grn s) k)), .inl (nI k)] [] (HH L mu p) = some (some (.inl (nI (gal sz al (grn s) 12))), HH L mu p) := by
    intro m
    induction m with
    | zero =>
      intro k hk
      have : k = 12 := by omega
      subst this
      rw [h76_7]
      simp (disch := first | omega | assumption) only [h76_0, h76_1, h76_4, h76_5, h76_6, h76_8, h76_10, h76_13, h76_14, h76_17, h76_18, h76_19, h76_22, h76_23, h76_24, h76_27, h76_28, h76_29, h76_32, h76_33, h76_36, h76_39, h76_40, Option.bind_some, Option.toList_some, Option.toList_none, List.cons_append, List.nil_append, nI_ltc, nI_lec, nI_eqc, nI_ne5, n5_ne, n5_lt, bI_0, bI_1, nI_add, pk_mul, if_pos, if_neg, ite_not, if_true, if_false, not_true_eq_false, not_false_eq_true, true_and, false_and, and_true, and_false, Nat.reduceAdd, Nat.reduceMul]
    | succ m ih =>
      intro k hk
      obtain ⟨i1, i2⟩ := hI k (by omega)
      have hszk := hsz k (by omega)
      rw [← ih (k + 1) (by omega), h76_7, gal]
      by_cases h : sz k = 0
      · rw [if_pos h]
        rw [h] at i1
        simp (disch := first | omega | assumption) only [h76_0, h76_1, h76_4, h76_5, h76_6, h76_8, h76_10, h76_13, h76_14, h76_17, h76_18, h76_19, h76_22, h76_23, h76_24, h76_27, h76_28, h76_29, h76_32, h76_33, h76_36, h76_39, h76_40, Option.bind_some, Option.toList_some, Option.toList_none, List.cons_append, List.nil_append, nI_ltc, nI_lec, nI_eqc, nI_ne5, n5_ne, n5_lt, bI_0, bI_1, nI_add, pk_mul, if_pos, if_neg, ite_not, if_true, if_false, not_true_eq_false, not_false_eq_true, true_and, false_and, and_true, and_false, Nat.reduceAdd, Nat.reduceMul, i1]
      · rw [if_neg h]
        have i2 := i2 h
        have hx := max_ok (gal sz al (grn s) k) (al k) (by have := hb k (by omega); omega) (by have := hal k (by omega) h; omega)
        have hmx := z_max d L mu p (nI (gal sz al (grn s) k)) (nI (al k))
        rw [hx] at hmx
        simp (disch := first | omega | assumption) only [h76_0, h76_1, h76_4, h76_5, h76_6, h76_8, h76_10, h76_13, h76_14, h76_17, h76_18, h76_19, h76_22, h76_23, h76_24, h76_27, h76_28, h76_29, h76_32, h76_33, h76_36, h76_39, h76_40, Option.bind_some, Option.toList_some, Option.toList_none, List.cons_append, List.nil_append, nI_ltc, nI_lec, nI_eqc, nI_ne5, n5_ne, n5_lt, bI_0, bI_1, nI_add, pk_mul, if_pos, if_neg, ite_not, if_true, if_false, not_true_eq_false, not_false_eq_true, true_and, false_and, and_true, and_false, Nat.reduceAdd, Nat.reduceMul, i1, i2, hmx]
  rw [← hL 12 0 rfl]
  simp (disch := first | omega | assumption) only [h76_0, h76_1, h76_4, h76_5, h76_6, h76_8, h76_10, h76_13, h76_14, h76_17, h76_18, h76_19, h76_22, h76_23, h76_24, h76_27, h76_28, h76_29, h76_32, h76_33, h76_36, h76_39, h76_40, Option.bind_some, Option.toList_some, Option.toList_none, List.cons_append, List.nil_append, nI_ltc, nI_lec, nI_eqc, nI_ne5, n5_ne, n5_lt, bI_0, bI_1, nI_add, pk_mul, if_pos, if_neg, ite_not, if_true, if_false, not_true_eq_false, not_false_eq_true, true_and, false_and, and_true, and_false, Nat.reduceAdd, Nat.reduceMul, z_grainOf]
  rfl
end
/-- needs and alignments of the bridges, n levels of bridges down -/
def nda (R : RV) (s : Nat) : Nat → Nat → Nat × Nat
  | 0, _ => (0, grn s)
  | n + 1, b => (pnl (psz R s (fun j => (nda R s n j).1) b) (pal R s (fun j => (nda R s n j).1) (fun j => (nda R s n j).2) b) 0 (itl (psz R s (fun j => (nda R s n j).1) b) (pal R s (fun j => (nda R s n j).1) (fun j => (nda R s n j).2) b) 12) + vn (R 9 (b * 2 + s)),
      gal (psz R s (fun j => (nda R s n j).1) b) (pal R s (fun j => (nda R s n j).1) (fun j => (nda R s n j).2) b) (grn s) 12)
def fN (R : RV) (s j : Nat) : Nat := (nda R s (5 - dq R j) j).1
def aN (R : RV) (s j : Nat) : Nat := (nda R s (5 - dq R j) j).2
def SZ (R : RV) (s b : Nat) : Nat → Nat := psz R s (fN R s) b
def AL (R : RV) (s b : Nat) : Nat → Nat := pal R s (fN R s) (aN R s) b
def IT (R : RV) (s b : Nat) : List Nat := itl (SZ R s b) (AL R s b) 12
def Mx : Nat → Nat
  | 0 => 0
  | n + 1 => match n with
    | 0 => 256
    | n + 1 => 4 * max 3072 (Mx (n + 1) + 1024) + 256
theorem slot_of {R : RV} (hI : InvT R) {b k : Nat} (hb : b < 13) (hk : k < 12) : R 5 (b * 4 + k / 3) = -5 ∨ ∃ j, j < 12 ∧ R 5 (b * 4 + k / 3) = nI j ∧ bn R j = b ∧ (R 2 j = nI 1 ∨ R 2 j = nI 2) := by
  rcases hI.2.2.1 b (k / 3) hb (by omega) with hv | ⟨j, hj, hv, hkj, hb3, -⟩
  · exact Or.inl hv
  · exact Or.inr ⟨j, hj, hv, bn_of hb3 hb, (hI.1 j hj).resolve_left hkj⟩
theorem psz_cong {R : RV} (hI : InvT R) {s b : Nat} {f f' a a' : Nat → Nat} (hb : b < 13) (h : ∀ j, j < 12 → R 2 j = nI 2 → bn R j = b → f j = f' j ∧ a j = a' j) : psz R s f b = psz R s f' b ∧ pal R s f a b = pal R s f' a' b := by
  have e1 : psz R s f b = psz R s f' b := by
    funext k
    by_cases hk : k < 12
    · rcases slot_of hI hb hk with hv | ⟨j, hj, hv, hbj, h1 | h1⟩
      · rw [psz_n hv, psz_n hv]
      · rw [psz_c hk hj hv h1, psz_c hk hj hv h1]
      · rw [psz_b hk hj hv h1, psz_b hk hj hv h1, (h j hj h1 hbj).1]
    · unfold psz
      rw [if_pos (Or.inl hk), if_pos (Or.inl hk)]
  refine ⟨e1, ?_⟩
  funext k
  by_cases hz : psz R s f b k = 0
  · have hz' : psz R s f' b k = 0 := by rw [← e1]; exact hz
    unfold pal
    rw [if_pos hz, if_pos hz']
  · have hz' : psz R s f' b k ≠ 0 := by rw [← e1]; exact hz
    have hk : k < 12 := by
      by_cases hk : k < 12
      · exact hk
      · exfalso; apply hz; unfold psz; rw [if_pos (Or.inl hk)]
    rcases slot_of hI hb hk with hv | ⟨j, hj, hv, hbj, h1 | h1⟩
    · exact absurd (psz_n hv) hz
    · rw [pal_c hj hv h1 hz, pal_c hj hv h1 hz']
    · rw [pal_b hj hv h1 hz, pal_b hj hv h1 hz', (h j hj h1 hbj).2]
theorem dq_le {R : RV} (hI : InvT R) {j : Nat} (hj : j < 12) (hk : ¬R 2 j = nI 0) : dq R j ≤ 4 := by
  unfold dq
  rw [dpt_up (hI.2.2.2 j hj hk) (m := 5) (by omega)]
  exact dpt_le
theorem dpt_dq {R : RV} (hI : InvT R) {j : Nat} (hj : j < 12) (hk : R 2 j = nI 2) : dpt R 5 j = dq R j + 1 := by
  unfold dq
  rw [dpt_s, if_pos ⟨hj, hk⟩, dpt_up (hI.2.2.2 j hj (k2_ne0 hk)) (m := 5) (by omega)]
theorem fN_eq {R : RV} (hI : InvT R) {s b : Nat} (hb : b < 12) (hk : R 2 b = nI 2) : fN R s b = pnl (SZ R s b) (AL R s b) 0 (IT R s b) + vn (R 9 (b * 2 + s)) ∧ aN R s b = gal (SZ R s b) (AL R s b) (grn s) 12 := by
  have hd := dq_le hI hb (k2_ne0 hk)
  obtain ⟨n, hn⟩ : ∃ n, 5 - dq R b = n + 1 := ⟨4 - dq R b, by omega⟩
  obtain ⟨c1, c2⟩ := psz_cong hI (s := s) (b := b) (f := fun j => (nda R s n j).1) (f' := fN R s) (a := fun j => (nda R s n j).2) (a' := aN R s) (by omega) (fun j hj h2 hbj => by
    have e := dq_s hI hj (k2_ne0 h2) (by omega)
    rw [hbj] at e
    have : 5 - dq R j = n := by omega
    unfold fN aN
    rw [this]
    exact ⟨rfl, rfl⟩)
  unfold IT SZ AL
  rw [← c1, ← c2]
  constructor
  · show (nda R s (5 - dq R b) b).1 = _
    rw [hn]
    rfl
  · show (nda R s (5 - dq R b) b).2 = _
    rw [hn]
    rfl
theorem pnl_mod {sz al : Nat → Nat} {g : Nat} (hg : 0 < g) : ∀ (l : List Nat) (pos : Nat), pos % g = 0 → (∀ x, x ∈ l → sz x % g = 0 ∧ ∃ e, al x = g * 2 ^ e) → pnl sz al pos l % g = 0 := by
  intro l
  induction l with
  | nil => intro pos h _; exact h
  | cons x l ih =>
    intro pos h hl
    obtain ⟨h1, e, h2⟩ := hl x (List.mem_cons_self ..)
    refine ih _ ?_ (fun y hy => hl y (List.mem_cons_of_mem _ hy))
    rw [Nat.add_mod, mod_dvd (up_mod pos (al x)) ⟨2 ^ e, h2⟩, h1, Nat.zero_add, Nat.zero_mod]
/-- the parts of a bus -/
theorem pf_of {R : RV} (hO : OK R) {s b M : Nat} {f a : Nat → Nat} (hb : b < 13) (hs : s < 2) (hf : ∀ j, j < 12 → R 2 j = nI 2 → bn R j = b → f j ≤ M ∧ f j % grn s = 0 ∧ ∃ e, e ≤ lex s ∧ a j = grn s * 2 ^ e) :
    (∀ k, k < 12 → psz R s f b k ≠ 0 → ∃ e, e ≤ lex s ∧ pal R s f a b k = grn s * 2 ^ e) ∧ (∀ k, psz R s f b k % grn s = 0) ∧ pnl (psz R s f b) (pal R s f a b) 0 (itl (psz R s f b) (pal R s f a b) 12) ≤ 4 * max 3072 (M + 1024) ∧ ∀ k, psz R s f b k ≤ max 1024 M := by
  have hg := @grn_le s
  have card : ∀ j q, j < 12 → q < 3 → R 6 (j * 3 + q) = nI s → (vn (R 7 (j * 3 + q)) = 0 ∨ ∃ e, e ≤ lex s ∧ vn (R 7 (j * 3 + q)) = grn s * 2 ^ e) := fun j q hj hq h6 => by
    obtain ⟨sp, s1, s2, s3⟩ := hO.2.2.2.1 j q hj hq
    rw [h6, nI_eqc (by omega) (by omega)] at s2
    subst s2
    rcases s3 with ⟨s4, -⟩ | ⟨e, he, s4⟩
    · rw [s4]; exact Or.inl (vn_n (by omega))
    · have := sz_lt he
      rw [s4, vn_n (by omega)]
      exact Or.inr ⟨e, he, rfl⟩
  have hA : ∀ k, k < 12 → psz R s f b k ≠ 0 → ∃ e, e ≤ lex s ∧ pal R s f a b k = grn s * 2 ^ e := fun k hk hz => by
    rcases slot_of hO.T hb hk with hv | ⟨j, hj, hv, hbj, h1 | h1⟩
    · exact absurd (psz_n hv) hz
    · rw [pal_c hj hv h1 hz]
      rw [psz_c hk hj hv h1] at hz
      by_cases h6 : R 6 (j * 3 + k % 3) = nI s
      · rw [if_pos h6] at hz
        exact (card j (k % 3) hj (by omega) h6).resolve_left hz
      · rw [if_neg h6] at hz; exact absurd rfl hz
    · rw [pal_b hj hv h1 hz]
      exact (hf j hj h1 hbj).2.2
  have hBig : ∀ k, ¬k < 12 → psz R s f b k = 0 := fun k hk => by unfold psz; rw [if_pos (Or.inl hk)]
  have hB : ∀ k, psz R s f b k % grn s = 0 := fun k => by
    by_cases hk : k < 12
    · rcases slot_of hO.T hb hk with hv | ⟨j, hj, hv, hbj, h1 | h1⟩
      · rw [psz_n hv]; exact Nat.zero_mod _
      · rw [psz_c hk hj hv h1]
        by_cases h6 : R 6 (j * 3 + k % 3) = nI s
        · rw [if_pos h6]
          rcases card j (k % 3) hj (by omega) h6 with q | ⟨e, -, q⟩
          · rw [q]; exact Nat.zero_mod _
          · rw [q]; exact Nat.mul_mod_right _ _
        · rw [if_neg h6]; exact Nat.zero_mod _
      · rw [psz_b hk hj hv h1]
        by_cases hz : ¬R 12 j = -5 ∧ k % 3 = 0
        · rw [if_pos hz]; exact (hf j hj h1 hbj).2.1
        · rw [if_neg hz]; exact Nat.zero_mod _
    · rw [hBig k hk]; exact Nat.zero_mod _
  have hC7 : ∀ j q, j < 12 → q < 3 → vn (R 7 (j * 3 + q)) ≤ 1024 := fun j q hj hq => by
    obtain ⟨n, n1, n2⟩ := hO.sz7 hj hq
    rw [n2, vn_n (by omega)]; exact n1
  have hD : ∀ k, psz R s f b k ≤ max 1024 M := fun k => by
    by_cases hk : k < 12
    · rcases slot_of hO.T hb hk with hv | ⟨j, hj, hv, hbj, h1 | h1⟩
      · rw [psz_n hv]; exact Nat.zero_le _
      · rw [psz_c hk hj hv h1]
        have := hC7 j (k % 3) hj (by omega)
        split <;> omega
      · rw [psz_b hk hj hv h1]
        have := (hf j hj h1 hbj).1
        split <;> omega
    · rw [hBig k hk]; exact Nat.zero_le _
  refine ⟨hA, hB, ?_, hD⟩
  have hw := pnl_bound (sz := psz R s f b) (al := pal R s f a b) (w := fun k => if R 2 (vn (R 5 (b * 4 + k / 3))) = nI 1 then psz R s f b k else psz R s f b k + 1024) (g := grn s) (by omega) (itl (psz R s f b) (pal R s f a b) 12) 0 0 (srt_itl 12) (fun x hx => by
      obtain ⟨x1, x2⟩ := (itl_mem 12).mp hx
      obtain ⟨e, -, h⟩ := hA x x1 x2
      exact ⟨e, h⟩) (fun _ => Nat.le_refl _) (fun x l' hl => by
      have hx : x ∈ itl (psz R s f b) (pal R s f a b) 12 := by rw [hl]; exact List.mem_cons_self ..
      obtain ⟨x1, x2⟩ := (itl_mem 12).mp hx
      obtain ⟨e, -, h⟩ := hA x x1 x2
      rw [up_id (by rw [h]; exact Nat.mul_pos (by omega) (Nat.pow_pos (by omega))) (Nat.zero_mod _)]
      exact Nat.le_refl _) (fun x hx => by
      obtain ⟨x1, x2⟩ := (itl_mem 12).mp hx
      rcases slot_of hO.T hb x1 with hv | ⟨j, hj, hv, hbj, h1 | h1⟩
      · exact absurd (psz_n hv) x2
      · left
        refine ⟨?_, ?_⟩
        · rw [pal_c hj hv h1 x2]
          have ps := psz_c (s := s) (f := f) x1 hj hv h1
          by_cases h6 : R 6 (j * 3 + x % 3) = nI s
          · rw [if_pos h6] at ps; exact ps
          · rw [if_neg h6] at ps; exact absurd ps x2
        · show _ ≤ if _ then _ else _
          rw [hv, vn_n (by omega), if_pos h1]
          exact Nat.le_refl _
      · right
        show _ ≤ if _ then _ else _
        rw [hv, vn_n (by omega), if_neg (by rw [h1]; decide)]
        obtain ⟨e, he, h⟩ := hA x x1 x2
        have := sz_lt he
        omega)
  rw [lsum_itl, Nat.zero_add] at hw
  refine Nat.le_trans hw ?_
  rw [show (12 : Nat) = 4 * 3 from rfl]
  refine wsum_le 4 (fun t ht => ?_)
  rcases slot_of hO.T (k := t * 3) hb (by omega) with hv | ⟨j, hj, hv, hbj, h1 | h1⟩
  · rw [show t * 3 / 3 = t by omega] at hv
    rw [psz_n (by rw [show t * 3 / 3 = t by omega]; exact hv), psz_n (by rw [show (t * 3 + 1) / 3 = t by omega]; exact hv), psz_n (by rw [show (t * 3 + 2) / 3 = t by omega]; exact hv)]
    simp
  · rw [show t * 3 / 3 = t by omega] at hv
    have w3 : ∀ q, q < 3 → (if psz R s f b (t * 3 + q) = 0 then 0 else (fun k => if R 2 (vn (R 5 (b * 4 + k / 3))) = nI 1 then psz R s f b k else psz R s f b k + 1024) (t * 3 + q)) ≤ 1024 := fun q hq => by
      have hv' : R 5 (b * 4 + (t * 3 + q) / 3) = nI j := by rw [show (t * 3 + q) / 3 = t by omega]; exact hv
      dsimp only
      rw [hv', vn_n (by omega), if_pos h1, psz_c (by omega) hj hv' h1, show (t * 3 + q) % 3 = q by omega]
      have := hC7 j q hj hq
      (repeat' split) <;> omega
    have a0 := w3 0 (by omega)
    have a1 := w3 1 (by omega)
    have a2 := w3 2 (by omega)
    rw [Nat.add_zero] at a0
    dsimp only at a0 a1 a2
    omega
  · rw [show t * 3 / 3 = t by omega] at hv
    have w0 : ∀ q, q < 3 → ¬q = 0 → psz R s f b (t * 3 + q) = 0 := fun q hq h0 => by
      have hv' : R 5 (b * 4 + (t * 3 + q) / 3) = nI j := by rw [show (t * 3 + q) / 3 = t by omega]; exact hv
      rw [psz_b (by omega) hj hv' h1, if_neg (by omega)]
    have hv' : R 5 (b * 4 + (t * 3) / 3) = nI j := by rw [show (t * 3) / 3 = t by omega]; exact hv
    have a0 : psz R s f b (t * 3) ≤ M := by
      rw [psz_b (by omega) hj hv' h1]
      have := (hf j hj h1 hbj).1
      split <;> omega
    rw [w0 1 (by omega) (by omega), w0 2 (by omega) (by omega), if_pos rfl, if_pos rfl]
    rw [hv', vn_n (by omega), if_neg (show ¬R 2 j = nI 1 by rw [h1]; decide)]
    split <;> omega
theorem gal_ok {sz al : Nat → Nat} {s : Nat} : ∀ n, (∀ k, k < n → sz k ≠ 0 → ∃ e, e ≤ lex s ∧ al k = grn s * 2 ^ e) → ∃ e, e ≤ lex s ∧ gal sz al (grn s) n = grn s * 2 ^ e := by
  intro n
  induction n with
  | zero => intro _; exact ⟨0, Nat.zero_le _, by rw [Nat.pow_zero, Nat.mul_one]; rfl⟩
  | succ n ih =>
    intro h
    obtain ⟨e, e1, e2⟩ := ih (fun k hk => h k (by omega))
    rw [gal]
    by_cases hz : sz n = 0
    · rw [if_pos hz]; exact ⟨e, e1, e2⟩
    · obtain ⟨e', e1', e2'⟩ := h n (by omega) hz
      rw [if_neg hz]
      by_cases hm : gal sz al (grn s) n ≤ al n
      · exact ⟨e', e1', by rw [← e2']; omega⟩
      · exact ⟨e, e1, by rw [← e2]; omega⟩
theorem nd_ok {R : RV} (hO : OK R) {s : Nat} (hs : s < 2) : ∀ n b, b < 12 → R 2 b = nI 2 → dq R b + (n + 1) = 5 → fN R s b ≤ Mx (n + 1) ∧ fN R s b % grn s = 0 ∧ ∃ e, e ≤ lex s ∧ aN R s b = grn s * 2 ^ e := by
  have hg := @grn_le s
  have res : ∀ b, b < 12 → vn (R 9 (b * 2 + s)) ≤ 256 ∧ vn (R 9 (b * 2 + s)) % grn s = 0 := fun b hb => by
    obtain ⟨m, m1, m2⟩ := hO.2.2.2.2.1 b s hb hs
    have : m * grn s ≤ 16 * 16 := Nat.mul_le_mul m1 hg.2
    rw [m2, vn_n (by omega)]
    exact ⟨by omega, Nat.mul_mod_left _ _⟩
  have go : ∀ M b : Nat, b < 12 → R 2 b = nI 2 → (∀ j, j < 12 → R 2 j = nI 2 → bn R j = b → fN R s j ≤ M ∧ fN R s j % grn s = 0 ∧ ∃ e, e ≤ lex s ∧ aN R s j = grn s * 2 ^ e) → fN R s b ≤ 4 * max 3072 (M + 1024) + 256 ∧ fN R s b % grn s = 0 ∧ ∃ e, e ≤ lex s ∧ aN R s b = grn s * 2 ^ e := by
    intro M b hb hk hf
    obtain ⟨p1, p2, p3, p4⟩ := pf_of hO (b := b) (by omega) hs hf
    obtain ⟨e1, e2⟩ := fN_eq hO.T (s := s) hb hk
    obtain ⟨r1, r2⟩ := res b hb
    have hm : pnl (SZ R s b) (AL R s b) 0 (IT R s b) % grn s = 0 := pnl_mod (by omega) _ 0 (Nat.zero_mod _) (fun x hx => by
      obtain ⟨x1, x2⟩ := (itl_mem 12).mp hx
      obtain ⟨e, -, h⟩ := p1 x x1 x2
      exact ⟨p2 x, e, h⟩)
    have hp : pnl (SZ R s b) (AL R s b) 0 (IT R s b) ≤ 4 * max 3072 (M + 1024) := p3
    rw [e1, e2]
    refine ⟨by omega, ?_, gal_ok 12 p1⟩
    rw [Nat.add_mod, hm, r2, Nat.zero_add, Nat.zero_mod]
  intro n
  induction n with
  | zero =>
    intro b hb hk hd
    have hno : ∀ j, j < 12 → ¬R 2 j = nI 0 → ¬bn R j = b := fun j hj h2 hbj => by
      have e := dq_s hO.T hj h2 (by omega)
      have := dq_le hO.T hj h2
      rw [hbj] at e
      omega
    have hz : ∀ k, k < 12 → SZ R s b k = 0 := fun k hk12 => by
      rcases slot_of hO.T (b := b) (by omega) hk12 with hv | ⟨j, hj, hv, hbj, h1⟩
      · exact psz_n hv
      · exact absurd hbj (hno j hj (h1.elim k1_ne0 k2_ne0))
    obtain ⟨-, g2, g3⟩ := go 0 b hb hk (fun j hj h2 hbj => absurd hbj (hno j hj (k2_ne0 h2)))
    obtain ⟨e1, -⟩ := fN_eq hO.T (s := s) hb hk
    have hit : IT R s b = [] := by
      cases h : IT R s b with
      | nil => rfl
      | cons x l =>
        have hx : x ∈ IT R s b := by rw [h]; exact List.mem_cons_self ..
        obtain ⟨x1, x2⟩ := (itl_mem 12).mp hx
        exact absurd (hz x x1) x2
    rw [hit] at e1
    refine ⟨?_, g2, g3⟩
    rw [e1]
    show 0 + _ ≤ 256
    have := (res b hb).1
    omega
  | succ n ih =>
    intro b hb hk hd
    exact go (Mx (n + 1)) b hb hk (fun j hj h2 hbj => ih j hj h2 (by
      have e := dq_s hO.T hj (k2_ne0 h2) (by omega)
      rw [hbj] at e
      omega))
theorem Mx_le : ∀ n, n ≤ 5 → Mx n ≤ 894208 := by
  intro n hn
  have : n = 0 ∨ n = 1 ∨ n = 2 ∨ n = 3 ∨ n = 4 ∨ n = 5 := by omega
  rcases this with rfl | rfl | rfl | rfl | rfl | rfl <;> decide
/-- all that is to be known of the needs -/
theorem need_ok {R : RV} (hO : OK R) {s b : Nat} (hs : s < 2) (hb : b < 12) (hk : R 2 b = nI 2) : fN R s b ≤ 894208 ∧ fN R s b % grn s = 0 ∧ (∃ e, e ≤ lex s ∧ aN R s b = grn s * 2 ^ e) ∧ pnl (SZ R s b) (AL R s b) 0 (IT R s b) ≤ 894208 := by
  have hd := dq_le hO.T hb (k2_ne0 hk)
  obtain ⟨h1, h2, h3⟩ := nd_ok hO hs (4 - dq R b) b hb hk (by omega)
  have := Mx_le (4 - dq R b + 1) (by omega)
  refine ⟨by omega, h2, h3, ?_⟩
  have := (fN_eq hO.T (s := s) hb hk).1
  omega
/-- all that is to be known of the parts -/
theorem part_ok {R : RV} (hO : OK R) {s b : Nat} (hs : s < 2) (hb : b < 13) : (∀ k, k < 12 → SZ R s b k ≠ 0 → ∃ e, e ≤ lex s ∧ AL R s b k = grn s * 2 ^ e) ∧ (∀ k, SZ R s b k % grn s = 0) ∧ ∀ k, SZ R s b k ≤ 894208 := by
  obtain ⟨p1, p2, p3, p4⟩ := pf_of hO (s := s) (b := b) (M := 894208) (f := fN R s) (a := aN R s) hb hs (fun j hj h2 _ => by
    obtain ⟨g1, g2, g3, -⟩ := need_ok hO hs hj h2
    exact ⟨g1, g2, g3⟩)
  refine ⟨p1, p2, fun k => ?_⟩
  have : SZ R s b k ≤ max 1024 894208 := p4 k
  omega
