/-! enumerate -/
theorem ex_nI (x : Int32) : ∃ g, x = nI g := by
  refine ⟨x.toBitVec.toNat, Int32.toBitVec_inj.1 ?_⟩
  show x.toBitVec = BitVec.ofNat 32 x.toBitVec.toNat
  simp
/-- no places in a space -/
def PL12 (R : RV) (s : Nat) : Prop := (∀ d q, d < 12 → q < 3 → R 2 d = nI 1 → R 6 (d * 3 + q) = nI s → R 8 (d * 3 + q) = -5) ∧ ∀ d, d < 12 → R 10 (d * 2 + s) = -5 ∧ R 11 (d * 2 + s) = nI 0
theorem PL12_f {R : RV} {s : Nat} (h : PL12 R s) : PLf R s 12 0 ∧ PLg R s 12 :=
  ⟨fun d hd _ _ => ⟨fun q hq k1 k6 => h.1 d q hd hq k1 k6, fun _ => h.2 d hd⟩, fun j hj _ _ => (h.2 j hj).1⟩
theorem PL12_1 {R : RV} (hO : OK R) (h0 : PL12 R 0) (h1 : PL12 R 1) : PL12 (ovl R 0 (stF R 0 12 0)) 1 := by
  have hL := ovl_L R 0 (stF R 0 12 0)
  have hr : PLr R 0 12 0 := Or.inl ⟨rfl, rfl⟩
  refine ⟨fun d q hd hq k1 k6 => ?_, fun d hd => ?_⟩
  · rw [hL 2 (by omega) (by omega) (by omega)] at k1
    rw [hL 6 (by omega) (by omega) (by omega)] at k6
    rw [ovl_8 hd hq k1]
    cases hz : stF R 0 12 0 (bn R d) (sn R d * 3 + q) with
    | none => exact h1.1 d q hd hq k1 k6
    | some z =>
      exfalso
      obtain ⟨g1, g2, -⟩ := stF_ok hO (by omega) hr _ _ _ hz
      obtain ⟨t1, t2⟩ := sn_ok hO.T hd (k1_ne0 k1)
      have hv : R 5 (bn R d * 4 + (sn R d * 3 + q) / 3) = nI d := by rw [show (sn R d * 3 + q) / 3 = sn R d by omega]; exact t2
      have ps : SZ R 0 (bn R d) (sn R d * 3 + q) = _ := psz_c (s := 0) (f := fN R 0) g2 hd hv k1
      rw [show (sn R d * 3 + q) % 3 = q by omega, k6, if_neg (by rw [nI_eqc (by omega) (by omega)]; omega)] at ps
      exact g1 ps
  · obtain ⟨o1, o2⟩ := ovl_10n (R := R) (s := 0) (i := d * 2 + 1) (st := stF R 0 12 0) (by omega)
    rw [o1, o2]
    exact h1.2 d hd
section
variable (d L : Nat) (mu : RV) (p : Nat → Nat)
theorem z_enL : ∀ m k, k + m = 12 → zsem (d + 2) 105 13 [.inr (.inl (some 0)), .inl (nI k)] [] (HH L (relS mu (fun _ => true) k) p) = zsem (d + 2) 105 13 [.inr (.inl (some 0)), .inl (nI 12)] [] (HH L (relS mu (fun _ => true) 12) p) := by
  intro m
  induction m with
  | zero =>
    intro k hk
    have : k = 12 := by omega
    subst this
    rfl
  | succ m ih =>
    intro k hk
    rw [← ih (k + 1) (by omega), h105_13, relS_s _ _ k rfl]
    simp (disch := first | omega | assumption) only [h105_0, h105_1, h105_4, h105_5, h105_8, h105_11, h105_12, h105_14, h105_16, h105_19, h105_20, h105_23, h105_24, h105_27, h105_28, h105_31, h105_34, h105_35, h105_38, h105_41, h105_42, h105_44, h105_45, h105_48, h105_49, h105_52, h105_53, h105_56, h105_57, h105_60, h105_61, h105_64, h105_65, h105_68, h105_70, h105_71, h105_74, h105_75, h105_78, h105_81, h105_82, h105_85, h105_88, Option.bind_some, Option.toList_some, Option.toList_none, List.cons_append, List.nil_append, nI_ltc, nI_lec, nI_eqc, nI_ne5, n5_ne, n5_lt, bI_0, bI_1, nI_add, pk_mul, if_pos, if_neg, ite_not, if_true, if_false, not_true_eq_false, not_false_eq_true, true_and, false_and, and_true, and_false, Nat.reduceAdd, Nat.reduceMul, z_release]
/-- one space: class -/
theorem z_enS {R : RV} (hO : OK R) {s : Nat} (hs : s < 2) (hP : PL12 R s) (hR : rk mu 1 = R) : ∃ mu', zsem (d + 4) 105 43 [.inr (.inl (some 0)), .inl (nI s)] [] (HH L mu p) = zsem (d + 4) 105 43 [.inr (.inl (some 0)), .inl (nI (s + 1))] [] (HH L mu' p) ∧ rk mu' 1 = ovl R s (stF R s 12 0) ∧ OK (ovl R s (stF R s 12 0)) ∧ ∀ r, ¬r = 8 → ¬r = 10 → ¬r = 11 → (r < 81 ∨ 87 < r) → mu' r = mu r := by
  obtain ⟨mu1, e1, e2, e3⟩ := z_measure d L p hO hs mu hR
  have hr : PLr R s 12 0 := Or.inl ⟨rfl, rfl⟩
  obtain ⟨mu2, f1, f2, f3⟩ := z_place d L p hO hs (b0 := 12) (by omega) hr mu1 (by rw [← hR]; exact rk_cong (fun r _ _ => e2 r (by omega))) e3
  refine ⟨mu2, ?_, f2, OK_ovl hO hs hr (PL12_f hP).1, fun r a b c e => by rw [f3 r a b c (by omega) (by omega), e2 r (by omega)]⟩
  rw [h105_43]
  simp (disch := first | omega | assumption) only [h105_0, h105_1, h105_4, h105_5, h105_8, h105_11, h105_12, h105_14, h105_16, h105_19, h105_20, h105_23, h105_24, h105_27, h105_28, h105_31, h105_34, h105_35, h105_38, h105_41, h105_42, h105_44, h105_45, h105_48, h105_49, h105_52, h105_53, h105_56, h105_57, h105_60, h105_61, h105_64, h105_65, h105_68, h105_70, h105_71, h105_74, h105_75, h105_78, h105_81, h105_82, h105_85, h105_88, Option.bind_some, Option.toList_some, Option.toList_none, List.cons_append, List.nil_append, nI_ltc, nI_lec, nI_eqc, nI_ne5, n5_ne, n5_lt, bI_0, bI_1, nI_add, pk_mul, if_pos, if_neg, ite_not, if_true, if_false, not_true_eq_false, not_false_eq_true, true_and, false_and, and_true, and_false, Nat.reduceAdd, Nat.reduceMul, e1, f1]
end
