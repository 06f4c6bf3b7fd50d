/-! plugs -/
theorem lg_self (x : Int64) : lg_cmp x x = nI 0 := by
  unfold lg_cmp
  simp
  rfl
theorem nI_ne4 {a : Nat} (ha : a < 2147483648) : (nI a = -4) = False := by
  have h1 : (nI a).toInt = (a : Int) := nI_toInt (by omega)
  have h2 : (-4 : Int32).toInt = -4 := by decide
  refine eq_false fun q => ?_
  rw [q, h2] at h1
  omega
def lqF (R : RV) (e : Nat) : Nat → Nat
  | 0 => 0
  | q + 1 => lqF R e q + if R 8 (e * 3 + q) = -5 then 0 else 1
theorem lqF_3 (R : RV) (e : Nat) : lqF R e 3 = lost R e := by
  show 0 + _ + _ + _ = _
  rw [Nat.zero_add]
  rfl
theorem Op.yes {k : Nat} {ls : List AV} {R R' : RV} {n : Nat} (h : Op k ls R (nI n) R') (hn : n < 2147483648) (hO : OK R') (hX : OX R') (d L : Nat) {mu : RV} {p : Nat → Nat} (hR : Rel mu p) (hm : rk mu 1 = R) : ∃ mu' p', Post mu p R' mu' p' ∧ zsem (d + 8) k 0 ls [] (HH L mu p) = some (some (.inl (nI n)), HH L mu' p') := by
  rcases h.go hO hX d L hR hm with ⟨h1, -⟩ | ⟨-, h2⟩
  · rw [nI_ltc hn (by omega)] at h1
    omega
  · exact h2
/-- the count of bases -/
theorem y_plL (d L : Nat) {mu : RV} {p : Nat → Nat} (hR : Rel mu p) {R : RV} (hm : rk mu 1 = R) {e : Nat} (he : e < 12) (hk : R 2 e = nI 1) (x u s5 : Int32) (v : Int64) : ∀ m q, q + m = 3 →
    zsem (d + 10) 104 73 [.inr (.inl (some 0)), .inl x, .inl u, .inr (.inr v), .inr (.inl none), .inl s5, .inl (nI e), .inl (nI (lqF R e q)), .inl (nI q)] [] (HH L mu p) = zsem (d + 10) 104 106 [.inr (.inl (some 0)), .inl x, .inl u, .inr (.inr v), .inr (.inl none), .inl s5, .inl (nI e), .inl (nI (lost R e)), .inl (nI 3)] [] (HH L mu p) := by
  intro m
  induction m with
  | zero =>
    intro q hq
    have : q = 3 := by omega
    subst this
    rw [lqF_3, h104_73]
    simp (disch := first | omega | assumption) only [h104_75, h104_76, Option.bind_some, Option.toList_some, Option.toList_none, List.cons_append, List.nil_append, nI_ltc, nI_lec, nI_eqc, nI_ne5, n5_ne, n5_lt, bI_0, bI_1, nI_add, pk_mul, if_pos, if_neg, ite_not, if_true, if_false, not_true_eq_false, not_false_eq_true, true_and, false_and, and_true, and_false, Nat.reduceAdd, Nat.reduceMul]
  | succ m ih =>
    intro q hq
    have hkm : mu 2 e = nI 1 := by rw [← rk_2 (mu := mu) he, hm]; exact hk
    have c1 := y_base (d + 7) L mu p e q he hkm (by omega)
    rw [← ih (q + 1) (by omega), h104_73]
    have e8 : mu 8 (e * 3 + q) = R 8 (e * 3 + q) := by rw [← hm, rk_8 (by omega)]
    have hl : lqF R e (q + 1) = lqF R e q + if R 8 (e * 3 + q) = -5 then 0 else 1 := rfl
    rcases hR.2.2.1.rv he (q := q) (by omega) with g | ⟨-, s, a, n, -, g2, -, -, -, g6, -⟩
    · rw [hm] at g
      rw [e8, g] at c1
      rw [hl, if_pos g]
      simp (disch := first | omega | assumption) only [h104_0, h104_1, h104_4, h104_5, h104_6, h104_9, h104_10, h104_11, h104_14, h104_15, h104_18, h104_19, h104_22, h104_23, h104_26, h104_27, h104_30, h104_31, h104_32, h104_35, h104_36, h104_39, h104_40, h104_42, h104_43, h104_45, h104_48, h104_50, h104_52, h104_55, h104_56, h104_58, h104_61, h104_64, h104_66_0, h104_66_1, h104_66_b, h104_67, h104_68, h104_70, h104_71, h104_75, h104_76, h104_79, h104_81, h104_82, h104_84, h104_86, h104_89, h104_92, h104_93, h104_96, h104_97, h104_98, h104_100, h104_103, h104_106, h104_107, h104_109, h104_112, h104_114, h104_117, h104_118, h104_121, h104_122, h104_124, h104_125, h104_128, h104_129, h104_132, h104_133, h104_135, h104_136, h104_138, h104_141, h104_143, h104_145, h104_148, h104_150, h104_152, h104_155, h104_157, h104_160, h104_163, h104_165, h104_168, h104_169, h104_172, h104_173, h104_175, h104_176, h104_178, h104_179, h104_182, h104_183, h104_185, h104_188, h104_191, h104_192, h104_195, h104_196_0, h104_196_1, h104_196_b, Option.bind_some, Option.toList_some, Option.toList_none, List.cons_append, List.nil_append, nI_ltc, nI_lec, nI_eqc, nI_ne5, n5_ne, n5_lt, bI_0, bI_1, nI_add, pk_mul, if_pos, if_neg, ite_not, if_true, if_false, not_true_eq_false, not_false_eq_true, true_and, false_and, and_true, and_false, Nat.reduceAdd, Nat.reduceMul, c1, n5_lt, Nat.add_zero]
    · rw [hm] at g6
      rw [e8, g6] at c1
      rw [hl, if_neg (by rw [g6, nI_ne5 (by omega)]; exact id)]
      simp (disch := first | omega | assumption) only [h104_0, h104_1, h104_4, h104_5, h104_6, h104_9, h104_10, h104_11, h104_14, h104_15, h104_18, h104_19, h104_22, h104_23, h104_26, h104_27, h104_30, h104_31, h104_32, h104_35, h104_36, h104_39, h104_40, h104_42, h104_43, h104_45, h104_48, h104_50, h104_52, h104_55, h104_56, h104_58, h104_61, h104_64, h104_66_0, h104_66_1, h104_66_b, h104_67, h104_68, h104_70, h104_71, h104_75, h104_76, h104_79, h104_81, h104_82, h104_84, h104_86, h104_89, h104_92, h104_93, h104_96, h104_97, h104_98, h104_100, h104_103, h104_106, h104_107, h104_109, h104_112, h104_114, h104_117, h104_118, h104_121, h104_122, h104_124, h104_125, h104_128, h104_129, h104_132, h104_133, h104_135, h104_136, h104_138, h104_141, h104_143, h104_145, h104_148, h104_150, h104_152, h104_155, h104_157, h104_160, h104_163, h104_165, h104_168, h104_169, h104_172, h104_173, h104_175, h104_176, h104_178, h104_179, h104_182, h104_183, h104_185, h104_188, h104_191, h104_192, h104_195, h104_196_0, h104_196_1, h104_196_b, Option.bind_some, Option.toList_some, Option.toList_none, List.cons_append, List.nil_append, nI_ltc, nI_lec, nI_eqc, nI_ne5, n5_ne, n5_lt, bI_0, bI_1, nI_add, pk_mul, if_pos, if_neg, ite_not, if_true, if_false, not_true_eq_false, not_false_eq_true, true_and, false_and, and_true, and_false, Nat.reduceAdd, Nat.reduceMul, c1]
theorem y_plugs (d L : Nat) {mu : RV} {p : Nat → Nat} (hR : Rel mu p) (x : Int32) : ∃ mu' p', Rel mu' p' ∧ zsem (d + 10) 104 0 [.inr (.inl (some 0)), .inl x, .inr (.inl none), .inr (.inl none), .inr (.inl none), .inr (.inl none), .inr (.inl none), .inr (.inl none), .inr (.inl none)] [] (HH L mu p) = some (some (.inl (nI 1)), HH L mu' p') := by
  obtain ⟨hO1, hX1, o1⟩ := op_enum hR.2.2.1 hR.2.2.2
  obtain ⟨mu1, p1, ⟨hR1, hm1, -⟩, e1⟩ := o1.yes (by have := upF_le (enR (rk mu 1)); omega) hO1 hX1 (d + 1) L hR rfl
  generalize hRR : enR (rk mu 1) = R at *
  obtain ⟨mu2, f2, e2⟩ := y_print (d + 4) L mu1 p1 hR1 hm1
  have hm2 : rk mu2 1 = R := by rw [f2.rk (by omega)]; exact hm1
  have hR2 := Rel_fr hR1 f2
  have e3 := y_unplaced (d + 8) L mu2 p1
  rw [upF_rk, hm2] at e3
  obtain ⟨hO4, hX4, o4⟩ := op_enum hO1 hX1
  have hid : enR R = R := by
    have := en_idem (mu := mu) (mu' := mu1) (by rw [hm1, hRR])
    rw [hm1, hRR] at this
    exact this
  rw [hid] at o4
  obtain ⟨mu4, p4, ⟨hR4, hm4, -⟩, e4⟩ := o4.yes (by have := upF_le R; omega) hO1 hX1 (d + 1) L hR2 hm2
  obtain ⟨mu5, f5, e5⟩ := y_print (d + 4) L mu4 p4 hR4 hm4
  have hm5 : rk mu5 1 = R := by rw [f5.rk (by omega)]; exact hm4
  have hR5 := Rel_fr hR4 f5
  have l1 := y_low (d + 9) L mu5 p4 x 12 (by omega) (by omega)
  have he := lowN_lt x (n := 12) (by omega)
  generalize lowN x 12 = e at *
  have c6 := y_isCard (d + 6) L mu5 p4 e he
  have hls := lg_self (prV R)
  by_cases hk : R 2 e = nI 1
  · have hkm : mu5 2 e = nI 1 := by rw [← rk_2 (mu := mu5) he, hm5]; exact hk
    rw [bI_t hkm] at c6
    have e7 := y_plL d L hR5 hm5 he hk x (nI (upF R)) (nI 1) (prV R) 3 0 rfl
    have e7' : lqF R e 0 = 0 := rfl
    rw [e7'] at e7
    -- unplugged
    have hI := hO1.1
    have hfam := fam_card hI hk
    obtain ⟨hO8, hX8, o8⟩ := op_detach hO1 hX1 he (k1_ne0 hk)
    rw [lostS_one hfam 12 (Nat.le_refl _), if_pos he] at o8
    have hU8 := upF_rel hO1 he hfam
    have hll := lost_le R e
    have hul := upF_le R
    obtain ⟨mu8, p8, ⟨hR8, hm8, -⟩, e8⟩ := o8.yes (by omega) hO8 hX8 (d + 1) L hR5 hm5
    have e9 := y_unplaced (d + 8) L mu8 p8
    rw [upF_rk, hm8, hU8] at e9
    have r2 : relS R (famB R e) 12 2 = R 2 := relS_row (by omega)
    have r3 : relS R (famB R e) 12 3 = R 3 := relS_row (by omega)
    have hbn : bn (relS R (famB R e) 12) = bn R := bn_cong r3
    have hk8 : relS R (famB R e) 12 2 e = nI 1 := by rw [r2]; exact hk
    have hkm8 : ¬relS R (famB R e) 12 2 e = nI 0 := k1_ne0 hk8
    have head : ∀ {r : Option (Option AV × AH)}, zsem (d + 10) 104 106 [.inr (.inl (some 0)), .inl x, .inl (nI (upF R)), .inr (.inr (prV R)), .inr (.inl none), .inl (nI 1), .inl (nI e), .inl (nI (lost R e)), .inl (nI 3)] [] (HH L mu5 p4) = r → zsem (d + 10) 104 0 [.inr (.inl (some 0)), .inl x, .inr (.inl none), .inr (.inl none), .inr (.inl none), .inr (.inl none), .inr (.inl none), .inr (.inl none), .inr (.inl none)] [] (HH L mu p) = r := fun {r} h => by
      rw [← h, ← e7]
      simp (disch := first | omega | assumption) only [h104_0, h104_1, h104_4, h104_5, h104_6, h104_9, h104_10, h104_11, h104_14, h104_15, h104_18, h104_19, h104_22, h104_23, h104_26, h104_27, h104_30, h104_31, h104_32, h104_35, h104_36, h104_39, h104_40, h104_42, h104_43, h104_45, h104_48, h104_50, h104_52, h104_55, h104_56, h104_58, h104_61, h104_64, h104_66_0, h104_66_1, h104_66_b, h104_67, h104_68, h104_70, h104_71, h104_75, h104_76, h104_79, h104_81, h104_82, h104_84, h104_86, h104_89, h104_92, h104_93, h104_96, h104_97, h104_98, h104_100, h104_103, h104_106, h104_107, h104_109, h104_112, h104_114, h104_117, h104_118, h104_121, h104_122, h104_124, h104_125, h104_128, h104_129, h104_132, h104_133, h104_135, h104_136, h104_138, h104_141, h104_143, h104_145, h104_148, h104_150, h104_152, h104_155, h104_157, h104_160, h104_163, h104_165, h104_168, h104_169, h104_172, h104_173, h104_175, h104_176, h104_178, h104_179, h104_182, h104_183, h104_185, h104_188, h104_191, h104_192, h104_195, h104_196_0, h104_196_1, h104_196_b, Option.bind_some, Option.toList_some, Option.toList_none, List.cons_append, List.nil_append, nI_ltc, nI_lec, nI_eqc, nI_ne5, n5_ne, n5_lt, bI_0, bI_1, nI_add, pk_mul, if_pos, if_neg, ite_not, if_true, if_false, not_true_eq_false, not_false_eq_true, true_and, false_and, and_true, and_false, Nat.reduceAdd, Nat.reduceMul, e1, e2, e3, e4, e5, l1, c6, hls, eq_self]
    rcases at_bus hO8 he hkm8 with ⟨b1, b2, b3⟩ | ⟨nb, la, hnb⟩
    · have e10 := op_attN hO8 he hkm8 b1 b2 b3 (d + 1) L mu8 p8 hR8 hm8
      rw [hbn] at b1 b2 b3
      have hne : ¬famB R e (bn R e) = true := fun q => by
        have := (hfam _ b1).mp q
        rw [this, hk8] at b2
        exact absurd b2 (by decide)
      rw [(relS_k (R := R) (f := famB R e) (n := 12) (d := bn R e) (fun q => hne q.2)).1] at b3
      have hl0 := no_base hO1 hX1 he b1 b3
      rw [hl0] at head e8 e9
      refine ⟨mu8, p8, hR8, head ?_⟩
      simp (disch := first | omega | assumption) only [h104_0, h104_1, h104_4, h104_5, h104_6, h104_9, h104_10, h104_11, h104_14, h104_15, h104_18, h104_19, h104_22, h104_23, h104_26, h104_27, h104_30, h104_31, h104_32, h104_35, h104_36, h104_39, h104_40, h104_42, h104_43, h104_45, h104_48, h104_50, h104_52, h104_55, h104_56, h104_58, h104_61, h104_64, h104_66_0, h104_66_1, h104_66_b, h104_67, h104_68, h104_70, h104_71, h104_75, h104_76, h104_79, h104_81, h104_82, h104_84, h104_86, h104_89, h104_92, h104_93, h104_96, h104_97, h104_98, h104_100, h104_103, h104_106, h104_107, h104_109, h104_112, h104_114, h104_117, h104_118, h104_121, h104_122, h104_124, h104_125, h104_128, h104_129, h104_132, h104_133, h104_135, h104_136, h104_138, h104_141, h104_143, h104_145, h104_148, h104_150, h104_152, h104_155, h104_157, h104_160, h104_163, h104_165, h104_168, h104_169, h104_172, h104_173, h104_175, h104_176, h104_178, h104_179, h104_182, h104_183, h104_185, h104_188, h104_191, h104_192, h104_195, h104_196_0, h104_196_1, h104_196_b, Option.bind_some, Option.toList_some, Option.toList_none, List.cons_append, List.nil_append, nI_ltc, nI_lec, nI_eqc, nI_ne5, n5_ne, n5_lt, bI_0, bI_1, nI_add, pk_mul, if_pos, if_neg, ite_not, if_true, if_false, not_true_eq_false, not_false_eq_true, true_and, false_and, and_true, and_false, Nat.reduceAdd, Nat.reduceMul, e8, e9, e10, eq_self]
    · obtain ⟨-, -, -, R1, R2, R3, c0, c1, c2, -, -, s0, s1, s2, -, -⟩ := z_attachCard 0 0 mu8 p8 hR8 he (by rw [hm8]; exact hk8)
      rw [hm8] at s0
      obtain ⟨hO9, hX9, o9⟩ := op_attC hO8 hX8 he hk8 hnb s0 s1 s2
      obtain ⟨hOa, ka, l0⟩ := CStep_OK hO8 he (by omega) hk8 s0
      obtain ⟨hOb, kb, l1'⟩ := CStep_OK hOa he (by omega) ka s1
      obtain ⟨hOc, kc, l2⟩ := CStep_OK hOb he (by omega) kb s2
      obtain ⟨mu9, p9, ⟨hR9, hm9, -⟩, e10⟩ := o9.yes (by omega) hO9 hX9 (d + 1) L hR8 hm8
      have u0 := upF_CStep hO8 he (by omega) s0
      have u1 := upF_CStep hOa he (by omega) s1
      have u2 := upF_CStep hOb he (by omega) s2
      have e11 := y_unplaced (d + 8) L mu9 p9
      rw [upF_rk, hm9] at e11
      have x0 := CStep_ext s0
      have x1 := CStep_ext s1
      have x2 := CStep_ext s2
      have t0 := CStep_stay (x1.t x2) (CStep_done s0)
      have t1 := CStep_stay x2 (CStep_done s1)
      have t2 := CStep_done s2
      have hx := x0.t (x1.t x2)
      obtain ⟨hO12, hX12, o12⟩ := op_attC hO9 hX9 he kc (numb_ext hx (by rw [bn_ext hx]; exact hnb)) t0 t1 t2
      obtain ⟨mu12, p12, ⟨hR12, hm12, -⟩, e12⟩ := o12.yes (by omega) hO12 hX12 (d + 1) L hR9 hm9
      have hsub : nI (upF R + lost R e) - nI (c0 + c1 + c2) = nI (upF R3) := by
        rw [nI_sub (by omega)]
        congr 1
        omega
      have hn4 := @nI_ne4 (c0 + c1 + c2) (by omega)
      refine ⟨mu12, p12, hR12, head ?_⟩
      simp (disch := first | omega | assumption) only [h104_0, h104_1, h104_4, h104_5, h104_6, h104_9, h104_10, h104_11, h104_14, h104_15, h104_18, h104_19, h104_22, h104_23, h104_26, h104_27, h104_30, h104_31, h104_32, h104_35, h104_36, h104_39, h104_40, h104_42, h104_43, h104_45, h104_48, h104_50, h104_52, h104_55, h104_56, h104_58, h104_61, h104_64, h104_66_0, h104_66_1, h104_66_b, h104_67, h104_68, h104_70, h104_71, h104_75, h104_76, h104_79, h104_81, h104_82, h104_84, h104_86, h104_89, h104_92, h104_93, h104_96, h104_97, h104_98, h104_100, h104_103, h104_106, h104_107, h104_109, h104_112, h104_114, h104_117, h104_118, h104_121, h104_122, h104_124, h104_125, h104_128, h104_129, h104_132, h104_133, h104_135, h104_136, h104_138, h104_141, h104_143, h104_145, h104_148, h104_150, h104_152, h104_155, h104_157, h104_160, h104_163, h104_165, h104_168, h104_169, h104_172, h104_173, h104_175, h104_176, h104_178, h104_179, h104_182, h104_183, h104_185, h104_188, h104_191, h104_192, h104_195, h104_196_0, h104_196_1, h104_196_b, Option.bind_some, Option.toList_some, Option.toList_none, List.cons_append, List.nil_append, nI_ltc, nI_lec, nI_eqc, nI_ne5, n5_ne, n5_lt, bI_0, bI_1, nI_add, pk_mul, if_pos, if_neg, ite_not, if_true, if_false, not_true_eq_false, not_false_eq_true, true_and, false_and, and_true, and_false, Nat.reduceAdd, Nat.reduceMul, e8, e9, e10, e11, e12, hsub, hn4, eq_self]
  · have hkm : ¬mu5 2 e = nI 1 := by rw [← rk_2 (mu := mu5) he, hm5]; exact hk
    rw [bI_f hkm] at c6
    refine ⟨mu5, p4, hR5, ?_⟩
    simp (disch := first | omega | assumption) only [h104_0, h104_1, h104_4, h104_5, h104_6, h104_9, h104_10, h104_11, h104_14, h104_15, h104_18, h104_19, h104_22, h104_23, h104_26, h104_27, h104_30, h104_31, h104_32, h104_35, h104_36, h104_39, h104_40, h104_42, h104_43, h104_45, h104_48, h104_50, h104_52, h104_55, h104_56, h104_58, h104_61, h104_64, h104_66_0, h104_66_1, h104_66_b, h104_67, h104_68, h104_70, h104_71, h104_75, h104_76, h104_79, h104_81, h104_82, h104_84, h104_86, h104_89, h104_92, h104_93, h104_96, h104_97, h104_98, h104_100, h104_103, h104_106, h104_107, h104_109, h104_112, h104_114, h104_117, h104_118, h104_121, h104_122, h104_124, h104_125, h104_128, h104_129, h104_132, h104_133, h104_135, h104_136, h104_138, h104_141, h104_143, h104_145, h104_148, h104_150, h104_152, h104_155, h104_157, h104_160, h104_163, h104_165, h104_168, h104_169, h104_172, h104_173, h104_175, h104_176, h104_178, h104_179, h104_182, h104_183, h104_185, h104_188, h104_191, h104_192, h104_195, h104_196_0, h104_196_1, h104_196_b, Option.bind_some, Option.toList_some, Option.toList_none, List.cons_append, List.nil_append, nI_ltc, nI_lec, nI_eqc, nI_ne5, n5_ne, n5_lt, bI_0, bI_1, nI_add, pk_mul, if_pos, if_neg, ite_not, if_true, if_false, not_true_eq_false, not_false_eq_true, true_and, false_and, and_true, and_false, Nat.reduceAdd, Nat.reduceMul, e1, e2, e3, e4, e5, l1, c6, hls, eq_self]
