/-! looks: the devices of the bus -/
noncomputable def wP (P : Nat → Prop) : Nat → Int32 := fun t => if tb (P t) = true then nI 1 else nI 0
noncomputable def LF (mu : RV) (P : Nat → Prop) : RV := fiB mu (wP P) 256
theorem LF_o {mu : RV} {P : Nat → Prop} {r t : Nat} (h : ¬r = 114) : LF mu P r t = mu r t := by
  unfold LF fiB
  rw [if_neg (fun q => h q.1)]
theorem LF_y {mu : RV} {P : Nat → Prop} {t : Nat} (h : t < 256) (hP : P t) : LF mu P 114 t = nI 1 := by
  unfold LF fiB wP
  rw [if_pos ⟨rfl, h⟩, if_pos ((tb_iff _).mpr hP)]
theorem LF_n {mu : RV} {P : Nat → Prop} {t : Nat} (h : t < 256) (hP : ¬P t) : LF mu P 114 t = nI 0 := by
  unfold LF fiB wP
  rw [if_pos ⟨rfl, h⟩, if_neg (fun q => hP ((tb_iff _).mp q))]
theorem LF_fc {mu : RV} {P Q : Nat → Prop} {u k : Nat} (hu : u + k ≤ 256) (h : ∀ t, t < 256 → (Q t ↔ P t ∧ ¬(u ≤ t ∧ t < u + k))) : fcB (LF mu P) u k = LF mu Q := by
  funext r t
  unfold fcB
  by_cases hr : r = 114
  · subst hr
    by_cases ht : t < 256
    · by_cases hc : u ≤ t ∧ t < u + k
      · rw [if_pos ⟨rfl, hc⟩, LF_n ht (fun q => ((h t ht).mp q).2 hc)]
      · rw [if_neg (fun q => hc q.2)]
        by_cases hP : P t
        · rw [LF_y ht hP, LF_y ht ((h t ht).mpr ⟨hP, hc⟩)]
        · rw [LF_n ht hP, LF_n ht (fun q => hP ((h t ht).mp q).1)]
    · rw [if_neg (by omega)]
      unfold LF fiB
      rw [if_neg (fun q => ht q.2), if_neg (fun q => ht q.2)]
  · rw [if_neg (fun q => hr q.1), LF_o hr, LF_o hr]
theorem LF_fc0 {mu : RV} {P Q : Nat → Prop} (h : ∀ t, t < 256 → (Q t ↔ P t)) : LF mu P = LF mu Q := by
  have := LF_fc (mu := mu) (P := P) (Q := Q) (u := 0) (k := 0) (by omega) (fun t ht => by rw [h t ht]; exact ⟨fun q => ⟨q, by omega⟩, fun q => q.1⟩)
  rw [fcB_0] at this
  exact this
theorem adr_fac {s : Nat} : adr s ≤ grn s * 256 ∧ adr s ≤ 4096 ∧ 256 ≤ adr s ∧ adr s % grn s = 0 := by
  unfold adr grn
  split <;> decide
theorem room_adr {R : RV} {s : Nat} (hW : InvW R s) : ∀ k b a n, rt R k b → room R s b a n → a + n ≤ adr s := by
  have hb : ∀ a n, room R s 12 a n → a + n ≤ adr s := by
    rintro a n (⟨-, h2, h3⟩ | ⟨h1, -⟩)
    · omega
    · omega
  intro k
  induction k with
  | zero =>
    intro b a n hr h
    have : b = 12 := hr
    subst this
    exact hb a n h
  | succ k ih =>
    intro b a n hr h
    rcases hr with rfl | ⟨h1, h2, h3⟩
    · exact hb a n h
    · obtain ⟨-, -, -, a0, n0, r1, r2, r3⟩ := hW.2.2.1 b 0 a n h1 (by omega) (room_cov h1 h).2
      have := ih (bn R b) a0 n0 h3 r1
      omega
theorem cov_grn {R : RV} {s : Nat} (hI : InvT R) (hW : InvW R s) {d q a n : Nat} (hd : d < 12) (hq : q < 3) (hc : cov R s d q a n) : ∃ u c, a = grn s * u ∧ n = grn s * c ∧ u + c ≤ 256 ∧ 0 < c ∧ a + n ≤ adr s := by
  obtain ⟨h1, h2, h3, a0, n0, r1, r2, r3⟩ := hW.2.2.1 d q a n hd hq hc
  have h4 := room_adr hW 4 (bn R d) a0 n0 (hI.2.2.2 d hd (cov_k hc)) r1
  have hg := @grn_le s
  have ha := @adr_fac s
  have e1 := Nat.div_add_mod a (grn s)
  have e2 := Nat.div_add_mod n (grn s)
  rw [h2, Nat.add_zero] at e1
  rw [h3, Nat.add_zero] at e2
  refine ⟨a / grn s, n / grn s, e1.symm, e2.symm, ?_, ?_, by omega⟩
  · have : grn s * (a / grn s + n / grn s) ≤ grn s * 256 := by rw [Nat.mul_add]; omega
    exact Nat.le_of_mul_le_mul_left this (by omega)
  · exact Nat.div_pos (by
      rcases Nat.eq_zero_or_pos (n / grn s) with z | z
      · rw [z, Nat.mul_zero] at e2; omega
      · have : grn s * 1 ≤ grn s * (n / grn s) := Nat.mul_le_mul_left _ z
        omega) (by omega)
theorem cov_t {g u c t : Nat} (hg : 0 < g) : (g * u ≤ t * g ∧ t * g < g * u + g * c) ↔ (u ≤ t ∧ t < u + c) := by
  rw [Nat.mul_comm t g, ← Nat.mul_add]
  constructor
  · rintro ⟨h1, h2⟩
    exact ⟨Nat.le_of_mul_le_mul_left h1 hg, Nat.lt_of_mul_lt_mul_left h2⟩
  · rintro ⟨h1, h2⟩
    exact ⟨Nat.mul_le_mul_left _ h1, Nat.mul_lt_mul_of_pos_left h2 hg⟩
/-- the part (j, q) leaves the grain t alone -/
def nov (R : RV) (s j q t : Nat) : Prop := ∀ a n, cov R s j q a n → ¬(a ≤ t * grn s ∧ t * grn s < a + n)
theorem cov_one {R : RV} {s d q a n a' n' : Nat} (hc : cov R s d q a n) (hc' : cov R s d q a' n') : a' = a ∧ n' = n := by
  obtain ⟨c1, c2, c3⟩ := hc
  obtain ⟨c1', c2', c3'⟩ := hc'
  rcases c3 with ⟨x1, x2, x3, x4⟩ | ⟨x1, x2, x3, x4⟩ <;> rcases c3' with ⟨y1, y2, y3, y4⟩ | ⟨y1, y2, y3, y4⟩
  · rw [x3, nI_eqc (by omega) (by omega)] at y3
    rw [x4, nI_eqc (by omega) (by omega)] at y4
    exact ⟨y3.symm, y4.symm⟩
  · rw [x1] at y2; exact absurd y2 (by decide)
  · rw [x2] at y1; exact absurd y1 (by decide)
  · rw [x3, nI_eqc (by omega) (by omega)] at y3
    rw [x4, nI_eqc (by omega) (by omega)] at y4
    exact ⟨y3.symm, y4.symm⟩
/-- what (j, q) covers is taken out -/
theorem nov_y {R : RV} {s j q u c : Nat} (hc : cov R s j q (grn s * u) (grn s * c)) (t : Nat) : nov R s j q t ↔ ¬(u ≤ t ∧ t < u + c) := by
  have hg := @grn_le s
  constructor
  · intro h q
    exact h _ _ hc ((cov_t (by omega)).mpr q)
  · intro h a n hc' q
    obtain ⟨e1, e2⟩ := cov_one hc hc'
    rw [e1, e2] at q
    exact h ((cov_t (by omega)).mp q)
theorem RelB.kind {R mu : RV} (h : RelB R (fun t => mu 106 t)) {j : Nat} (hj : j < 12) : mu 106 (20 * j) = R 2 j := (h.2 j hj).1
theorem RelB.dev {R mu : RV} (h : RelB R (fun t => mu 106 t)) {j : Nat} (hj : j < 12) (hk : ¬R 2 j = nI 0) : mu 106 (20 * j + 1) = R 3 j ∧ mu 106 (20 * j + 2) = R 4 j ∧ mu 106 (20 * j + 12) = R 12 j ∧ mu 106 (20 * j + 13) = R 13 j := by
  have h1 := (h.2 j hj).2 hk
  exact ⟨h1.1, h1.2.1, h1.2.2.2.1, h1.2.2.2.2.1⟩
theorem RelB.reg {R mu : RV} (h : RelB R (fun t => mu 106 t)) {j q : Nat} (hj : j < 12) (hk : ¬R 2 j = nI 0) (hq : q < 3) : mu 106 (20 * j + 3 + 3 * q + 1) = R 7 (j * 3 + q) ∧ mu 106 (20 * j + 3 + 3 * q + 2) = R 8 (j * 3 + q) ∧ (¬R 7 (j * 3 + q) = nI 0 → mu 106 (20 * j + 3 + 3 * q) = R 6 (j * 3 + q)) := ((h.2 j hj).2 hk).2.2.1 q hq
theorem RelB.win {R mu : RV} (h : RelB R (fun t => mu 106 t)) {j s : Nat} (hj : j < 12) (hk : ¬R 2 j = nI 0) (hs : s < 2) : mu 106 (20 * j + 14 + s) = R 10 (j * 2 + s) ∧ mu 106 (20 * j + 16 + s) = R 11 (j * 2 + s) ∧ mu 106 (20 * j + 18 + s) = R 9 (j * 2 + s) := ((h.2 j hj).2 hk).2.2.2.2.2 s hs
section
variable (d L : Nat) (mu : RV) (p : Nat → Nat) {R : RV}
theorem m_looksR (hO : OK R) (hB : RelB R (fun t => mu 106 t)) (b A E : Int32) (s : Nat) (hs : s < 2) (j : Nat) (hj : j < 12) (hk : R 2 j = nI 1) : ∀ m q P (w : AV), q + m = 3 → ∃ P' w6 w7, zsem (d + 3) 160 150 [.inr (some 105), .inl b, .inl (nI s), .inl A, .inl E, .inl (nI j), .inl (nI q), w] [] (HH L (LF mu P) p) = zsem (d + 3) 160 115 [.inr (some 105), .inl b, .inl (nI s), .inl A, .inl E, .inl (nI (j + 1)), w6, w7] [] (HH L (LF mu P') p) ∧ ∀ t, t < 256 → (P' t ↔ P t ∧ ∀ q', q ≤ q' → q' < 3 → nov R s j q' t) := by
  have hk2 : mu 106 (20 * j) = nI 1 := by rw [hB.kind hj]; exact hk
  intro m
  induction m with
  | zero =>
    intro q P w hq
    have : q = 3 := by omega
    subst this
    refine ⟨P, .inl (nI 3), w, ?_, fun t _ => ⟨fun g => ⟨g, fun q' g1 g2 => by omega⟩, fun g => g.1⟩⟩
    rw [h160_150]
    simp (disch := first | omega | assumption) only [h160_0, h160_1, h160_3, h160_6, h160_7, h160_10, h160_11, h160_14, h160_15, h160_18, h160_20, h160_21, h160_22, h160_23, h160_24, h160_25, h160_26, h160_28, h160_31, h160_32, h160_35, h160_38, h160_39, h160_42, h160_43, h160_46, h160_48, h160_49, h160_50, h160_51, h160_52, h160_54, h160_55, h160_59, h160_62, h160_65, h160_67, h160_68, h160_71, h160_72, h160_74, h160_75, h160_78, h160_80, h160_82, h160_85, h160_87, h160_88, h160_91, h160_93, h160_94, h160_96, h160_97, h160_100, h160_101, h160_104, h160_105, h160_106, h160_109, h160_112, h160_113, h160_117, h160_119, h160_122, h160_123, h160_125, h160_128, h160_131, h160_132, h160_135, h160_137, h160_140, h160_141, h160_142, h160_143, h160_144, h160_147, h160_148, h160_152, h160_153, h160_156, h160_157, h160_159, h160_162, h160_165, h160_167, h160_169, h160_172, h160_174, h160_175, h160_176, h160_177, h160_180, h160_182, h160_183, h160_184, h160_187, h160_188, h160_191, h160_193, h160_194, h160_195, h160_196, h160_199, h160_201, h160_202, h160_205, h160_207, h160_208, h160_209, h160_210, h160_213, h160_216, h160_219, h160_220, h160_221, h160_222, h160_224, h160_227, h160_230, h160_231, h160_234, h160_236, h160_239, h160_241, h160_242, h160_243, h160_244, h160_245, h160_248, h160_250, h160_251, h160_254, h160_256, h160_259, h160_261, h160_262, h160_263, h160_264, h160_265, h160_268, h160_271, h160_274, Option.bind_some, Option.toList_some, Option.toList_none, List.cons_append, List.nil_append, nI_ltc, nI_lec, nI_eqc, nI_ne5, n5_ne, n5_lt, bI_0, bI_1, nI_add, pk_mul, if_pos, if_neg, ite_not, if_true, if_false, not_true_eq_false, not_false_eq_true, true_and, false_and, and_true, and_false, Nat.reduceAdd, Nat.reduceMul, m_isBridge_n, m_at, LF_o, hk2, m_covers_5]
  | succ m ih =>
    intro q P w hq
    have hq3 : q < 3 := by omega
    obtain ⟨r1, r2, r3⟩ := hB.reg hj (k1_ne0 hk) hq3
    have pass : (∀ t, nov R s j q t) → (∃ w', zsem (d + 3) 160 150 [.inr (some 105), .inl b, .inl (nI s), .inl A, .inl E, .inl (nI j), .inl (nI q), w] [] (HH L (LF mu P) p) = zsem (d + 3) 160 150 [.inr (some 105), .inl b, .inl (nI s), .inl A, .inl E, .inl (nI j), .inl (nI (q + 1)), w'] [] (HH L (LF mu P) p)) → ∃ P' w6 w7, zsem (d + 3) 160 150 [.inr (some 105), .inl b, .inl (nI s), .inl A, .inl E, .inl (nI j), .inl (nI q), w] [] (HH L (LF mu P) p) = zsem (d + 3) 160 115 [.inr (some 105), .inl b, .inl (nI s), .inl A, .inl E, .inl (nI (j + 1)), w6, w7] [] (HH L (LF mu P') p) ∧ ∀ t, t < 256 → (P' t ↔ P t ∧ ∀ q', q ≤ q' → q' < 3 → nov R s j q' t) := by
      rintro hn ⟨w', e⟩
      obtain ⟨P', w6, w7, e1, e2⟩ := ih (q + 1) P w' (by omega)
      refine ⟨P', w6, w7, e.trans e1, fun t ht => ?_⟩
      rw [e2 t ht]
      refine ⟨fun g => ⟨g.1, fun q' g1 g2 => ?_⟩, fun g => ⟨g.1, fun q' g1 g2 => g.2 q' (by omega) g2⟩⟩
      by_cases hqq : q' = q
      · rw [hqq]; exact hn t
      · exact g.2 q' (by omega) g2
    rcases hO.rv hj hq3 with g | ⟨-, sp, a, n, v1, v2, v3, v4, v5, v6, v7⟩
    · rw [g] at r2
      refine pass (fun t a n hc => ?_) ⟨.inl (nI (20 * j + 3 + 3 * q)), ?_⟩
      · rcases hc.2.2 with ⟨-, -, c, -⟩ | ⟨-, c, -⟩
        · have hc1 := hc.1
          rw [g, n5_ne (by omega)] at c; exact c.elim
        · rw [hk] at c; exact absurd c (by decide)
      · rw [h160_150]
        by_cases hsp : mu 106 (20 * j + 3 + 3 * q) = nI s
        · simp (disch := first | omega | assumption) only [h160_0, h160_1, h160_3, h160_6, h160_7, h160_10, h160_11, h160_14, h160_15, h160_18, h160_20, h160_21, h160_22, h160_23, h160_24, h160_25, h160_26, h160_28, h160_31, h160_32, h160_35, h160_38, h160_39, h160_42, h160_43, h160_46, h160_48, h160_49, h160_50, h160_51, h160_52, h160_54, h160_55, h160_59, h160_62, h160_65, h160_67, h160_68, h160_71, h160_72, h160_74, h160_75, h160_78, h160_80, h160_82, h160_85, h160_87, h160_88, h160_91, h160_93, h160_94, h160_96, h160_97, h160_100, h160_101, h160_104, h160_105, h160_106, h160_109, h160_112, h160_113, h160_117, h160_119, h160_122, h160_123, h160_125, h160_128, h160_131, h160_132, h160_135, h160_137, h160_140, h160_141, h160_142, h160_143, h160_144, h160_147, h160_148, h160_152, h160_153, h160_156, h160_157, h160_159, h160_162, h160_165, h160_167, h160_169, h160_172, h160_174, h160_175, h160_176, h160_177, h160_180, h160_182, h160_183, h160_184, h160_187, h160_188, h160_191, h160_193, h160_194, h160_195, h160_196, h160_199, h160_201, h160_202, h160_205, h160_207, h160_208, h160_209, h160_210, h160_213, h160_216, h160_219, h160_220, h160_221, h160_222, h160_224, h160_227, h160_230, h160_231, h160_234, h160_236, h160_239, h160_241, h160_242, h160_243, h160_244, h160_245, h160_248, h160_250, h160_251, h160_254, h160_256, h160_259, h160_261, h160_262, h160_263, h160_264, h160_265, h160_268, h160_271, h160_274, Option.bind_some, Option.toList_some, Option.toList_none, List.cons_append, List.nil_append, nI_ltc, nI_lec, nI_eqc, nI_ne5, n5_ne, n5_lt, bI_0, bI_1, nI_add, pk_mul, if_pos, if_neg, ite_not, if_true, if_false, not_true_eq_false, not_false_eq_true, true_and, false_and, and_true, and_false, Nat.reduceAdd, Nat.reduceMul, m_isCard_n, LF_o, hk2, m_regionAt, hsp, r2, m_covers_5]
        · simp (disch := first | omega | assumption) only [h160_0, h160_1, h160_3, h160_6, h160_7, h160_10, h160_11, h160_14, h160_15, h160_18, h160_20, h160_21, h160_22, h160_23, h160_24, h160_25, h160_26, h160_28, h160_31, h160_32, h160_35, h160_38, h160_39, h160_42, h160_43, h160_46, h160_48, h160_49, h160_50, h160_51, h160_52, h160_54, h160_55, h160_59, h160_62, h160_65, h160_67, h160_68, h160_71, h160_72, h160_74, h160_75, h160_78, h160_80, h160_82, h160_85, h160_87, h160_88, h160_91, h160_93, h160_94, h160_96, h160_97, h160_100, h160_101, h160_104, h160_105, h160_106, h160_109, h160_112, h160_113, h160_117, h160_119, h160_122, h160_123, h160_125, h160_128, h160_131, h160_132, h160_135, h160_137, h160_140, h160_141, h160_142, h160_143, h160_144, h160_147, h160_148, h160_152, h160_153, h160_156, h160_157, h160_159, h160_162, h160_165, h160_167, h160_169, h160_172, h160_174, h160_175, h160_176, h160_177, h160_180, h160_182, h160_183, h160_184, h160_187, h160_188, h160_191, h160_193, h160_194, h160_195, h160_196, h160_199, h160_201, h160_202, h160_205, h160_207, h160_208, h160_209, h160_210, h160_213, h160_216, h160_219, h160_220, h160_221, h160_222, h160_224, h160_227, h160_230, h160_231, h160_234, h160_236, h160_239, h160_241, h160_242, h160_243, h160_244, h160_245, h160_248, h160_250, h160_251, h160_254, h160_256, h160_259, h160_261, h160_262, h160_263, h160_264, h160_265, h160_268, h160_271, h160_274, Option.bind_some, Option.toList_some, Option.toList_none, List.cons_append, List.nil_append, nI_ltc, nI_lec, nI_eqc, nI_ne5, n5_ne, n5_lt, bI_0, bI_1, nI_add, pk_mul, if_pos, if_neg, ite_not, if_true, if_false, not_true_eq_false, not_false_eq_true, true_and, false_and, and_true, and_false, Nat.reduceAdd, Nat.reduceMul, m_isCard_n, LF_o, hk2, m_regionAt, hsp, m_covers_5]
    · rw [v7] at r1
      rw [v6] at r2
      have r3 := r3 (by rw [v7, nI_eqc (by omega) (by omega)]; omega)
      rw [v5] at r3
      by_cases hsp : sp = s
      · subst hsp
        have hc : cov R sp j q a n := ⟨v2, by omega, Or.inl ⟨hk, v5, v6, v7⟩⟩
        obtain ⟨u, c, e1, e2, e3, -⟩ := cov_grn hO.T (hO.W hs) hj hq3 hc
        have e4 : fcB (LF mu P) u c = LF mu (fun t => P t ∧ nov R sp j q t) := LF_fc e3 (fun t _ => by
          rw [nov_y (u := u) (c := c) (by rw [← e1, ← e2]; exact hc)])
        obtain ⟨P', w6, w7, e5, e6⟩ := ih (q + 1) (fun t => P t ∧ nov R sp j q t) (.inl (nI (20 * j + 3 + 3 * q))) (by omega)
        refine ⟨P', w6, w7, ?_, fun t ht => ?_⟩
        · rw [← e5, ← e4, h160_150]
          have hcv := m_covers (d + 1) L (LF mu P) p sp hs u c e3
          rw [← e1, ← e2] at hcv
          simp (disch := first | omega | assumption) only [h160_0, h160_1, h160_3, h160_6, h160_7, h160_10, h160_11, h160_14, h160_15, h160_18, h160_20, h160_21, h160_22, h160_23, h160_24, h160_25, h160_26, h160_28, h160_31, h160_32, h160_35, h160_38, h160_39, h160_42, h160_43, h160_46, h160_48, h160_49, h160_50, h160_51, h160_52, h160_54, h160_55, h160_59, h160_62, h160_65, h160_67, h160_68, h160_71, h160_72, h160_74, h160_75, h160_78, h160_80, h160_82, h160_85, h160_87, h160_88, h160_91, h160_93, h160_94, h160_96, h160_97, h160_100, h160_101, h160_104, h160_105, h160_106, h160_109, h160_112, h160_113, h160_117, h160_119, h160_122, h160_123, h160_125, h160_128, h160_131, h160_132, h160_135, h160_137, h160_140, h160_141, h160_142, h160_143, h160_144, h160_147, h160_148, h160_152, h160_153, h160_156, h160_157, h160_159, h160_162, h160_165, h160_167, h160_169, h160_172, h160_174, h160_175, h160_176, h160_177, h160_180, h160_182, h160_183, h160_184, h160_187, h160_188, h160_191, h160_193, h160_194, h160_195, h160_196, h160_199, h160_201, h160_202, h160_205, h160_207, h160_208, h160_209, h160_210, h160_213, h160_216, h160_219, h160_220, h160_221, h160_222, h160_224, h160_227, h160_230, h160_231, h160_234, h160_236, h160_239, h160_241, h160_242, h160_243, h160_244, h160_245, h160_248, h160_250, h160_251, h160_254, h160_256, h160_259, h160_261, h160_262, h160_263, h160_264, h160_265, h160_268, h160_271, h160_274, Option.bind_some, Option.toList_some, Option.toList_none, List.cons_append, List.nil_append, nI_ltc, nI_lec, nI_eqc, nI_ne5, n5_ne, n5_lt, bI_0, bI_1, nI_add, pk_mul, if_pos, if_neg, ite_not, if_true, if_false, not_true_eq_false, not_false_eq_true, true_and, false_and, and_true, and_false, Nat.reduceAdd, Nat.reduceMul, m_isCard_n, LF_o, hk2, m_regionAt, r1, r2, r3, hcv]
        · rw [e6 t ht]
          refine ⟨fun g => ⟨g.1.1, fun q' g1 g2 => ?_⟩, fun g => ⟨⟨g.1, g.2 q (by omega) hq3⟩, fun q' g1 g2 => g.2 q' (by omega) g2⟩⟩
          by_cases hqq : q' = q
          · rw [hqq]; exact g.1.2
          · exact g.2 q' (by omega) g2
      · refine pass (fun t a' n' hc => ?_) ⟨.inl (nI (20 * j + 3 + 3 * q)), ?_⟩
        · rcases hc.2.2 with ⟨-, c, -⟩ | ⟨-, c, -⟩
          · rw [v5, nI_eqc (by omega) (by omega)] at c; exact (hsp c).elim
          · rw [hk] at c; exact absurd c (by decide)
        · rw [h160_150]
          simp (disch := first | omega | assumption) only [h160_0, h160_1, h160_3, h160_6, h160_7, h160_10, h160_11, h160_14, h160_15, h160_18, h160_20, h160_21, h160_22, h160_23, h160_24, h160_25, h160_26, h160_28, h160_31, h160_32, h160_35, h160_38, h160_39, h160_42, h160_43, h160_46, h160_48, h160_49, h160_50, h160_51, h160_52, h160_54, h160_55, h160_59, h160_62, h160_65, h160_67, h160_68, h160_71, h160_72, h160_74, h160_75, h160_78, h160_80, h160_82, h160_85, h160_87, h160_88, h160_91, h160_93, h160_94, h160_96, h160_97, h160_100, h160_101, h160_104, h160_105, h160_106, h160_109, h160_112, h160_113, h160_117, h160_119, h160_122, h160_123, h160_125, h160_128, h160_131, h160_132, h160_135, h160_137, h160_140, h160_141, h160_142, h160_143, h160_144, h160_147, h160_148, h160_152, h160_153, h160_156, h160_157, h160_159, h160_162, h160_165, h160_167, h160_169, h160_172, h160_174, h160_175, h160_176, h160_177, h160_180, h160_182, h160_183, h160_184, h160_187, h160_188, h160_191, h160_193, h160_194, h160_195, h160_196, h160_199, h160_201, h160_202, h160_205, h160_207, h160_208, h160_209, h160_210, h160_213, h160_216, h160_219, h160_220, h160_221, h160_222, h160_224, h160_227, h160_230, h160_231, h160_234, h160_236, h160_239, h160_241, h160_242, h160_243, h160_244, h160_245, h160_248, h160_250, h160_251, h160_254, h160_256, h160_259, h160_261, h160_262, h160_263, h160_264, h160_265, h160_268, h160_271, h160_274, Option.bind_some, Option.toList_some, Option.toList_none, List.cons_append, List.nil_append, nI_ltc, nI_lec, nI_eqc, nI_ne5, n5_ne, n5_lt, bI_0, bI_1, nI_add, pk_mul, if_pos, if_neg, ite_not, if_true, if_false, not_true_eq_false, not_false_eq_true, true_and, false_and, and_true, and_false, Nat.reduceAdd, Nat.reduceMul, m_isCard_n, LF_o, hk2, m_regionAt, r3, m_covers_5]
theorem m_looksB (hO : OK R) (hB : RelB R (fun t => mu 106 t)) (b A E : Int32) (s : Nat) (hs : s < 2) (j : Nat) (hj : j < 12) (hk : R 2 j = nI 2) (P : Nat → Prop) (w : AV) : ∃ P' w6 w7, zsem (d + 3) 160 150 [.inr (some 105), .inl b, .inl (nI s), .inl A, .inl E, .inl (nI j), .inl (nI 0), w] [] (HH L (LF mu P) p) = zsem (d + 3) 160 115 [.inr (some 105), .inl b, .inl (nI s), .inl A, .inl E, .inl (nI (j + 1)), w6, w7] [] (HH L (LF mu P') p) ∧ ∀ t, t < 256 → (P' t ↔ P t ∧ ∀ q', q' < 3 → nov R s j q' t) := by
  have hk2 : mu 106 (20 * j) = nI 2 := by rw [hB.kind hj]; exact hk
  obtain ⟨w1, w2, -⟩ := hB.win hj (k2_ne0 hk) hs
  have W := hO.W hs
  rcases W.2.1 j hj with ⟨g1, g2⟩ | ⟨a, n, g1, g2, g3, g4⟩
  · rw [g1] at w1
    refine ⟨P, .inl (nI 0), w, ?_, fun t _ => ⟨fun g => ⟨g, fun q' g2 a n hc => ?_⟩, fun g => g.1⟩⟩
    · rw [h160_150]
      simp (disch := first | omega | assumption) only [h160_0, h160_1, h160_3, h160_6, h160_7, h160_10, h160_11, h160_14, h160_15, h160_18, h160_20, h160_21, h160_22, h160_23, h160_24, h160_25, h160_26, h160_28, h160_31, h160_32, h160_35, h160_38, h160_39, h160_42, h160_43, h160_46, h160_48, h160_49, h160_50, h160_51, h160_52, h160_54, h160_55, h160_59, h160_62, h160_65, h160_67, h160_68, h160_71, h160_72, h160_74, h160_75, h160_78, h160_80, h160_82, h160_85, h160_87, h160_88, h160_91, h160_93, h160_94, h160_96, h160_97, h160_100, h160_101, h160_104, h160_105, h160_106, h160_109, h160_112, h160_113, h160_117, h160_119, h160_122, h160_123, h160_125, h160_128, h160_131, h160_132, h160_135, h160_137, h160_140, h160_141, h160_142, h160_143, h160_144, h160_147, h160_148, h160_152, h160_153, h160_156, h160_157, h160_159, h160_162, h160_165, h160_167, h160_169, h160_172, h160_174, h160_175, h160_176, h160_177, h160_180, h160_182, h160_183, h160_184, h160_187, h160_188, h160_191, h160_193, h160_194, h160_195, h160_196, h160_199, h160_201, h160_202, h160_205, h160_207, h160_208, h160_209, h160_210, h160_213, h160_216, h160_219, h160_220, h160_221, h160_222, h160_224, h160_227, h160_230, h160_231, h160_234, h160_236, h160_239, h160_241, h160_242, h160_243, h160_244, h160_245, h160_248, h160_250, h160_251, h160_254, h160_256, h160_259, h160_261, h160_262, h160_263, h160_264, h160_265, h160_268, h160_271, h160_274, Option.bind_some, Option.toList_some, Option.toList_none, List.cons_append, List.nil_append, nI_ltc, nI_lec, nI_eqc, nI_ne5, n5_ne, n5_lt, bI_0, bI_1, nI_add, pk_mul, if_pos, if_neg, ite_not, if_true, if_false, not_true_eq_false, not_false_eq_true, true_and, false_and, and_true, and_false, Nat.reduceAdd, Nat.reduceMul, m_isCard_n, m_isBridge_n, m_at, LF_o, hk2, w1, m_covers_5]
    · rcases hc.2.2 with ⟨c, -⟩ | ⟨-, -, c, -⟩
      · rw [hk] at c; exact absurd c (by decide)
      · have hc1 := hc.1
        rw [g1, n5_ne (by omega)] at c; exact c.elim
  · have hc : cov R s j 0 a n := ⟨g1, g2, Or.inr ⟨rfl, hk, g3, g4⟩⟩
    obtain ⟨u, c, e1, e2, e3, -⟩ := cov_grn hO.T W hj (by omega) hc
    rw [g3] at w1
    rw [g4] at w2
    have e4 : fcB (LF mu P) u c = LF mu (fun t => P t ∧ nov R s j 0 t) := LF_fc e3 (fun t _ => by
      rw [nov_y (u := u) (c := c) (by rw [← e1, ← e2]; exact hc)])
    refine ⟨fun t => P t ∧ nov R s j 0 t, .inl (nI 0), w, ?_, fun t ht => ⟨fun g => ⟨g.1, fun q' g1 => ?_⟩, fun g => ⟨g.1, g.2 0 (by omega)⟩⟩⟩
    · rw [← e4, h160_150]
      have hcv := m_covers (d + 1) L (LF mu P) p s hs u c e3
      rw [← e1, ← e2] at hcv
      simp (disch := first | omega | assumption) only [h160_0, h160_1, h160_3, h160_6, h160_7, h160_10, h160_11, h160_14, h160_15, h160_18, h160_20, h160_21, h160_22, h160_23, h160_24, h160_25, h160_26, h160_28, h160_31, h160_32, h160_35, h160_38, h160_39, h160_42, h160_43, h160_46, h160_48, h160_49, h160_50, h160_51, h160_52, h160_54, h160_55, h160_59, h160_62, h160_65, h160_67, h160_68, h160_71, h160_72, h160_74, h160_75, h160_78, h160_80, h160_82, h160_85, h160_87, h160_88, h160_91, h160_93, h160_94, h160_96, h160_97, h160_100, h160_101, h160_104, h160_105, h160_106, h160_109, h160_112, h160_113, h160_117, h160_119, h160_122, h160_123, h160_125, h160_128, h160_131, h160_132, h160_135, h160_137, h160_140, h160_141, h160_142, h160_143, h160_144, h160_147, h160_148, h160_152, h160_153, h160_156, h160_157, h160_159, h160_162, h160_165, h160_167, h160_169, h160_172, h160_174, h160_175, h160_176, h160_177, h160_180, h160_182, h160_183, h160_184, h160_187, h160_188, h160_191, h160_193, h160_194, h160_195, h160_196, h160_199, h160_201, h160_202, h160_205, h160_207, h160_208, h160_209, h160_210, h160_213, h160_216, h160_219, h160_220, h160_221, h160_222, h160_224, h160_227, h160_230, h160_231, h160_234, h160_236, h160_239, h160_241, h160_242, h160_243, h160_244, h160_245, h160_248, h160_250, h160_251, h160_254, h160_256, h160_259, h160_261, h160_262, h160_263, h160_264, h160_265, h160_268, h160_271, h160_274, Option.bind_some, Option.toList_some, Option.toList_none, List.cons_append, List.nil_append, nI_ltc, nI_lec, nI_eqc, nI_ne5, n5_ne, n5_lt, bI_0, bI_1, nI_add, pk_mul, if_pos, if_neg, ite_not, if_true, if_false, not_true_eq_false, not_false_eq_true, true_and, false_and, and_true, and_false, Nat.reduceAdd, Nat.reduceMul, m_isCard_n, m_isBridge_n, m_at, LF_o, hk2, w1, w2, hcv]
    · by_cases hqq : q' = 0
      · rw [hqq]; exact g.2
      · intro a n hc
        rcases hc.2.2 with ⟨c, -⟩ | ⟨c, -⟩
        · rw [hk] at c; exact absurd c (by decide)
        · exact absurd c hqq
theorem m_looksD (hO : OK R) (hB : RelB R (fun t => mu 106 t)) (b : Nat) (hb : b < 13) (A E : Int32) (s : Nat) (hs : s < 2) : ∀ m j P (w6 w7 : AV), j + m = 12 → ∃ P', zsem (d + 3) 160 115 [.inr (some 105), .inl (nI b), .inl (nI s), .inl A, .inl E, .inl (nI j), w6, w7] [] (HH L (LF mu P) p) = some (none, HH L (LF mu P') p) ∧ ∀ t, t < 256 → (P' t ↔ P t ∧ ∀ x q, j ≤ x → x < 12 → q < 3 → bn R x = b → nov R s x q t) := by
  intro m
  induction m with
  | zero =>
    intro j P w6 w7 hj
    have : j = 12 := by omega
    subst this
    refine ⟨P, ?_, fun t _ => ⟨fun g => ⟨g, fun x q g1 g2 => by omega⟩, fun g => g.1⟩⟩
    rw [h160_115]
    simp (disch := first | omega | assumption) only [h160_0, h160_1, h160_3, h160_6, h160_7, h160_10, h160_11, h160_14, h160_15, h160_18, h160_20, h160_21, h160_22, h160_23, h160_24, h160_25, h160_26, h160_28, h160_31, h160_32, h160_35, h160_38, h160_39, h160_42, h160_43, h160_46, h160_48, h160_49, h160_50, h160_51, h160_52, h160_54, h160_55, h160_59, h160_62, h160_65, h160_67, h160_68, h160_71, h160_72, h160_74, h160_75, h160_78, h160_80, h160_82, h160_85, h160_87, h160_88, h160_91, h160_93, h160_94, h160_96, h160_97, h160_100, h160_101, h160_104, h160_105, h160_106, h160_109, h160_112, h160_113, h160_117, h160_119, h160_122, h160_123, h160_125, h160_128, h160_131, h160_132, h160_135, h160_137, h160_140, h160_141, h160_142, h160_143, h160_144, h160_147, h160_148, h160_152, h160_153, h160_156, h160_157, h160_159, h160_162, h160_165, h160_167, h160_169, h160_172, h160_174, h160_175, h160_176, h160_177, h160_180, h160_182, h160_183, h160_184, h160_187, h160_188, h160_191, h160_193, h160_194, h160_195, h160_196, h160_199, h160_201, h160_202, h160_205, h160_207, h160_208, h160_209, h160_210, h160_213, h160_216, h160_219, h160_220, h160_221, h160_222, h160_224, h160_227, h160_230, h160_231, h160_234, h160_236, h160_239, h160_241, h160_242, h160_243, h160_244, h160_245, h160_248, h160_250, h160_251, h160_254, h160_256, h160_259, h160_261, h160_262, h160_263, h160_264, h160_265, h160_268, h160_271, h160_274, Option.bind_some, Option.toList_some, Option.toList_none, List.cons_append, List.nil_append, nI_ltc, nI_lec, nI_eqc, nI_ne5, n5_ne, n5_lt, bI_0, bI_1, nI_add, pk_mul, if_pos, if_neg, ite_not, if_true, if_false, not_true_eq_false, not_false_eq_true, true_and, false_and, and_true, and_false, Nat.reduceAdd, Nat.reduceMul]
  | succ m ih =>
    intro j P w6 w7 hj
    have hj12 : j < 12 := by omega
    have hk2 := hB.kind hj12
    have fin : ∀ P1 w6' w7', zsem (d + 3) 160 115 [.inr (some 105), .inl (nI b), .inl (nI s), .inl A, .inl E, .inl (nI j), w6, w7] [] (HH L (LF mu P) p) = zsem (d + 3) 160 115 [.inr (some 105), .inl (nI b), .inl (nI s), .inl A, .inl E, .inl (nI (j + 1)), w6', w7'] [] (HH L (LF mu P1) p) → (∀ t, t < 256 → (P1 t ↔ P t ∧ ∀ q, q < 3 → bn R j = b → nov R s j q t)) → ∃ P', zsem (d + 3) 160 115 [.inr (some 105), .inl (nI b), .inl (nI s), .inl A, .inl E, .inl (nI j), w6, w7] [] (HH L (LF mu P) p) = some (none, HH L (LF mu P') p) ∧ ∀ t, t < 256 → (P' t ↔ P t ∧ ∀ x q, j ≤ x → x < 12 → q < 3 → bn R x = b → nov R s x q t) := by
      intro P1 w6' w7' e e0
      obtain ⟨P', e1, e2⟩ := ih (j + 1) P1 w6' w7' (by omega)
      refine ⟨P', e.trans e1, fun t ht => ?_⟩
      rw [e2 t ht, e0 t ht]
      refine ⟨fun g => ⟨g.1.1, fun x q g1 g2 g3 g4 => ?_⟩, fun g => ⟨⟨g.1, fun q g1 g2 => g.2 j q (by omega) hj12 g1 g2⟩, fun x q g1 g2 g3 g4 => g.2 x q (by omega) g2 g3 g4⟩⟩
      by_cases hx : x = j
      · subst hx; exact g.1.2 q g3 g4
      · exact g.2 x q (by omega) g2 g3 g4
    by_cases hk : R 2 j = nI 0
    · refine fin P w6 w7 ?_ (fun t _ => ⟨fun g => ⟨g, fun q g1 g2 a n hc => ?_⟩, fun g => g.1⟩)
      · rw [h160_115]
        simp (disch := first | omega | assumption) only [h160_0, h160_1, h160_3, h160_6, h160_7, h160_10, h160_11, h160_14, h160_15, h160_18, h160_20, h160_21, h160_22, h160_23, h160_24, h160_25, h160_26, h160_28, h160_31, h160_32, h160_35, h160_38, h160_39, h160_42, h160_43, h160_46, h160_48, h160_49, h160_50, h160_51, h160_52, h160_54, h160_55, h160_59, h160_62, h160_65, h160_67, h160_68, h160_71, h160_72, h160_74, h160_75, h160_78, h160_80, h160_82, h160_85, h160_87, h160_88, h160_91, h160_93, h160_94, h160_96, h160_97, h160_100, h160_101, h160_104, h160_105, h160_106, h160_109, h160_112, h160_113, h160_117, h160_119, h160_122, h160_123, h160_125, h160_128, h160_131, h160_132, h160_135, h160_137, h160_140, h160_141, h160_142, h160_143, h160_144, h160_147, h160_148, h160_152, h160_153, h160_156, h160_157, h160_159, h160_162, h160_165, h160_167, h160_169, h160_172, h160_174, h160_175, h160_176, h160_177, h160_180, h160_182, h160_183, h160_184, h160_187, h160_188, h160_191, h160_193, h160_194, h160_195, h160_196, h160_199, h160_201, h160_202, h160_205, h160_207, h160_208, h160_209, h160_210, h160_213, h160_216, h160_219, h160_220, h160_221, h160_222, h160_224, h160_227, h160_230, h160_231, h160_234, h160_236, h160_239, h160_241, h160_242, h160_243, h160_244, h160_245, h160_248, h160_250, h160_251, h160_254, h160_256, h160_259, h160_261, h160_262, h160_263, h160_264, h160_265, h160_268, h160_271, h160_274, Option.bind_some, Option.toList_some, Option.toList_none, List.cons_append, List.nil_append, nI_ltc, nI_lec, nI_eqc, nI_ne5, n5_ne, n5_lt, bI_0, bI_1, nI_add, pk_mul, if_pos, if_neg, ite_not, if_true, if_false, not_true_eq_false, not_false_eq_true, true_and, false_and, and_true, and_false, Nat.reduceAdd, Nat.reduceMul, m_isDevice_n, LF_o, hk2, hk]
      · exact absurd hk (cov_k hc)
    · have r1 := (hB.dev hj12 hk).1
      obtain ⟨u1, u2, -⟩ := hO.T.bus hj12 hk
      by_cases hbj : bn R j = b
      · have e0 : zsem (d + 3) 160 115 [.inr (some 105), .inl (nI b), .inl (nI s), .inl A, .inl E, .inl (nI j), w6, w7] [] (HH L (LF mu P) p) = zsem (d + 3) 160 150 [.inr (some 105), .inl (nI b), .inl (nI s), .inl A, .inl E, .inl (nI j), .inl (nI 0), w7] [] (HH L (LF mu P) p) := by
          rw [hbj] at u2
          rw [h160_115]
          simp (disch := first | omega | assumption) only [h160_0, h160_1, h160_3, h160_6, h160_7, h160_10, h160_11, h160_14, h160_15, h160_18, h160_20, h160_21, h160_22, h160_23, h160_24, h160_25, h160_26, h160_28, h160_31, h160_32, h160_35, h160_38, h160_39, h160_42, h160_43, h160_46, h160_48, h160_49, h160_50, h160_51, h160_52, h160_54, h160_55, h160_59, h160_62, h160_65, h160_67, h160_68, h160_71, h160_72, h160_74, h160_75, h160_78, h160_80, h160_82, h160_85, h160_87, h160_88, h160_91, h160_93, h160_94, h160_96, h160_97, h160_100, h160_101, h160_104, h160_105, h160_106, h160_109, h160_112, h160_113, h160_117, h160_119, h160_122, h160_123, h160_125, h160_128, h160_131, h160_132, h160_135, h160_137, h160_140, h160_141, h160_142, h160_143, h160_144, h160_147, h160_148, h160_152, h160_153, h160_156, h160_157, h160_159, h160_162, h160_165, h160_167, h160_169, h160_172, h160_174, h160_175, h160_176, h160_177, h160_180, h160_182, h160_183, h160_184, h160_187, h160_188, h160_191, h160_193, h160_194, h160_195, h160_196, h160_199, h160_201, h160_202, h160_205, h160_207, h160_208, h160_209, h160_210, h160_213, h160_216, h160_219, h160_220, h160_221, h160_222, h160_224, h160_227, h160_230, h160_231, h160_234, h160_236, h160_239, h160_241, h160_242, h160_243, h160_244, h160_245, h160_248, h160_250, h160_251, h160_254, h160_256, h160_259, h160_261, h160_262, h160_263, h160_264, h160_265, h160_268, h160_271, h160_274, Option.bind_some, Option.toList_some, Option.toList_none, List.cons_append, List.nil_append, nI_ltc, nI_lec, nI_eqc, nI_ne5, n5_ne, n5_lt, bI_0, bI_1, nI_add, pk_mul, if_pos, if_neg, ite_not, if_true, if_false, not_true_eq_false, not_false_eq_true, true_and, false_and, and_true, and_false, Nat.reduceAdd, Nat.reduceMul, m_isDevice_n, m_at, LF_o, hk2, hk, r1, u2]
        rcases (hO.T.1 j hj12).resolve_left hk with hk1 | hk1
        · obtain ⟨P1, a6, a7, e1, e2⟩ := m_looksR d L mu p hO hB (nI b) A E s hs j hj12 hk1 3 0 P w7 rfl
          exact fin P1 a6 a7 (e0.trans e1) (fun t ht => by
            rw [e2 t ht]
            exact ⟨fun g => ⟨g.1, fun q g1 _ => g.2 q (by omega) g1⟩, fun g => ⟨g.1, fun q _ g1 => g.2 q g1 hbj⟩⟩)
        · obtain ⟨P1, a6, a7, e1, e2⟩ := m_looksB d L mu p hO hB (nI b) A E s hs j hj12 hk1 P w7
          exact fin P1 a6 a7 (e0.trans e1) (fun t ht => by
            rw [e2 t ht]
            exact ⟨fun g => ⟨g.1, fun q g1 _ => g.2 q g1⟩, fun g => ⟨g.1, fun q g1 => g.2 q g1 hbj⟩⟩)
      · have hbj2 : ¬R 3 j = nI b := by
          rw [u2, nI_eqc (by omega) (by omega)]; exact hbj
        refine fin P w6 w7 ?_ (fun t _ => ⟨fun g => ⟨g, fun q g1 g2 => absurd g2 hbj⟩, fun g => g.1⟩)
        rw [h160_115]
        simp (disch := first | omega | assumption) only [h160_0, h160_1, h160_3, h160_6, h160_7, h160_10, h160_11, h160_14, h160_15, h160_18, h160_20, h160_21, h160_22, h160_23, h160_24, h160_25, h160_26, h160_28, h160_31, h160_32, h160_35, h160_38, h160_39, h160_42, h160_43, h160_46, h160_48, h160_49, h160_50, h160_51, h160_52, h160_54, h160_55, h160_59, h160_62, h160_65, h160_67, h160_68, h160_71, h160_72, h160_74, h160_75, h160_78, h160_80, h160_82, h160_85, h160_87, h160_88, h160_91, h160_93, h160_94, h160_96, h160_97, h160_100, h160_101, h160_104, h160_105, h160_106, h160_109, h160_112, h160_113, h160_117, h160_119, h160_122, h160_123, h160_125, h160_128, h160_131, h160_132, h160_135, h160_137, h160_140, h160_141, h160_142, h160_143, h160_144, h160_147, h160_148, h160_152, h160_153, h160_156, h160_157, h160_159, h160_162, h160_165, h160_167, h160_169, h160_172, h160_174, h160_175, h160_176, h160_177, h160_180, h160_182, h160_183, h160_184, h160_187, h160_188, h160_191, h160_193, h160_194, h160_195, h160_196, h160_199, h160_201, h160_202, h160_205, h160_207, h160_208, h160_209, h160_210, h160_213, h160_216, h160_219, h160_220, h160_221, h160_222, h160_224, h160_227, h160_230, h160_231, h160_234, h160_236, h160_239, h160_241, h160_242, h160_243, h160_244, h160_245, h160_248, h160_250, h160_251, h160_254, h160_256, h160_259, h160_261, h160_262, h160_263, h160_264, h160_265, h160_268, h160_271, h160_274, Option.bind_some, Option.toList_some, Option.toList_none, List.cons_append, List.nil_append, nI_ltc, nI_lec, nI_eqc, nI_ne5, n5_ne, n5_lt, bI_0, bI_1, nI_add, pk_mul, if_pos, if_neg, ite_not, if_true, if_false, not_true_eq_false, not_false_eq_true, true_and, false_and, and_true, and_false, Nat.reduceAdd, Nat.reduceMul, m_isDevice_n, m_at, LF_o, hk2, hk, r1, hbj2]
/-- a grain of the room that is free -/
def fre (R : RV) (s b A E t : Nat) : Prop := inR s A E t ∧ ∀ i a n, i < 12 → CP R s b i a n → ¬(a ≤ t * grn s ∧ t * grn s < a + n)
theorem fre_iff {R : RV} (hO : OK R) {s b t : Nat} (hb : b < 13) : (∀ x q, 0 ≤ x → x < 12 → q < 3 → bn R x = b → nov R s x q t) ↔ ∀ i a n, i < 12 → CP R s b i a n → ¬(a ≤ t * grn s ∧ t * grn s < a + n) := by
  constructor
  · rintro g i a n hi ⟨j, c1, c2, c3⟩
    rcases hO.T.2.2.1 b (i / 3) hb (by omega) with hv | ⟨j', g1, g2, g3, g4, g5⟩
    · rw [hv, n5_ne (by omega)] at c2; exact c2.elim
    · rw [g2, nI_eqc (by omega) (by omega)] at c2
      subst c2
      exact g j' (i % 3) (by omega) c1 (by omega) (bn_of g4 hb) a n c3
  · intro g x q _ hx hq hbx a n hc
    obtain ⟨b', t', g1, g2, g3, g4, g5, -⟩ := hO.T.2.1 x hx (cov_k hc)
    have : b' = b := by rw [← hbx, bn_of g3 g1]
    subst this
    refine g (t' * 3 + q) a n (by omega) ⟨x, hx, ?_, ?_⟩
    · rw [show (t' * 3 + q) / 3 = t' by omega]; exact g5
    · rw [show (t' * 3 + q) % 3 = q by omega]; exact hc
theorem m_looksF (hO : OK R) (hB : RelB R (fun t => mu 106 t)) (b s A E : Nat) (hb : b < 13) (hs : s < 2) (hA : A + E ≤ 8192) (hE : 0 < E) (hv : (b = 12 ∧ A = 0 ∧ E = adr s) ∨ (b < 12 ∧ R 2 b = nI 2 ∧ R 10 (b * 2 + s) = nI A ∧ R 11 (b * 2 + s) = nI E)) : ∃ P, zsem (d + 3) 160 0 [.inr (some 105), .inl (nI b), .inl (nI s), .inr none, .inr none, .inr none, .inr none, .inr none] [] (HH L mu p) = some (none, HH L (LF mu P) p) ∧ ∀ t, t < 256 → (P t ↔ fre R s b A E t) := by
  obtain ⟨v, v', e1⟩ := m_looksA (d + 2) L mu p (nI b) s A E hs hA hE 256 0 (.inr none) (.inr none) rfl
  have e2 : zsem (d + 3) 160 57 [.inr (some 105), .inl (nI b), .inl (nI s), .inl (nI A), .inl (nI E), .inl (nI 256), v, v'] [] (HH L (fiB mu (wR s A E) 256) p) = zsem (d + 3) 160 115 [.inr (some 105), .inl (nI b), .inl (nI s), .inl (nI A), .inl (nI E), .inl (nI 0), v, v'] [] (HH L (LF mu (inR s A E)) p) := by
    rw [h160_57]
    simp (disch := first | omega | assumption) only [h160_0, h160_1, h160_3, h160_6, h160_7, h160_10, h160_11, h160_14, h160_15, h160_18, h160_20, h160_21, h160_22, h160_23, h160_24, h160_25, h160_26, h160_28, h160_31, h160_32, h160_35, h160_38, h160_39, h160_42, h160_43, h160_46, h160_48, h160_49, h160_50, h160_51, h160_52, h160_54, h160_55, h160_59, h160_62, h160_65, h160_67, h160_68, h160_71, h160_72, h160_74, h160_75, h160_78, h160_80, h160_82, h160_85, h160_87, h160_88, h160_91, h160_93, h160_94, h160_96, h160_97, h160_100, h160_101, h160_104, h160_105, h160_106, h160_109, h160_112, h160_113, h160_117, h160_119, h160_122, h160_123, h160_125, h160_128, h160_131, h160_132, h160_135, h160_137, h160_140, h160_141, h160_142, h160_143, h160_144, h160_147, h160_148, h160_152, h160_153, h160_156, h160_157, h160_159, h160_162, h160_165, h160_167, h160_169, h160_172, h160_174, h160_175, h160_176, h160_177, h160_180, h160_182, h160_183, h160_184, h160_187, h160_188, h160_191, h160_193, h160_194, h160_195, h160_196, h160_199, h160_201, h160_202, h160_205, h160_207, h160_208, h160_209, h160_210, h160_213, h160_216, h160_219, h160_220, h160_221, h160_222, h160_224, h160_227, h160_230, h160_231, h160_234, h160_236, h160_239, h160_241, h160_242, h160_243, h160_244, h160_245, h160_248, h160_250, h160_251, h160_254, h160_256, h160_259, h160_261, h160_262, h160_263, h160_264, h160_265, h160_268, h160_271, h160_274, Option.bind_some, Option.toList_some, Option.toList_none, List.cons_append, List.nil_append, nI_ltc, nI_lec, nI_eqc, nI_ne5, n5_ne, n5_lt, bI_0, bI_1, nI_add, pk_mul, if_pos, if_neg, ite_not, if_true, if_false, not_true_eq_false, not_false_eq_true, true_and, false_and, and_true, and_false, Nat.reduceAdd, Nat.reduceMul]
    rfl
  obtain ⟨P, e3, e4⟩ := m_looksD d L mu p hO hB b hb (nI A) (nI E) s hs 12 0 (inR s A E) v v' rfl
  have e5 : fiB mu (wR s A E) 0 = mu := by
    funext r t
    unfold fiB
    rw [if_neg (by omega)]
  rw [e5] at e1
  refine ⟨P, ?_, fun t ht => ?_⟩
  · rw [← e3, ← e2, ← e1]
    rcases hv with ⟨rfl, rfl, rfl⟩ | ⟨h1, h2, h3, h4⟩
    · simp (disch := first | omega | assumption) only [h160_0, h160_1, h160_3, h160_6, h160_7, h160_10, h160_11, h160_14, h160_15, h160_18, h160_20, h160_21, h160_22, h160_23, h160_24, h160_25, h160_26, h160_28, h160_31, h160_32, h160_35, h160_38, h160_39, h160_42, h160_43, h160_46, h160_48, h160_49, h160_50, h160_51, h160_52, h160_54, h160_55, h160_59, h160_62, h160_65, h160_67, h160_68, h160_71, h160_72, h160_74, h160_75, h160_78, h160_80, h160_82, h160_85, h160_87, h160_88, h160_91, h160_93, h160_94, h160_96, h160_97, h160_100, h160_101, h160_104, h160_105, h160_106, h160_109, h160_112, h160_113, h160_117, h160_119, h160_122, h160_123, h160_125, h160_128, h160_131, h160_132, h160_135, h160_137, h160_140, h160_141, h160_142, h160_143, h160_144, h160_147, h160_148, h160_152, h160_153, h160_156, h160_157, h160_159, h160_162, h160_165, h160_167, h160_169, h160_172, h160_174, h160_175, h160_176, h160_177, h160_180, h160_182, h160_183, h160_184, h160_187, h160_188, h160_191, h160_193, h160_194, h160_195, h160_196, h160_199, h160_201, h160_202, h160_205, h160_207, h160_208, h160_209, h160_210, h160_213, h160_216, h160_219, h160_220, h160_221, h160_222, h160_224, h160_227, h160_230, h160_231, h160_234, h160_236, h160_239, h160_241, h160_242, h160_243, h160_244, h160_245, h160_248, h160_250, h160_251, h160_254, h160_256, h160_259, h160_261, h160_262, h160_263, h160_264, h160_265, h160_268, h160_271, h160_274, Option.bind_some, Option.toList_some, Option.toList_none, List.cons_append, List.nil_append, nI_ltc, nI_lec, nI_eqc, nI_ne5, n5_ne, n5_lt, bI_0, bI_1, nI_add, pk_mul, if_pos, if_neg, ite_not, if_true, if_false, not_true_eq_false, not_false_eq_true, true_and, false_and, and_true, and_false, Nat.reduceAdd, Nat.reduceMul, m_addresses]
    · obtain ⟨w1, w2, -⟩ := hB.win h1 (k2_ne0 h2) hs
      rw [h3] at w1
      rw [h4] at w2
      simp (disch := first | omega | assumption) only [h160_0, h160_1, h160_3, h160_6, h160_7, h160_10, h160_11, h160_14, h160_15, h160_18, h160_20, h160_21, h160_22, h160_23, h160_24, h160_25, h160_26, h160_28, h160_31, h160_32, h160_35, h160_38, h160_39, h160_42, h160_43, h160_46, h160_48, h160_49, h160_50, h160_51, h160_52, h160_54, h160_55, h160_59, h160_62, h160_65, h160_67, h160_68, h160_71, h160_72, h160_74, h160_75, h160_78, h160_80, h160_82, h160_85, h160_87, h160_88, h160_91, h160_93, h160_94, h160_96, h160_97, h160_100, h160_101, h160_104, h160_105, h160_106, h160_109, h160_112, h160_113, h160_117, h160_119, h160_122, h160_123, h160_125, h160_128, h160_131, h160_132, h160_135, h160_137, h160_140, h160_141, h160_142, h160_143, h160_144, h160_147, h160_148, h160_152, h160_153, h160_156, h160_157, h160_159, h160_162, h160_165, h160_167, h160_169, h160_172, h160_174, h160_175, h160_176, h160_177, h160_180, h160_182, h160_183, h160_184, h160_187, h160_188, h160_191, h160_193, h160_194, h160_195, h160_196, h160_199, h160_201, h160_202, h160_205, h160_207, h160_208, h160_209, h160_210, h160_213, h160_216, h160_219, h160_220, h160_221, h160_222, h160_224, h160_227, h160_230, h160_231, h160_234, h160_236, h160_239, h160_241, h160_242, h160_243, h160_244, h160_245, h160_248, h160_250, h160_251, h160_254, h160_256, h160_259, h160_261, h160_262, h160_263, h160_264, h160_265, h160_268, h160_271, h160_274, Option.bind_some, Option.toList_some, Option.toList_none, List.cons_append, List.nil_append, nI_ltc, nI_lec, nI_eqc, nI_ne5, n5_ne, n5_lt, bI_0, bI_1, nI_add, pk_mul, if_pos, if_neg, ite_not, if_true, if_false, not_true_eq_false, not_false_eq_true, true_and, false_and, and_true, and_false, Nat.reduceAdd, Nat.reduceMul, m_at, w1, w2]
  · rw [e4 t ht, fre_iff hO hb]
    rfl
theorem m_looksZ (hO : OK R) (hB : RelB R (fun t => mu 106 t)) (b s : Nat) (hb : b < 12) (hs : s < 2) (h2 : R 2 b = nI 2) (h3 : R 10 (b * 2 + s) = -5) (h4 : R 11 (b * 2 + s) = nI 0) : ∃ P, zsem (d + 3) 160 0 [.inr (some 105), .inl (nI b), .inl (nI s), .inr none, .inr none, .inr none, .inr none, .inr none] [] (HH L mu p) = some (none, HH L (LF mu P) p) ∧ ∀ t, t < 256 → ¬P t := by
  obtain ⟨v, v', e1⟩ := m_looksN (d + 2) L mu p (nI b) s hs (-5) 256 0 (.inr none) (.inr none) rfl
  have e6 : fiB mu (fun _ => nI 0) 256 = LF mu (fun _ => False) := by
    funext r t
    unfold LF fiB wP
    by_cases q : r = 114 ∧ t < 256
    · rw [if_pos q, if_pos q, if_neg (fun g => (tb_iff _).mp g)]
    · rw [if_neg q, if_neg q]
  have e2 : zsem (d + 3) 160 57 [.inr (some 105), .inl (nI b), .inl (nI s), .inl (-5), .inl (nI 0), .inl (nI 256), v, v'] [] (HH L (fiB mu (fun _ => nI 0) 256) p) = zsem (d + 3) 160 115 [.inr (some 105), .inl (nI b), .inl (nI s), .inl (-5), .inl (nI 0), .inl (nI 0), v, v'] [] (HH L (LF mu (fun _ => False)) p) := by
    rw [← e6, h160_57]
    simp (disch := first | omega | assumption) only [h160_0, h160_1, h160_3, h160_6, h160_7, h160_10, h160_11, h160_14, h160_15, h160_18, h160_20, h160_21, h160_22, h160_23, h160_24, h160_25, h160_26, h160_28, h160_31, h160_32, h160_35, h160_38, h160_39, h160_42, h160_43, h160_46, h160_48, h160_49, h160_50, h160_51, h160_52, h160_54, h160_55, h160_59, h160_62, h160_65, h160_67, h160_68, h160_71, h160_72, h160_74, h160_75, h160_78, h160_80, h160_82, h160_85, h160_87, h160_88, h160_91, h160_93, h160_94, h160_96, h160_97, h160_100, h160_101, h160_104, h160_105, h160_106, h160_109, h160_112, h160_113, h160_117, h160_119, h160_122, h160_123, h160_125, h160_128, h160_131, h160_132, h160_135, h160_137, h160_140, h160_141, h160_142, h160_143, h160_144, h160_147, h160_148, h160_152, h160_153, h160_156, h160_157, h160_159, h160_162, h160_165, h160_167, h160_169, h160_172, h160_174, h160_175, h160_176, h160_177, h160_180, h160_182, h160_183, h160_184, h160_187, h160_188, h160_191, h160_193, h160_194, h160_195, h160_196, h160_199, h160_201, h160_202, h160_205, h160_207, h160_208, h160_209, h160_210, h160_213, h160_216, h160_219, h160_220, h160_221, h160_222, h160_224, h160_227, h160_230, h160_231, h160_234, h160_236, h160_239, h160_241, h160_242, h160_243, h160_244, h160_245, h160_248, h160_250, h160_251, h160_254, h160_256, h160_259, h160_261, h160_262, h160_263, h160_264, h160_265, h160_268, h160_271, h160_274, Option.bind_some, Option.toList_some, Option.toList_none, List.cons_append, List.nil_append, nI_ltc, nI_lec, nI_eqc, nI_ne5, n5_ne, n5_lt, bI_0, bI_1, nI_add, pk_mul, if_pos, if_neg, ite_not, if_true, if_false, not_true_eq_false, not_false_eq_true, true_and, false_and, and_true, and_false, Nat.reduceAdd, Nat.reduceMul]
  obtain ⟨P, e3, e4⟩ := m_looksD d L mu p hO hB b (by omega) (-5) (nI 0) s hs 12 0 (fun _ => False) v v' rfl
  have e5 : fiB mu (fun _ => nI 0) 0 = mu := by
    funext r t
    unfold fiB
    rw [if_neg (by omega)]
  rw [e5] at e1
  refine ⟨P, ?_, fun t ht q => ((e4 t ht).mp q).1⟩
  rw [← e3, ← e2, ← e1]
  obtain ⟨w1, w2, -⟩ := hB.win hb (k2_ne0 h2) hs
  rw [h3] at w1
  rw [h4] at w2
  simp (disch := first | omega | assumption) only [h160_0, h160_1, h160_3, h160_6, h160_7, h160_10, h160_11, h160_14, h160_15, h160_18, h160_20, h160_21, h160_22, h160_23, h160_24, h160_25, h160_26, h160_28, h160_31, h160_32, h160_35, h160_38, h160_39, h160_42, h160_43, h160_46, h160_48, h160_49, h160_50, h160_51, h160_52, h160_54, h160_55, h160_59, h160_62, h160_65, h160_67, h160_68, h160_71, h160_72, h160_74, h160_75, h160_78, h160_80, h160_82, h160_85, h160_87, h160_88, h160_91, h160_93, h160_94, h160_96, h160_97, h160_100, h160_101, h160_104, h160_105, h160_106, h160_109, h160_112, h160_113, h160_117, h160_119, h160_122, h160_123, h160_125, h160_128, h160_131, h160_132, h160_135, h160_137, h160_140, h160_141, h160_142, h160_143, h160_144, h160_147, h160_148, h160_152, h160_153, h160_156, h160_157, h160_159, h160_162, h160_165, h160_167, h160_169, h160_172, h160_174, h160_175, h160_176, h160_177, h160_180, h160_182, h160_183, h160_184, h160_187, h160_188, h160_191, h160_193, h160_194, h160_195, h160_196, h160_199, h160_201, h160_202, h160_205, h160_207, h160_208, h160_209, h160_210, h160_213, h160_216, h160_219, h160_220, h160_221, h160_222, h160_224, h160_227, h160_230, h160_231, h160_234, h160_236, h160_239, h160_241, h160_242, h160_243, h160_244, h160_245, h160_248, h160_250, h160_251, h160_254, h160_256, h160_259, h160_261, h160_262, h160_263, h160_264, h160_265, h160_268, h160_271, h160_274, Option.bind_some, Option.toList_some, Option.toList_none, List.cons_append, List.nil_append, nI_ltc, nI_lec, nI_eqc, nI_ne5, n5_ne, n5_lt, bI_0, bI_1, nI_add, pk_mul, if_pos, if_neg, ite_not, if_true, if_false, not_true_eq_false, not_false_eq_true, true_and, false_and, and_true, and_false, Nat.reduceAdd, Nat.reduceMul, m_at, w1, w2]
end
