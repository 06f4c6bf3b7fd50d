/-! print: a function of the rack -/
def qD (R : RV) (e k : Nat) : Int32 := if e = 12 ∨ R 2 e = nI 2 then R 5 (e * 4 + k) else -1
def qS (R : RV) (a e k : Nat) : Int32 := if e < 12 ∧ R 2 e = nI 1 ∧ k < 3 then R a (e * 3 + k) else -1
def qW (R : RV) (a e s : Nat) : Int32 := if e < 12 ∧ R 2 e = nI 2 then R a (e * 2 + s) else -1
def qF (R : RV) (e s : Nat) : Int32 := if e < 12 ∧ R 2 e = nI 2 then nI (fN R s e) else -1
noncomputable def qR (R : RV) (e s : Nat) : Int32 := if e = 12 ∨ R 2 e = nI 2 then (if e = 12 then nI (adr s) else R 11 (e * 2 + s)) - nI (sumC R s e 12) else -1
def qN (R : RV) (a e : Nat) : Int32 := if e < 12 ∧ R 2 e = nI 2 then R a e else -1
section
variable (d L : Nat) (mu : RV) (p : Nat → Nat)
theorem q_D {R : RV} (hR : rk mu 1 = R) (e k : Nat) (he : e < 13) (hk : k < 4) : zsem (d + 2) 29 0 [.inr (.inl (some 0)), .inl (nI e), .inl (nI k)] [] (HH L mu p) = some (some (.inl (qD R e k)), HH L mu p) := by
  subst hR
  unfold qD
  by_cases h : e = 12 ∨ rk mu 1 2 e = nI 2
  · rw [if_pos h, rk_5 (by omega)]
    refine y_deviceIn d L mu p e k he ?_ hk
    rcases h with q | q
    · exact Or.inl q
    · by_cases g : e < 12
      · exact Or.inr (by rw [← rk_2 (mu := mu) g]; exact q)
      · exact Or.inl (by omega)
  · rw [if_neg h]
    exact y_deviceIn_n d L mu p e k (by omega) (fun q => h (Or.inr (by rw [rk_2 (by omega)]; exact q))) (nI k)
theorem q_7 {R : RV} (hR : rk mu 1 = R) (e k : Nat) (he : e < 13) (hk : k < 4) : zsem (d + 2) 50 0 [.inr (.inl (some 0)), .inl (nI e), .inl (nI k)] [] (HH L mu p) = some (some (.inl (qS R 7 e k)), HH L mu p) := by
  subst hR
  unfold qS
  by_cases h : e < 12
  · by_cases g : mu 2 e = nI 1
    · by_cases g3 : k < 3
      · rw [if_pos ⟨h, by rw [rk_2 h]; exact g, g3⟩, rk_7 (by omega)]
        exact y_size d L mu p e k h g g3
      · have : k = 3 := by omega
        subst this
        rw [if_neg (fun q => g3 q.2.2)]
        exact y_size_q d L mu p e h g
    · rw [if_neg (fun q => g (by rw [← rk_2 (mu := mu) h]; exact q.2.1))]
      exact y_size_n d L mu p e h g (nI k)
  · have : e = 12 := by omega
    subst this
    rw [if_neg (fun q => h q.1)]
    exact y_size_o d L mu p (nI k)
theorem q_8 {R : RV} (hR : rk mu 1 = R) (e k : Nat) (he : e < 13) (hk : k < 4) : zsem (d + 2) 46 0 [.inr (.inl (some 0)), .inl (nI e), .inl (nI k)] [] (HH L mu p) = some (some (.inl (qS R 8 e k)), HH L mu p) := by
  subst hR
  unfold qS
  by_cases h : e < 12
  · by_cases g : mu 2 e = nI 1
    · by_cases g3 : k < 3
      · rw [if_pos ⟨h, by rw [rk_2 h]; exact g, g3⟩, rk_8 (by omega)]
        exact y_base d L mu p e k h g g3
      · have : k = 3 := by omega
        subst this
        rw [if_neg (fun q => g3 q.2.2)]
        exact y_base_q d L mu p e h g
    · rw [if_neg (fun q => g (by rw [← rk_2 (mu := mu) h]; exact q.2.1))]
      exact y_base_n d L mu p e h g (nI k)
  · have : e = 12 := by omega
    subst this
    rw [if_neg (fun q => h q.1)]
    exact y_base_o d L mu p (nI k)
theorem q_10 {R : RV} (hR : rk mu 1 = R) (e s : Nat) (he : e < 13) (hs : s < 2) : zsem (d + 2) 38 0 [.inr (.inl (some 0)), .inl (nI e), .inl (nI s)] [] (HH L mu p) = some (some (.inl (qW R 10 e s)), HH L mu p) := by
  subst hR
  unfold qW
  by_cases h : e < 12
  · by_cases g : mu 2 e = nI 2
    · rw [if_pos ⟨h, by rw [rk_2 h]; exact g⟩, rk_10 (by omega)]
      exact y_wb d L mu p e s h g hs
    · rw [if_neg (fun q => g (by rw [← rk_2 (mu := mu) h]; exact q.2))]
      exact y_wb_n d L mu p e (nI s) h g
  · have : e = 12 := by omega
    subst this
    rw [if_neg (fun q => h q.1)]
    exact y_wb_o d L mu p (nI s)
theorem q_11 {R : RV} (hR : rk mu 1 = R) (e s : Nat) (he : e < 13) (hs : s < 2) : zsem (d + 2) 42 0 [.inr (.inl (some 0)), .inl (nI e), .inl (nI s)] [] (HH L mu p) = some (some (.inl (qW R 11 e s)), HH L mu p) := by
  subst hR
  unfold qW
  by_cases h : e < 12
  · by_cases g : mu 2 e = nI 2
    · rw [if_pos ⟨h, by rw [rk_2 h]; exact g⟩, rk_11 (by omega)]
      exact y_ws d L mu p e s h g hs
    · rw [if_neg (fun q => g (by rw [← rk_2 (mu := mu) h]; exact q.2))]
      exact y_ws_n d L mu p e (nI s) h g
  · have : e = 12 := by omega
    subst this
    rw [if_neg (fun q => h q.1)]
    exact y_ws_o d L mu p (nI s)
theorem q_F {R : RV} (hO : OK R) (hR : rk mu 1 = R) (e s : Nat) (he : e < 13) (hs : s < 2) : ∃ mu', FrS mu mu' ∧ zsem (d + 4) 70 0 [.inr (.inl (some 0)), .inl (nI e), .inl (nI s)] [] (HH L mu p) = some (some (.inl (qF R e s)), HH L mu' p) := by
  unfold qF
  by_cases h : e < 12
  · by_cases g : R 2 e = nI 2
    · rw [if_pos ⟨h, g⟩]
      obtain ⟨mu', e1, e2⟩ := y_need d L mu p hO hR e s h (by rw [← rk_2 (mu := mu) h, hR]; exact g) hs
      exact ⟨mu', fun r hr => e2 r (by omega), e1⟩
    · rw [if_neg (fun q => g q.2)]
      exact ⟨mu, fun r _ => rfl, y_need_n d L mu p e (nI s) h (by rw [← rk_2 (mu := mu) h, hR]; exact g)⟩
  · have : e = 12 := by omega
    subst this
    rw [if_neg (fun q => h q.1)]
    exact ⟨mu, fun r _ => rfl, y_need_o d L mu p (nI s)⟩
theorem q_R {R : RV} (hO : OK R) (hR : rk mu 1 = R) (e s : Nat) (he : e < 13) (hs : s < 2) : zsem (d + 4) 54 0 [.inr (.inl (some 0)), .inl (nI e), .inl (nI s)] [] (HH L mu p) = some (some (.inl (qR R e s)), HH L mu p) := by
  subst hR
  unfold qR
  by_cases h : e = 12 ∨ rk mu 1 2 e = nI 2
  · rw [if_pos h]
    have hk : e = 12 ∨ mu 2 e = nI 2 := by
      rcases h with q | q
      · exact Or.inl q
      · by_cases g : e < 12
        · exact Or.inr (by rw [← rk_2 (mu := mu) g]; exact q)
        · exact Or.inl (by omega)
    rw [y_freeRoom d L mu p hO e s he hk hs]
    unfold extI
    by_cases h12 : e = 12
    · rw [if_pos h12, if_pos h12]
    · rw [if_neg h12, if_neg h12, rk_11 (by omega)]
  · rw [if_neg h]
    exact y_freeRoom_n d L mu p e (nI s) (by omega) (fun q => h (Or.inr (by rw [rk_2 (by omega)]; exact q)))
theorem q_12 {R : RV} (hR : rk mu 1 = R) (e : Nat) (he : e < 13) : zsem (d + 1) 33 0 [.inr (.inl (some 0)), .inl (nI e)] [] (HH L mu p) = some (some (.inl (qN R 12 e)), HH L mu p) := by
  subst hR
  unfold qN
  by_cases h : e < 12
  · by_cases g : mu 2 e = nI 2
    · rw [if_pos ⟨h, by rw [rk_2 h]; exact g⟩, rk_12 h]
      exact y_first d L mu p e h g
    · rw [if_neg (fun q => g (by rw [← rk_2 (mu := mu) h]; exact q.2))]
      exact y_first_n d L mu p e h g
  · have : e = 12 := by omega
    subst this
    rw [if_neg (fun q => h q.1)]
    exact y_first_o d L mu p
theorem q_13 {R : RV} (hR : rk mu 1 = R) (e : Nat) (he : e < 13) : zsem (d + 1) 34 0 [.inr (.inl (some 0)), .inl (nI e)] [] (HH L mu p) = some (some (.inl (qN R 13 e)), HH L mu p) := by
  subst hR
  unfold qN
  by_cases h : e < 12
  · by_cases g : mu 2 e = nI 2
    · rw [if_pos ⟨h, by rw [rk_2 h]; exact g⟩, rk_13 h]
      exact y_last d L mu p e h g
    · rw [if_neg (fun q => g (by rw [← rk_2 (mu := mu) h]; exact q.2))]
      exact y_last_n d L mu p e h g
  · have : e = 12 := by omega
    subst this
    rw [if_neg (fun q => h q.1)]
    exact y_last_o d L mu p
theorem q_dv {R : RV} (hR : rk mu 1 = R) : zsem (d + 2) 45 0 [.inr (.inl (some 0))] [] (HH L mu p) = some (some (.inl (nI (msk (fun j => R 2 j = nI 1) 12) ||| nI (msk (fun j => R 2 j = nI 2) 12))), HH L mu p) := by
  subst hR
  rw [y_devices d L mu p, msk_cong (fun j => mu 2 j = nI 1) (fun j => rk mu 1 2 j = nI 1) 12 (fun j hj => by rw [rk_2 hj]), msk_cong (fun j => mu 2 j = nI 2) (fun j => rk mu 1 2 j = nI 2) 12 (fun j hj => by rw [rk_2 hj])]
theorem q_br {R : RV} (hR : rk mu 1 = R) : zsem (d + 2) 27 0 [.inr (.inl (some 0))] [] (HH L mu p) = some (some (.inl (nI (msk (fun j => R 2 j = nI 2) 12))), HH L mu p) := by
  subst hR
  rw [y_bridges d L mu p, msk_cong (fun j => mu 2 j = nI 2) (fun j => rk mu 1 2 j = nI 2) 12 (fun j hj => by rw [rk_2 hj])]
end
/-- the slots and regions -/
theorem y_prK {R : RV} (e : Nat) (he : e < 13) : ∀ m k (h : Int64), k + m = 4 → ∃ h' : Int64, ∀ (d L : Nat) (mu : RV) (p : Nat → Nat) (w4 : AV), rk mu 1 = R → zsem (d + 5) 80 27 [.inr (.inl (some 0)), .inr (.inr h), .inr (.inl none), .inl (nI e), .inl (nI k)] [] (HH L mu p) = zsem (d + 5) 80 85 [.inr (.inl (some 0)), .inr (.inr h'), .inr (.inl none), .inl (nI e), .inl (nI 0)] [] (HH L mu p) := by
  intro m
  induction m with
  | zero =>
    intro k h hk
    have : k = 4 := by omega
    subst this
    refine ⟨h, fun d L mu p w4 hR => ?_⟩
    rw [h80_27]
    simp (disch := first | omega | assumption) only [h80_0, h80_3, h80_4, h80_7, h80_8, h80_9, h80_10, h80_13, h80_14, h80_15, h80_16, h80_17, h80_19, h80_21, h80_24, h80_25, h80_29, h80_30, h80_33, h80_36, h80_37, h80_38, h80_39, h80_40, h80_42, h80_45, h80_46, h80_47, h80_48, h80_51, h80_52, h80_53, h80_56, h80_57, h80_58, h80_60, h80_63, h80_64, h80_65, h80_66, h80_67, h80_68, h80_70, h80_73, h80_74, h80_75, h80_76, h80_79, h80_82, h80_83, h80_87, h80_88, h80_91, h80_94, h80_95, h80_96, h80_99, h80_100, h80_101, h80_103, h80_106, h80_107, h80_108, h80_109, h80_110, h80_111, h80_113, h80_116, h80_117, h80_118, h80_119, h80_122, h80_123, h80_124, h80_127, h80_128, h80_129, h80_131, h80_134, h80_135, h80_136, h80_137, h80_138, h80_139, h80_141, h80_144, h80_145, h80_146, h80_147, h80_150, h80_153, h80_156, h80_157, h80_158, h80_161, h80_162, h80_163, h80_166, h80_167, h80_168, h80_169, h80_170, h80_171, h80_174, h80_175, h80_176, h80_177, h80_180, h80_183, h80_184, Option.bind_some, Option.toList_some, Option.toList_none, List.cons_append, List.nil_append, nI_ltc, nI_lec, nI_eqc, nI_ne5, n5_ne, n5_lt, bI_0, bI_1, nI_add, pk_mul, if_pos, if_neg, ite_not, if_true, if_false, not_true_eq_false, not_false_eq_true, true_and, false_and, and_true, and_false, Nat.reduceAdd, Nat.reduceMul]
  | succ m ih =>
    intro k h hk
    obtain ⟨h', e1⟩ := ih (k + 1) (31 * (31 * h + (qD R e k).toInt64) + 3 * (qS R 7 e k).toInt64 + (qS R 8 e k).toInt64) (by omega)
    refine ⟨h', fun d L mu p w4 hR => ?_⟩
    rw [← e1 d L mu p w4 hR, h80_27]
    have c1 := q_D (d + 2) L mu p hR e k he (by omega)
    have c2 := q_7 (d + 2) L mu p hR e k he (by omega)
    have c3 := q_8 (d + 2) L mu p hR e k he (by omega)
    simp (disch := first | omega | assumption) only [h80_0, h80_3, h80_4, h80_7, h80_8, h80_9, h80_10, h80_13, h80_14, h80_15, h80_16, h80_17, h80_19, h80_21, h80_24, h80_25, h80_29, h80_30, h80_33, h80_36, h80_37, h80_38, h80_39, h80_40, h80_42, h80_45, h80_46, h80_47, h80_48, h80_51, h80_52, h80_53, h80_56, h80_57, h80_58, h80_60, h80_63, h80_64, h80_65, h80_66, h80_67, h80_68, h80_70, h80_73, h80_74, h80_75, h80_76, h80_79, h80_82, h80_83, h80_87, h80_88, h80_91, h80_94, h80_95, h80_96, h80_99, h80_100, h80_101, h80_103, h80_106, h80_107, h80_108, h80_109, h80_110, h80_111, h80_113, h80_116, h80_117, h80_118, h80_119, h80_122, h80_123, h80_124, h80_127, h80_128, h80_129, h80_131, h80_134, h80_135, h80_136, h80_137, h80_138, h80_139, h80_141, h80_144, h80_145, h80_146, h80_147, h80_150, h80_153, h80_156, h80_157, h80_158, h80_161, h80_162, h80_163, h80_166, h80_167, h80_168, h80_169, h80_170, h80_171, h80_174, h80_175, h80_176, h80_177, h80_180, h80_183, h80_184, Option.bind_some, Option.toList_some, Option.toList_none, List.cons_append, List.nil_append, nI_ltc, nI_lec, nI_eqc, nI_ne5, n5_ne, n5_lt, bI_0, bI_1, nI_add, pk_mul, if_pos, if_neg, ite_not, if_true, if_false, not_true_eq_false, not_false_eq_true, true_and, false_and, and_true, and_false, Nat.reduceAdd, Nat.reduceMul, c1, c2, c3]
/-- the windows and needs -/
theorem y_prS {R : RV} (hO : OK R) (e : Nat) (he : e < 13) : ∀ m s (h : Int64), s + m = 2 → ∃ h' : Int64, ∀ (d L : Nat) (mu : RV) (p : Nat → Nat), rk mu 1 = R → ∃ mu', FrS mu mu' ∧ zsem (d + 5) 80 85 [.inr (.inl (some 0)), .inr (.inr h), .inr (.inl none), .inl (nI e), .inl (nI s)] [] (HH L mu p) = zsem (d + 5) 80 18 [.inr (.inl (some 0)), .inr (.inr h'), .inr (.inl none), .inl (nI (e + 1)), .inl (nI 2)] [] (HH L mu' p) := by
  intro m
  induction m with
  | zero =>
    intro s h hs
    have : s = 2 := by omega
    subst this
    refine ⟨31 * h + 9 * (qN R 12 e).toInt64 + (qN R 13 e).toInt64, fun d L mu p hR => ⟨mu, fun r _ => rfl, ?_⟩⟩
    have c1 := q_12 (d + 3) L mu p hR e he
    have c2 := q_13 (d + 3) L mu p hR e he
    rw [h80_85]
    simp (disch := first | omega | assumption) only [h80_0, h80_3, h80_4, h80_7, h80_8, h80_9, h80_10, h80_13, h80_14, h80_15, h80_16, h80_17, h80_19, h80_21, h80_24, h80_25, h80_29, h80_30, h80_33, h80_36, h80_37, h80_38, h80_39, h80_40, h80_42, h80_45, h80_46, h80_47, h80_48, h80_51, h80_52, h80_53, h80_56, h80_57, h80_58, h80_60, h80_63, h80_64, h80_65, h80_66, h80_67, h80_68, h80_70, h80_73, h80_74, h80_75, h80_76, h80_79, h80_82, h80_83, h80_87, h80_88, h80_91, h80_94, h80_95, h80_96, h80_99, h80_100, h80_101, h80_103, h80_106, h80_107, h80_108, h80_109, h80_110, h80_111, h80_113, h80_116, h80_117, h80_118, h80_119, h80_122, h80_123, h80_124, h80_127, h80_128, h80_129, h80_131, h80_134, h80_135, h80_136, h80_137, h80_138, h80_139, h80_141, h80_144, h80_145, h80_146, h80_147, h80_150, h80_153, h80_156, h80_157, h80_158, h80_161, h80_162, h80_163, h80_166, h80_167, h80_168, h80_169, h80_170, h80_171, h80_174, h80_175, h80_176, h80_177, h80_180, h80_183, h80_184, Option.bind_some, Option.toList_some, Option.toList_none, List.cons_append, List.nil_append, nI_ltc, nI_lec, nI_eqc, nI_ne5, n5_ne, n5_lt, bI_0, bI_1, nI_add, pk_mul, if_pos, if_neg, ite_not, if_true, if_false, not_true_eq_false, not_false_eq_true, true_and, false_and, and_true, and_false, Nat.reduceAdd, Nat.reduceMul, c1, c2]
  | succ m ih =>
    intro s h hs
    obtain ⟨h', e1⟩ := ih (s + 1) (31 * (31 * h + 5 * (qW R 10 e s).toInt64 + (qW R 11 e s).toInt64) + 7 * (qF R e s).toInt64 + (qR R e s).toInt64) (by omega)
    refine ⟨h', fun d L mu p hR => ?_⟩
    have c1 := q_10 (d + 2) L mu p hR e s he (by omega)
    have c2 := q_11 (d + 2) L mu p hR e s he (by omega)
    obtain ⟨mu1, f1, c3⟩ := q_F d L mu p hO hR e s he (by omega)
    have hR1 : rk mu1 1 = R := by rw [f1.rk (by omega)]; exact hR
    have c4 := q_R d L mu1 p hO hR1 e s he (by omega)
    obtain ⟨mu', f2, e2⟩ := e1 d L mu1 p hR1
    refine ⟨mu', f1.tr f2, ?_⟩
    rw [← e2, h80_85]
    simp (disch := first | omega | assumption) only [h80_0, h80_3, h80_4, h80_7, h80_8, h80_9, h80_10, h80_13, h80_14, h80_15, h80_16, h80_17, h80_19, h80_21, h80_24, h80_25, h80_29, h80_30, h80_33, h80_36, h80_37, h80_38, h80_39, h80_40, h80_42, h80_45, h80_46, h80_47, h80_48, h80_51, h80_52, h80_53, h80_56, h80_57, h80_58, h80_60, h80_63, h80_64, h80_65, h80_66, h80_67, h80_68, h80_70, h80_73, h80_74, h80_75, h80_76, h80_79, h80_82, h80_83, h80_87, h80_88, h80_91, h80_94, h80_95, h80_96, h80_99, h80_100, h80_101, h80_103, h80_106, h80_107, h80_108, h80_109, h80_110, h80_111, h80_113, h80_116, h80_117, h80_118, h80_119, h80_122, h80_123, h80_124, h80_127, h80_128, h80_129, h80_131, h80_134, h80_135, h80_136, h80_137, h80_138, h80_139, h80_141, h80_144, h80_145, h80_146, h80_147, h80_150, h80_153, h80_156, h80_157, h80_158, h80_161, h80_162, h80_163, h80_166, h80_167, h80_168, h80_169, h80_170, h80_171, h80_174, h80_175, h80_176, h80_177, h80_180, h80_183, h80_184, Option.bind_some, Option.toList_some, Option.toList_none, List.cons_append, List.nil_append, nI_ltc, nI_lec, nI_eqc, nI_ne5, n5_ne, n5_lt, bI_0, bI_1, nI_add, pk_mul, if_pos, if_neg, ite_not, if_true, if_false, not_true_eq_false, not_false_eq_true, true_and, false_and, and_true, and_false, Nat.reduceAdd, Nat.reduceMul, c1, c2, c3, c4]
theorem y_prE {R : RV} (hO : OK R) : ∀ m e (h : Int64), e + m = 13 → ∃ h' : Int64, ∀ (d L : Nat) (mu : RV) (p : Nat → Nat) (w4 : AV), rk mu 1 = R → ∃ mu', FrS mu mu' ∧ zsem (d + 5) 80 18 [.inr (.inl (some 0)), .inr (.inr h), .inr (.inl none), .inl (nI e), w4] [] (HH L mu p) = some (some (.inr (.inr h')), HH L mu' p) := by
  intro m
  induction m with
  | zero =>
    intro e h he
    have : e = 13 := by omega
    subst this
    refine ⟨h, fun d L mu p w4 hR => ⟨mu, fun r _ => rfl, ?_⟩⟩
    rw [h80_18]
    simp (disch := first | omega | assumption) only [h80_0, h80_3, h80_4, h80_7, h80_8, h80_9, h80_10, h80_13, h80_14, h80_15, h80_16, h80_17, h80_19, h80_21, h80_24, h80_25, h80_29, h80_30, h80_33, h80_36, h80_37, h80_38, h80_39, h80_40, h80_42, h80_45, h80_46, h80_47, h80_48, h80_51, h80_52, h80_53, h80_56, h80_57, h80_58, h80_60, h80_63, h80_64, h80_65, h80_66, h80_67, h80_68, h80_70, h80_73, h80_74, h80_75, h80_76, h80_79, h80_82, h80_83, h80_87, h80_88, h80_91, h80_94, h80_95, h80_96, h80_99, h80_100, h80_101, h80_103, h80_106, h80_107, h80_108, h80_109, h80_110, h80_111, h80_113, h80_116, h80_117, h80_118, h80_119, h80_122, h80_123, h80_124, h80_127, h80_128, h80_129, h80_131, h80_134, h80_135, h80_136, h80_137, h80_138, h80_139, h80_141, h80_144, h80_145, h80_146, h80_147, h80_150, h80_153, h80_156, h80_157, h80_158, h80_161, h80_162, h80_163, h80_166, h80_167, h80_168, h80_169, h80_170, h80_171, h80_174, h80_175, h80_176, h80_177, h80_180, h80_183, h80_184, Option.bind_some, Option.toList_some, Option.toList_none, List.cons_append, List.nil_append, nI_ltc, nI_lec, nI_eqc, nI_ne5, n5_ne, n5_lt, bI_0, bI_1, nI_add, pk_mul, if_pos, if_neg, ite_not, if_true, if_false, not_true_eq_false, not_false_eq_true, true_and, false_and, and_true, and_false, Nat.reduceAdd, Nat.reduceMul]
  | succ m ih =>
    intro e h he
    obtain ⟨h1, e1⟩ := y_prK (R := R) e (by omega) 4 0 h rfl
    obtain ⟨h2, e2⟩ := y_prS hO e (by omega) 2 0 h1 rfl
    obtain ⟨h3, e3⟩ := ih (e + 1) h2 (by omega)
    refine ⟨h3, fun d L mu p w4 hR => ?_⟩
    obtain ⟨mu1, f1, g1⟩ := e2 d L mu p hR
    obtain ⟨mu2, f2, g2⟩ := e3 d L mu1 p (.inl (nI 2)) (by rw [f1.rk (by omega)]; exact hR)
    refine ⟨mu2, f1.tr f2, ?_⟩
    rw [← g2, ← g1, ← e1 d L mu p w4 hR, h80_18]
    simp (disch := first | omega | assumption) only [h80_0, h80_3, h80_4, h80_7, h80_8, h80_9, h80_10, h80_13, h80_14, h80_15, h80_16, h80_17, h80_19, h80_21, h80_24, h80_25, h80_29, h80_30, h80_33, h80_36, h80_37, h80_38, h80_39, h80_40, h80_42, h80_45, h80_46, h80_47, h80_48, h80_51, h80_52, h80_53, h80_56, h80_57, h80_58, h80_60, h80_63, h80_64, h80_65, h80_66, h80_67, h80_68, h80_70, h80_73, h80_74, h80_75, h80_76, h80_79, h80_82, h80_83, h80_87, h80_88, h80_91, h80_94, h80_95, h80_96, h80_99, h80_100, h80_101, h80_103, h80_106, h80_107, h80_108, h80_109, h80_110, h80_111, h80_113, h80_116, h80_117, h80_118, h80_119, h80_122, h80_123, h80_124, h80_127, h80_128, h80_129, h80_131, h80_134, h80_135, h80_136, h80_137, h80_138, h80_139, h80_141, h80_144, h80_145, h80_146, h80_147, h80_150, h80_153, h80_156, h80_157, h80_158, h80_161, h80_162, h80_163, h80_166, h80_167, h80_168, h80_169, h80_170, h80_171, h80_174, h80_175, h80_176, h80_177, h80_180, h80_183, h80_184, Option.bind_some, Option.toList_some, Option.toList_none, List.cons_append, List.nil_append, nI_ltc, nI_lec, nI_eqc, nI_ne5, n5_ne, n5_lt, bI_0, bI_1, nI_add, pk_mul, if_pos, if_neg, ite_not, if_true, if_false, not_true_eq_false, not_false_eq_true, true_and, false_and, and_true, and_false, Nat.reduceAdd, Nat.reduceMul]
def prP (R : RV) (h : Int64) : Prop := ∀ (d L : Nat) (mu : RV) (p : Nat → Nat), rk mu 1 = R → ∃ mu', FrS mu mu' ∧ zsem (d + 5) 80 0 [.inr (.inl (some 0)), .inr (.inl none), .inr (.inl none), .inr (.inl none), .inr (.inl none)] [] (HH L mu p) = some (some (.inr (.inr h)), HH L mu' p)
theorem pr_ex {R : RV} (hO : OK R) : ∃ h, prP R h := by
  obtain ⟨h, e⟩ := y_prE hO 13 0 (31 * (nI (msk (fun j => R 2 j = nI 1) 12) ||| nI (msk (fun j => R 2 j = nI 2) 12)).toInt64 + (nI (msk (fun j => R 2 j = nI 2) 12)).toInt64) rfl
  refine ⟨h, fun d L mu p hR => ?_⟩
  obtain ⟨mu', f, g⟩ := e d L mu p (.inr (.inl none)) hR
  have c1 := q_dv (d + 2) L mu p hR
  have c2 := q_br (d + 2) L mu p hR
  refine ⟨mu', f, ?_⟩
  rw [← g]
  simp (disch := first | omega | assumption) only [h80_0, h80_3, h80_4, h80_7, h80_8, h80_9, h80_10, h80_13, h80_14, h80_15, h80_16, h80_17, h80_19, h80_21, h80_24, h80_25, h80_29, h80_30, h80_33, h80_36, h80_37, h80_38, h80_39, h80_40, h80_42, h80_45, h80_46, h80_47, h80_48, h80_51, h80_52, h80_53, h80_56, h80_57, h80_58, h80_60, h80_63, h80_64, h80_65, h80_66, h80_67, h80_68, h80_70, h80_73, h80_74, h80_75, h80_76, h80_79, h80_82, h80_83, h80_87, h80_88, h80_91, h80_94, h80_95, h80_96, h80_99, h80_100, h80_101, h80_103, h80_106, h80_107, h80_108, h80_109, h80_110, h80_111, h80_113, h80_116, h80_117, h80_118, h80_119, h80_122, h80_123, h80_124, h80_127, h80_128, h80_129, h80_131, h80_134, h80_135, h80_136, h80_137, h80_138, h80_139, h80_141, h80_144, h80_145, h80_146, h80_147, h80_150, h80_153, h80_156, h80_157, h80_158, h80_161, h80_162, h80_163, h80_166, h80_167, h80_168, h80_169, h80_170, h80_171, h80_174, h80_175, h80_176, h80_177, h80_180, h80_183, h80_184, Option.bind_some, Option.toList_some, Option.toList_none, List.cons_append, List.nil_append, nI_ltc, nI_lec, nI_eqc, nI_ne5, n5_ne, n5_lt, bI_0, bI_1, nI_add, pk_mul, if_pos, if_neg, ite_not, if_true, if_false, not_true_eq_false, not_false_eq_true, true_and, false_and, and_true, and_false, Nat.reduceAdd, Nat.reduceMul, c1, c2]
/-- what print answers for a rack -/
noncomputable def prV (R : RV) : Int64 := Classical.epsilon (prP R)
theorem y_print (d L : Nat) (mu : RV) (p : Nat → Nat) (hR : Rel mu p) {R : RV} (hk : rk mu 1 = R) : ∃ mu', FrS mu mu' ∧ zsem (d + 5) 80 0 [.inr (.inl (some 0)), .inr (.inl none), .inr (.inl none), .inr (.inl none), .inr (.inl none)] [] (HH L mu p) = some (some (.inr (.inr (prV R))), HH L mu' p) :=
  Classical.epsilon_spec (pr_ex (R := R) (by rw [← hk]; exact hR.2.2.1)) d L mu p hk
