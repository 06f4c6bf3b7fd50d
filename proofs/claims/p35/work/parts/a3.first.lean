/-! the first state: what the constructors leave -/
/-- the same but for the script -/
def Ee (A B : AH) : Prop := A.1 = B.1 ∧ (∀ k, k < 105 → A.2.1 k = B.2.1 k) ∧ (∀ a i, a < 105 → A.2.2.1 a i = B.2.2.1 a i) ∧ A.2.2.2 = B.2.2.2
theorem ee_nw {A B : AH} {t : Nat × Nat} {w : Nat} (h : Ee A B) : Ee (nw A t w) (nw B t w) := by
  obtain ⟨h1, h2, h3, h4⟩ := h
  refine ⟨?_, fun k hk => ?_, fun a i ha => ?_, ?_⟩
  · show (A.1.1 + 1, A.1.2 + w) = (B.1.1 + 1, B.1.2 + w)
    rw [h1]
  · show (if k = A.1.1 then t else A.2.1 k) = if k = B.1.1 then t else B.2.1 k
    rw [h1, h2 k hk]
  · show (if a = A.1.1 then (0 : Int32) else A.2.2.1 a i) = if a = B.1.1 then (0 : Int32) else B.2.2.1 a i
    rw [h1, h3 a i ha]
  · show (fun a i => if a = A.1.1 then none else A.2.2.2 a i) = fun a i => if a = B.1.1 then none else B.2.2.2 a i
    rw [h1, h4]
theorem u2_ee {M N : Nat → Nat → Int32} {r j : Nat} {x : Int32} (h : ∀ a i, a < 105 → M a i = N a i) (hr : r < 105) : ∀ a i, a < 105 → u2 M r j x a i = u2 N r j x a i := by
  intro a i ha
  unfold u2
  rw [h a i ha, h r i hr]
theorem fl_ee {M N : Nat → Nat → Int32} {r n : Nat} {x : Int32} (h : ∀ a i, a < 105 → M a i = N a i) : ∀ a i, a < 105 → fl M r n x a i = fl N r n x a i := by
  intro a i ha
  unfold fl
  rw [h a i ha]
theorem ee_sI {A B : AH} {r j : Nat} {x : Int32} (h : Ee A B) (hr : r < 105) : Ee (sI A r j x) (sI B r j x) := ⟨h.1, h.2.1, u2_ee h.2.2.1 hr, h.2.2.2⟩
theorem ee_sR {A B : AH} {r j : Nat} {x : Option Nat} (h : Ee A B) : Ee (sR A r j x) (sR B r j x) := ⟨h.1, h.2.1, h.2.2.1, by
  show u2 A.2.2.2 r j x = u2 B.2.2.2 r j x
  rw [h.2.2.2]⟩
theorem ee_rk {A B : AH} {r c w : Nat} (h : Ee A B) (hr : r < 105) : Ee (RK A r c w) (RK B r c w) := by
  obtain ⟨h1, h2, h3, h4⟩ := h
  refine ⟨rfl, fun k hk => ?_, ?_, ?_⟩
  · show (if c ≤ k ∧ k < c + 12 then _ else A.2.1 k) = if c ≤ k ∧ k < c + 12 then _ else B.2.1 k
    rw [h2 k hk]
  · have h0 : ∀ a i, a < 105 → (fun (a i : Nat) => if c ≤ a ∧ a < c + 12 then (0 : Int32) else A.2.2.1 a i) a i = (fun (a i : Nat) => if c ≤ a ∧ a < c + 12 then (0 : Int32) else B.2.2.1 a i) a i := by
      intro a i ha
      show (if _ then _ else _) = if _ then _ else _
      rw [h3 a i ha]
    exact fl_ee (fl_ee (fl_ee (fl_ee (fl_ee (fl_ee (fl_ee (fl_ee (fl_ee (fl_ee (fl_ee (fl_ee (u2_ee h0 hr))))))))))))
  · show (fun a i => if c ≤ a ∧ a < c + 12 then none else if a = r ∧ i < 12 then some (c + i) else A.2.2.2 a i) = fun a i => if c ≤ a ∧ a < c + 12 then none else if a = r ∧ i < 12 then some (c + i) else B.2.2.2 a i
    rw [h4]
def x0 : Nat → Int32 := fun _ => 0
theorem K0_e (L : Nat) (xs : Nat → Int32) : Ee (K0 L xs) (K0 0 x0) := by
  refine ⟨rfl, fun k hk => ?_, fun a i ha => ?_, rfl⟩
  · have hs : ¬k = SC := fun q => by
      subst q
      exact absurd hk (by decide)
    show (if k = SC then (20, L) else (99, 0)) = if k = SC then (20, 0) else (99, 0)
    rw [if_neg hs, if_neg hs]
  · have hs : ¬a = SC := fun q => by
      subst q
      exact absurd ha (by decide)
    show (if a = SC then xs else fun _ => 0) i = (if a = SC then x0 else fun _ => 0) i
    rw [if_neg hs, if_neg hs]
theorem K1_e (L : Nat) (xs : Nat → Int32) : Ee (K1 L xs) (K1 0 x0) := ee_nw (K0_e L xs)
theorem K2_e (L : Nat) (xs : Nat → Int32) : Ee (K2 L xs) (K2 0 x0) := ee_nw (K1_e L xs)
theorem K3_e (L : Nat) (xs : Nat → Int32) : Ee (K3 L xs) (K3 0 x0) := ee_rk (K2_e L xs) (by decide)
theorem K4_e (L : Nat) (xs : Nat → Int32) : Ee (K4 L xs) (K4 0 x0) := ee_sR (K3_e L xs)
theorem K5_e (L : Nat) (xs : Nat → Int32) : Ee (K5 L xs) (K5 0 x0) := ee_nw (K4_e L xs)
theorem K6_e (L : Nat) (xs : Nat → Int32) : Ee (K6 L xs) (K6 0 x0) := ee_rk (K5_e L xs) (by decide)
theorem K7_e (L : Nat) (xs : Nat → Int32) : Ee (K7 L xs) (K7 0 x0) := ee_sR (K6_e L xs)
theorem K8_e (L : Nat) (xs : Nat → Int32) : Ee (K8 L xs) (K8 0 x0) := ee_sI (K7_e L xs) (by decide)
theorem K9_e (L : Nat) (xs : Nat → Int32) : Ee (K9 L xs) (K9 0 x0) := ee_nw (K8_e L xs)
theorem K10_e (L : Nat) (xs : Nat → Int32) : Ee (K10 L xs) (K10 0 x0) := ee_nw (K9_e L xs)
theorem K11_e (L : Nat) (xs : Nat → Int32) : Ee (K11 L xs) (K11 0 x0) := ee_sR (K10_e L xs)
theorem K12_e (L : Nat) (xs : Nat → Int32) : Ee (K12 L xs) (K12 0 x0) := ee_sI (K11_e L xs) (by decide)
theorem K13_e (L : Nat) (xs : Nat → Int32) : Ee (K13 L xs) (K13 0 x0) := ee_nw (K12_e L xs)
theorem K14_e (L : Nat) (xs : Nat → Int32) : Ee (K14 L xs) (K14 0 x0) := ee_rk (K13_e L xs) (by decide)
theorem K15_e (L : Nat) (xs : Nat → Int32) : Ee (K15 L xs) (K15 0 x0) := ee_sR (K14_e L xs)
theorem K16_e (L : Nat) (xs : Nat → Int32) : Ee (K16 L xs) (K16 0 x0) := ee_nw (K15_e L xs)
theorem K17_e (L : Nat) (xs : Nat → Int32) : Ee (K17 L xs) (K17 0 x0) := ee_rk (K16_e L xs) (by decide)
theorem K18_e (L : Nat) (xs : Nat → Int32) : Ee (K18 L xs) (K18 0 x0) := ee_sR (K17_e L xs)
theorem K19_e (L : Nat) (xs : Nat → Int32) : Ee (K19 L xs) (K19 0 x0) := ee_nw (K18_e L xs)
theorem K20_e (L : Nat) (xs : Nat → Int32) : Ee (K20 L xs) (K20 0 x0) := ee_rk (K19_e L xs) (by decide)
theorem K21_e (L : Nat) (xs : Nat → Int32) : Ee (K21 L xs) (K21 0 x0) := ee_sR (K20_e L xs)
theorem K22_e (L : Nat) (xs : Nat → Int32) : Ee (K22 L xs) (K22 0 x0) := ee_nw (K21_e L xs)
theorem K23_e (L : Nat) (xs : Nat → Int32) : Ee (K23 L xs) (K23 0 x0) := ee_rk (K22_e L xs) (by decide)
theorem K24_e (L : Nat) (xs : Nat → Int32) : Ee (K24 L xs) (K24 0 x0) := ee_sR (K23_e L xs)
theorem K25_e (L : Nat) (xs : Nat → Int32) : Ee (K25 L xs) (K25 0 x0) := ee_sR (K24_e L xs)
theorem K26_e (L : Nat) (xs : Nat → Int32) : Ee (K26 L xs) (K26 0 x0) := ee_nw (K25_e L xs)
theorem K27_e (L : Nat) (xs : Nat → Int32) : Ee (K27 L xs) (K27 0 x0) := ee_nw (K26_e L xs)
theorem K28_e (L : Nat) (xs : Nat → Int32) : Ee (K28 L xs) (K28 0 x0) := ee_sR (K27_e L xs)
theorem K29_e (L : Nat) (xs : Nat → Int32) : Ee (K29 L xs) (K29 0 x0) := ee_nw (K28_e L xs)
theorem K30_e (L : Nat) (xs : Nat → Int32) : Ee (K30 L xs) (K30 0 x0) := ee_sR (K29_e L xs)
theorem K31_e (L : Nat) (xs : Nat → Int32) : Ee (K31 L xs) (K31 0 x0) := ee_nw (K30_e L xs)
theorem K32_e (L : Nat) (xs : Nat → Int32) : Ee (K32 L xs) (K32 0 x0) := ee_sR (K31_e L xs)
theorem K33_e (L : Nat) (xs : Nat → Int32) : Ee (K33 L xs) (K33 0 x0) := ee_nw (K32_e L xs)
theorem K34_e (L : Nat) (xs : Nat → Int32) : Ee (K34 L xs) (K34 0 x0) := ee_sR (K33_e L xs)
theorem K35_e (L : Nat) (xs : Nat → Int32) : Ee (K35 L xs) (K35 0 x0) := ee_nw (K34_e L xs)
theorem K36_e (L : Nat) (xs : Nat → Int32) : Ee (K36 L xs) (K36 0 x0) := ee_sR (K35_e L xs)
theorem K37_e (L : Nat) (xs : Nat → Int32) : Ee (K37 L xs) (K37 0 x0) := ee_nw (K36_e L xs)
theorem K38_e (L : Nat) (xs : Nat → Int32) : Ee (K38 L xs) (K38 0 x0) := ee_sR (K37_e L xs)
theorem K39_e (L : Nat) (xs : Nat → Int32) : Ee (K39 L xs) (K39 0 x0) := ee_sI (K38_e L xs) (by decide)
theorem K40_e (L : Nat) (xs : Nat → Int32) : Ee (K40 L xs) (K40 0 x0) := ee_sR (K39_e L xs)
theorem K41_e (L : Nat) (xs : Nat → Int32) : Ee (K41 L xs) (K41 0 x0) := ee_nw (K40_e L xs)
theorem K42_e (L : Nat) (xs : Nat → Int32) : Ee (K42 L xs) (K42 0 x0) := ee_nw (K41_e L xs)
theorem K43_e (L : Nat) (xs : Nat → Int32) : Ee (K43 L xs) (K43 0 x0) := ee_rk (K42_e L xs) (by decide)
theorem K44_e (L : Nat) (xs : Nat → Int32) : Ee (K44 L xs) (K44 0 x0) := ee_sR (K43_e L xs)
theorem K45_e (L : Nat) (xs : Nat → Int32) : Ee (K45 L xs) (K45 0 x0) := ee_sI (K44_e L xs) (by decide)
theorem K46_e (L : Nat) (xs : Nat → Int32) : Ee (K46 L xs) (K46 0 x0) := ee_sI (K45_e L xs) (by decide)
theorem K47_e (L : Nat) (xs : Nat → Int32) : Ee (K47 L xs) (K47 0 x0) := ee_sI (K46_e L xs) (by decide)
theorem K48_e (L : Nat) (xs : Nat → Int32) : Ee (K48 L xs) (K48 0 x0) := ee_nw (K47_e L xs)
theorem K49_e (L : Nat) (xs : Nat → Int32) : Ee (K49 L xs) (K49 0 x0) := ee_sR (K48_e L xs)
theorem K50_e (L : Nat) (xs : Nat → Int32) : Ee (K50 L xs) (K50 0 x0) := ee_nw (K49_e L xs)
theorem K51_e (L : Nat) (xs : Nat → Int32) : Ee (K51 L xs) (K51 0 x0) := ee_sR (K50_e L xs)
theorem K52_e (L : Nat) (xs : Nat → Int32) : Ee (K52 L xs) (K52 0 x0) := ee_sI (K51_e L xs) (by decide)
theorem K53_e (L : Nat) (xs : Nat → Int32) : Ee (K53 L xs) (K53 0 x0) := ee_sI (K52_e L xs) (by decide)
theorem K54_e (L : Nat) (xs : Nat → Int32) : Ee (K54 L xs) (K54 0 x0) := ee_sR (K53_e L xs)
theorem K55_e (L : Nat) (xs : Nat → Int32) : Ee (K55 L xs) (K55 0 x0) := ee_nw (K54_e L xs)
theorem K56_e (L : Nat) (xs : Nat → Int32) : Ee (K56 L xs) (K56 0 x0) := ee_sR (K55_e L xs)
theorem K57_e (L : Nat) (xs : Nat → Int32) : Ee (K57 L xs) (K57 0 x0) := ee_sI (K56_e L xs) (by decide)
def k_p : Nat → Nat := fun i => 29 + 13 * i
def k_mu (L : Nat) (xs : Nat → Int32) : Nat → Nat → Int32 := (K57 L xs).2.2.1
theorem k_tags : ∀ k, k < 105 → (K57 0 x0).2.1 k = TTL.getD k (99, 0) := by decide +kernel
theorem k_refs : ∀ a, a < 105 → ∀ i, i < 20 → (K57 0 x0).2.2.2 a i = RR k_p a i := by decide +kernel
theorem k_len : TTL.length = 105 ∧ RTL.length ≤ 105 := by decide +kernel
theorem k_len2 : ∀ a, a < 105 → (RTL.getD a []).length ≤ 20 := by decide +kernel
theorem gd_hi {α : Type} {l : List α} {i : Nat} {z : α} (h : l.length ≤ i) : l.getD i z = z := by
  unfold List.getD
  rw [List.getElem?_eq_none h]
  rfl
theorem rho_hi {a i : Nat} (h : 105 ≤ a ∨ 20 ≤ i) : rho RTL a i = none := by
  obtain ⟨-, h2⟩ := k_len
  unfold rho
  by_cases ha : a < 105
  · have hl := k_len2 a ha
    exact gd_hi (by omega)
  · rw [gd_hi (l := RTL) (by omega)]
    rfl
theorem k_heap (L : Nat) (xs : Nat → Int32) : K57 L xs = HH L (k_mu L xs) k_p := by
  have hh := K57_h L xs
  have he := K57_e L xs
  refine Prod.ext (K57_1 L xs) (Prod.ext ?_ (Prod.ext rfl ?_))
  · funext k
    show (K57 L xs).2.1 k = if k = SC then (20, L) else TTL.getD k (99, 0)
    by_cases hk : k < 105
    · have hs : ¬k = SC := fun q => by
        subst q
        exact absurd hk (by decide)
      rw [he.2.1 k hk, k_tags k hk, if_neg hs]
    · rw [hh.1 k (by omega), gd_hi (l := TTL) (by rw [k_len.1]; omega)]
  · funext a i
    by_cases hk : a < 105 ∧ i < 20
    · rw [he.2.2.2]
      exact k_refs a hk.1 i hk.2
    · have h1 : 105 ≤ a ∨ 20 ≤ i := by omega
      show (K57 L xs).2.2.2 a i = if a = 28 then (if i < 4 then some (k_p i) else none) else rho RTL a i
      rw [hh.2 a i h1, rho_hi h1]
      split
      · rw [if_neg (by omega)]
      · rfl
theorem k_eq (L : Nat) (xs : Nat → Int32) {a i : Nat} (h : a < 105) : k_mu L xs a i = (K57 0 x0).2.2.1 a i := (K57_e L xs).2.2.1 a i h
theorem k_rows : ∀ a, a < 14 → 2 ≤ a → ∀ i, i < rlen a → (K57 0 x0).2.2.1 a i = v0 a := by decide +kernel
theorem k_zero : (K57 0 x0).2.2.1 1 12 = nI 0 ∧ (K57 0 x0).2.2.1 27 1 = nI 0 := by decide +kernel
theorem k_row (L : Nat) (xs : Nat → Int32) {a i : Nat} (ha : 2 ≤ a) (hi : i < rlen a) : k_mu L xs a i = v0 a := by
  have hb : a < 14 := by
    refine Nat.lt_of_not_le fun q => ?_
    obtain ⟨b, rfl⟩ := Nat.exists_eq_add_of_le q
    rw [Nat.add_comm] at hi
    exact absurd hi (Nat.not_lt_zero _)
  rw [k_eq L xs (by omega)]
  exact k_rows a hb ha i hi
theorem k_R0 (L : Nat) (xs : Nat → Int32) : rk (k_mu L xs) 1 = R0 := by
  funext a i
  by_cases h : 2 ≤ a ∧ i < rlen a
  · rw [rk_n h.1 h.2, R0_v h.1 h.2, k_row L xs h.1 h.2]
  · unfold rk R0
    rw [if_neg h, if_neg h, k_eq L xs (by omega), k_zero.1]
    split <;> rfl
theorem OX_R0 : OX R0 := by
  have z8 : ∀ i, i < 36 → R0 8 i = -5 := fun i hi => R0_v (by omega) hi
  have z10 : ∀ i, i < 24 → R0 10 i = -5 := fun i hi => R0_v (by omega) hi
  refine ⟨fun d q a n hd hq k2 k7 k8 ha hn => ?_, fun d s hd hs k => ?_⟩
  · rw [z8 _ (by omega), n5_ne (by omega)] at k8
    exact k8.elim
  · exact absurd (z10 _ (by omega)) k
theorem k_rel (L : Nat) (xs : Nat → Int32) : Rel (k_mu L xs) k_p := by
  obtain ⟨-, z1⟩ := k_zero
  refine ⟨⟨fun i hi => ?_, fun i j hi hj h => ?_⟩, ⟨0, Nat.zero_le _, ?_, fun i hi => absurd hi (Nat.not_lt_zero _)⟩, ?_, ?_⟩
  · show 29 + 13 * i = 29 ∨ 29 + 13 * i = 42 ∨ 29 + 13 * i = 55 ∨ 29 + 13 * i = 68
    omega
  · have h : 29 + 13 * i = 29 + 13 * j := h
    omega
  · rw [k_eq L xs (by omega)]; exact z1
  · rw [k_R0]
    exact OK_R0
  · rw [k_R0]
    exact OX_R0
