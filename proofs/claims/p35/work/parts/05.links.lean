/-! what the links of the tables give at a state where the good words hold -/
theorem look_mem {α β : Type} [BEq α] [LawfulBEq α] {l : List (α × β)} {a : α} {b : β} (h : l.lookup a = some b) : (a, b) ∈ l := by
  induction l with
  | nil => simp at h
  | cons q l ih =>
    obtain ⟨x, y⟩ := q
    rw [List.lookup_cons] at h
    cases hx : a == x with
    | true =>
      rw [hx] at h
      cases h
      have := eq_of_beq hx
      subst this
      exact List.mem_cons_self
    | false =>
      rw [hx] at h
      exact List.mem_cons_of_mem _ (ih h)
theorem xF_get {o x c f pl : Nat} (h : xF.lookup (o, x) = some (c, f, pl)) : Cond.fieldLink (xC o) x (xC c) (xT c f).2.1 (xT c f).2.2.1 ∈ gW ∧ c < 5 ∧ f < xN c ∧ (xT c f).1 = xC c := by
  have h1 := List.all_eq_true.mp xF_ok _ (look_mem h)
  simp only [Bool.and_eq_true, decide_eq_true_eq] at h1
  obtain ⟨⟨⟨⟨h1, h2⟩, h3⟩, h4⟩, h5⟩ := h1
  exact ⟨gW_of (x1_mem h1) h2, h3, h4, h5⟩
theorem xK_get {o x c pl : Nat} (h : xK.lookup (o, x) = some (c, pl)) : Cond.classLink (xC o) x (xC c) ∈ gW ∧ c < 5 := by
  have h1 := List.all_eq_true.mp xK_ok _ (look_mem h)
  simp only [Bool.and_eq_true, decide_eq_true_eq] at h1
  exact ⟨gW_of (x1_mem h1.1.1) h1.1.2, h1.2⟩
theorem xV_get {o x pl : Nat} {v : Int32} (h : xV.lookup (o, x) = some (v, pl)) : Cond.constant (xC o) x v ∈ gW := by
  have h1 := List.all_eq_true.mp xV_ok _ (look_mem h)
  simp only [Bool.and_eq_true, decide_eq_true_eq] at h1
  exact gW_of (x1_mem h1.1) h1.2
theorem xVL_get {o x pl : Nat} {v : Int64} (h : xVL.lookup (o, x) = some (v, pl)) : Cond.constantLong (xC o) x v ∈ gW := by
  have h1 := List.all_eq_true.mp xVL_ok _ (look_mem h)
  simp only [Bool.and_eq_true, decide_eq_true_eq] at h1
  exact gW_of (x1_mem h1.1) h1.2
theorem xi_ini {c : Nat} (h : c < 5) : Cond.initialized (xC c) ∈ gW := gW_of (x1_mem (xini_ok c h)) rfl
theorem xi_inst {c : Nat} (h : c < 5) : Cond.instantiable (xC c) (xN c) ∈ gW := gW_of (x1_mem (xinst_ok c h)) rfl
theorem xi_code {k : Nat} (h : k < 109) : Cond.code (mY k) (mB k) (mL k) (mR k) ∈ gW := gW_of (List.mem_append_right _ (xcode_ok k h)) rfl
theorem xi_lay {c : Nat} (h : c < 5) : ∀ w ∈ u_ws (xC c) (xT c) (xN c), w ∈ gW := by
  intro w hw
  have hm : w ∈ (([0, 1, 2, 3, 4] : List Nat).flatMap fun c => (List.range (xN c)).map (u_lay (xC c) (xT c))) := by
    refine List.mem_flatMap.mpr ⟨c, ?_, hw⟩
    have : c = 0 ∨ c = 1 ∨ c = 2 ∨ c = 3 ∨ c = 4 := by omega
    rcases this with rfl | rfl | rfl | rfl | rfl <;> simp
  have hg := List.all_eq_true.mp xlay_good w hm
  obtain ⟨i, hi⟩ := List.getElem?_of_mem hm
  have hl := (List.getElem?_eq_some_iff.mp hi).1
  rw [xlay_len] at hl
  have h2 := xlay_ok i hl
  rw [List.getD_eq_getElem?_getD (l := _) (i := i) (a := Cond.tt), hi] at h2
  exact gW_of (x1_mem h2) hg
def mokP (k : Nat) : Bool := decide (lw_tbl[(xw.getD k (0, 0, 0)).1]? = some (.initialized (mY k).cls)) && decide ((mY k).cls ≠ "java/lang/invoke/MethodHandle") && decide ((mY k).cls ≠ "java/lang/invoke/VarHandle") && decide ((parseMethodDescriptor (mY k).desc).map (fun d => d.parameters.length) = some (mP k)) && decide (mL k ≤ 20) && plainFor (mY k) && decide (xC (mO k) = (mY k).cls) && decide (k = 1 ∨ 0 < mL k ∨ mP k = 0)
theorem mok_all : ((List.range 109).all fun k => k == 1 || mokP k) = true := by decide +kernel
theorem mok {k : Nat} (h : k < 109) (h1 : k ≠ 1) : Cond.initialized (mY k).cls ∈ gW ∧ ((mY k).cls ≠ "java/lang/invoke/MethodHandle" ∧ (mY k).cls ≠ "java/lang/invoke/VarHandle" ∧ (parseMethodDescriptor (mY k).desc).map (fun d => d.parameters.length) = some (mP k)) ∧ mL k ≤ 20 ∧ plainFor (mY k) = true ∧ xC (mO k) = (mY k).cls := by
  have h2 := List.all_eq_true.mp mok_all k (List.mem_range.mpr h)
  simp only [Bool.or_eq_true, beq_iff_eq, mokP, Bool.and_eq_true, decide_eq_true_eq] at h2
  rcases h2 with h2 | ⟨⟨⟨⟨⟨⟨⟨a1, a2⟩, a3⟩, a4⟩, a5⟩, a6⟩, a7⟩, a8⟩
  · exact absurd h2 h1
  · exact ⟨gW_of (xb_mem a1) rfl, ⟨a2, a3, a4⟩, a5, a6, a7⟩
def xIokP (q : (Nat × Nat) × (Nat × Nat × Nat)) : Bool := match q with
  | ((o, x), (0, k, p)) => decide (tables_1[p]? = some (.methodLink (xC o) x (mY k))) && decide (lw_tbl[(xw.getD k (0, 0, 0)).2.1]? = some (.static (mY k))) && decide (k < 109) && decide (k ≠ 1)
  | ((o, x), (1, k, p)) => decide (tables_1[p]? = some (.methodLinkNest (xC o) x (mY k) "BusRack")) && decide (lw_tbl[(xw.getD k (0, 0, 0)).2.1]? = some (.static (mY k))) && decide (k < 109) && decide (k ≠ 1)
  | ((o, x), (2, k, p)) => decide (tables_1[p]? = some (.methodLink (xC o) x (mY k))) && decide (lw_tbl[(xw.getD k (0, 0, 0)).2.1]? = some (.instanceMethod (mY k))) && decide (lw_tbl[(xw.getD k (0, 0, 0)).2.2]? = some (.selects (mY k).cls (mY k) (mY k))) && decide (k < 109) && decide (k ≠ 1) && decide (mO k < 5)
  | ((o, x), (3, k, p)) => decide (tables_1[p]? = some (.methodLink (xC o) x (mY k))) && decide (lw_tbl[(xw.getD k (0, 0, 0)).2.1]? = some (.instanceMethod (mY k))) && decide ((mY k).name = "<init>") && decide (mR k = none) && decide (mP k = 0) && decide (k < 109) && decide (k ≠ 1)
  | ((o, x), (4, k, p)) => decide (tables_1[p]? = some (.methodLinkNest (xC o) x (mY k) "BusRack")) && decide (lw_tbl[(xw.getD k (0, 0, 0)).2.1]? = some (.instanceMethod (mY k))) && decide ((mY k).name = "<init>") && decide (mR k = none) && decide (mP k = 0) && decide (k < 109) && decide (k ≠ 1)
  | ((o, x), (5, _, p)) => decide (tables_1[p]? = some (.methodLink (xC o) x Lib.objectInit))
  | ((o, x), (6, _, p)) => decide (tables_1[p]? = some (.methodLink (xC o) x arraycopyName))
  | _ => false
theorem xI_ok : xI.all xIokP = true := by decide +kernel
theorem xI_0 {o x k pl : Nat} (h : xI.lookup (o, x) = some (0, k, pl)) : Cond.methodLink (xC o) x (mY k) ∈ gW ∧ Cond.static (mY k) ∈ gW ∧ k < 109 ∧ k ≠ 1 := by
  have h1 := List.all_eq_true.mp xI_ok _ (look_mem h)
  simp only [xIokP, Bool.and_eq_true, decide_eq_true_eq] at h1
  obtain ⟨⟨⟨a1, a2⟩, a3⟩, a4⟩ := h1
  exact ⟨gW_of (x1_mem a1) rfl, gW_of (xb_mem a2) rfl, a3, a4⟩
theorem xI_1 {o x k pl : Nat} (h : xI.lookup (o, x) = some (1, k, pl)) : Cond.methodLinkNest (xC o) x (mY k) "BusRack" ∈ lw_tbl ∧ Cond.static (mY k) ∈ gW ∧ k < 109 ∧ k ≠ 1 := by
  have h1 := List.all_eq_true.mp xI_ok _ (look_mem h)
  simp only [xIokP, Bool.and_eq_true, decide_eq_true_eq] at h1
  obtain ⟨⟨⟨a1, a2⟩, a3⟩, a4⟩ := h1
  exact ⟨x1_mem a1, gW_of (xb_mem a2) rfl, a3, a4⟩
theorem xI_2 {o x k pl : Nat} (h : xI.lookup (o, x) = some (2, k, pl)) : Cond.methodLink (xC o) x (mY k) ∈ gW ∧ Cond.instanceMethod (mY k) ∈ gW ∧ Cond.selects (mY k).cls (mY k) (mY k) ∈ gW ∧ k < 109 ∧ k ≠ 1 ∧ mO k < 5 := by
  have h1 := List.all_eq_true.mp xI_ok _ (look_mem h)
  simp only [xIokP, Bool.and_eq_true, decide_eq_true_eq] at h1
  obtain ⟨⟨⟨⟨⟨a1, a2⟩, a3⟩, a4⟩, a5⟩, a6⟩ := h1
  exact ⟨gW_of (x1_mem a1) rfl, gW_of (xb_mem a2) rfl, gW_of (xb_mem a3) rfl, a4, a5, a6⟩
theorem xI_3 {o x k pl : Nat} (h : xI.lookup (o, x) = some (3, k, pl)) : Cond.methodLink (xC o) x (mY k) ∈ gW ∧ Cond.instanceMethod (mY k) ∈ gW ∧ (mY k).name = "<init>" ∧ mR k = none ∧ mP k = 0 ∧ k < 109 ∧ k ≠ 1 := by
  have h1 := List.all_eq_true.mp xI_ok _ (look_mem h)
  simp only [xIokP, Bool.and_eq_true, decide_eq_true_eq] at h1
  obtain ⟨⟨⟨⟨⟨⟨a1, a2⟩, a3⟩, a4⟩, a5⟩, a6⟩, a7⟩ := h1
  exact ⟨gW_of (x1_mem a1) rfl, gW_of (xb_mem a2) rfl, a3, a4, a5, a6, a7⟩
theorem xI_4 {o x k pl : Nat} (h : xI.lookup (o, x) = some (4, k, pl)) : Cond.methodLinkNest (xC o) x (mY k) "BusRack" ∈ lw_tbl ∧ Cond.instanceMethod (mY k) ∈ gW ∧ (mY k).name = "<init>" ∧ mR k = none ∧ mP k = 0 ∧ k < 109 ∧ k ≠ 1 := by
  have h1 := List.all_eq_true.mp xI_ok _ (look_mem h)
  simp only [xIokP, Bool.and_eq_true, decide_eq_true_eq] at h1
  obtain ⟨⟨⟨⟨⟨⟨a1, a2⟩, a3⟩, a4⟩, a5⟩, a6⟩, a7⟩ := h1
  exact ⟨x1_mem a1, gW_of (xb_mem a2) rfl, a3, a4, a5, a6, a7⟩
theorem xI_5 {o x k pl : Nat} (h : xI.lookup (o, x) = some (5, k, pl)) : Cond.methodLink (xC o) x Lib.objectInit ∈ gW := by
  have h1 := List.all_eq_true.mp xI_ok _ (look_mem h)
  simp only [xIokP, decide_eq_true_eq] at h1
  exact gW_of (x1_mem h1) rfl
theorem xI_6 {o x k pl : Nat} (h : xI.lookup (o, x) = some (6, k, pl)) : Cond.methodLink (xC o) x arraycopyName ∈ gW := by
  have h1 := List.all_eq_true.mp xI_ok _ (look_mem h)
  simp only [xIokP, decide_eq_true_eq] at h1
  exact gW_of (x1_mem h1) rfl
theorem xo_inst : Cond.instanceMethod Lib.objectInit ∈ gW := gW_of (x1_mem (i := 18) (by decide +kernel)) rfl
theorem xo_code : Cond.code Lib.objectInit ⟨#[0xb1]⟩ 1 none ∈ gW := gW_of (x1_mem (i := 19) (by decide +kernel)) rfl
theorem xa_nat : Cond.native arraycopyName ∈ lw_tbl := x1_mem (i := 247) (by decide +kernel)
theorem xa_good : goodWord (Cond.native arraycopyName) = true := by first | rfl | decide +kernel
theorem xa_stat : Cond.static arraycopyName ∈ gW := gW_of (x1_mem (i := 246) (by decide +kernel)) rfl
theorem xa_ini : Cond.initialized "java/lang/System" ∈ gW := gW_of (x1_mem (i := 10) (by decide +kernel)) rfl
theorem xn_int : Cond.arrayClass .int ∈ gW := gW_of (x1_mem (i := 96) (by decide +kernel)) rfl
theorem xn_char : Cond.arrayClass .char ∈ gW := gW_of (x1_mem (i := 201) (by decide +kernel)) rfl
theorem xn_over : Cond.arrayOver (.object "BusRack$Rack") ∈ lw_tbl := x1_mem (i := 104) (by decide +kernel)
