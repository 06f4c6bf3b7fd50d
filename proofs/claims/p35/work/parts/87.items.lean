/-! items in their order: lists of parts -/
def insL (al : Nat → Nat) (k : Nat) : List Nat → List Nat
  | [] => [k]
  | x :: l => if al x < al k then k :: x :: l else x :: insL al k l
def itl (sz al : Nat → Nat) : Nat → List Nat
  | 0 => []
  | n + 1 => if sz n = 0 then itl sz al n else insL al n (itl sz al n)
def up (x a : Nat) : Nat := (x + a - 1) / a * a
def pen (sz al : Nat → Nat) (lim : Nat) : Nat → List Nat → Nat
  | pos, [] => pos
  | pos, x :: l => if up pos (al x) + sz x ≤ lim then pen sz al lim (up pos (al x) + sz x) l else pen sz al lim pos l
def pst (sz al : Nat → Nat) (lim : Nat) : Nat → List Nat → Nat → Option Nat
  | _, [], _ => none
  | pos, x :: l, k => if up pos (al x) + sz x ≤ lim then
      (match pst sz al lim (up pos (al x) + sz x) l k with
        | some z => some z
        | none => if k = x then some (up pos (al x)) else none)
    else pst sz al lim pos l k
def pnl (sz al : Nat → Nat) : Nat → List Nat → Nat
  | pos, [] => pos
  | pos, x :: l => pnl sz al (up pos (al x) + sz x) l
def blk (sz al : Nat → Nat) (a n : Nat) : List Nat := (List.range n).filter (fun k => decide (sz k ≠ 0 ∧ al k = a))
def tl (sz al : Nat → Nat) (g n : Nat) : Nat → List Nat
  | 0 => []
  | e + 1 => blk sz al (g * 2 ^ e) n ++ tl sz al g n e
theorem up_ge {x a : Nat} (h : 0 < a) : x ≤ up x a := (ceil_le h).1
theorem up_lt {x a : Nat} (h : 0 < a) : up x a < x + a := (ceil_le h).2.1
theorem up_mod (x a : Nat) : up x a % a = 0 := Nat.mul_mod_left _ _
theorem mul_near {x y a : Nat} (h : 0 < a) (hx : x % a = 0) (hy : y % a = 0) (h1 : x ≤ y) (h2 : y < x + a) : y = x := by
  have e1 := Nat.div_add_mod x a
  have e2 := Nat.div_add_mod y a
  rw [hx] at e1
  rw [hy] at e2
  have h3 : a * (y / a) < a * (x / a + 1) := by rw [Nat.mul_add]; omega
  rw [glt h] at h3
  have h4 : a * (x / a) ≤ a * (y / a) := by omega
  rw [gle h] at h4
  have : y / a = x / a := by omega
  rw [this] at e2
  omega
theorem up_id {x a : Nat} (h : 0 < a) (hx : x % a = 0) : up x a = x := mul_near h hx (up_mod x a) (up_ge h) (up_lt h)
theorem insL_app {al : Nat → Nat} {k : Nat} {l2 : List Nat} : ∀ l1 : List Nat, (∀ x, x ∈ l1 → al k ≤ al x) → insL al k (l1 ++ l2) = l1 ++ insL al k l2 := by
  intro l1
  induction l1 with
  | nil => intro _; rfl
  | cons x l ih =>
    intro h
    have h1 := h x (List.mem_cons_self ..)
    show insL al k (x :: (l ++ l2)) = x :: (l ++ insL al k l2)
    rw [insL, if_neg (by omega), ih (fun y hy => h y (List.mem_cons_of_mem _ hy))]
theorem insL_hd {al : Nat → Nat} {k : Nat} {l : List Nat} (h : ∀ x, x ∈ l → al x < al k) : insL al k l = k :: l := by
  cases l with
  | nil => rfl
  | cons x l => rw [insL, if_pos (h x (List.mem_cons_self ..))]
theorem blk_s (sz al : Nat → Nat) (a n : Nat) : blk sz al a (n + 1) = blk sz al a n ++ (if sz n ≠ 0 ∧ al n = a then [n] else []) := by
  unfold blk
  rw [List.range_succ, List.filter_append]
  congr 1
  by_cases h : sz n ≠ 0 ∧ al n = a
  · rw [if_pos h, List.filter_cons, if_pos (decide_eq_true h), List.filter_nil]
  · rw [if_neg h, List.filter_cons, if_neg (fun q => h (of_decide_eq_true q)), List.filter_nil]
theorem blk_mem {sz al : Nat → Nat} {a n x : Nat} (h : x ∈ blk sz al a n) : x < n ∧ sz x ≠ 0 ∧ al x = a := by
  unfold blk at h
  rw [List.mem_filter, List.mem_range, decide_eq_true_eq] at h
  exact h
theorem tl_mem {sz al : Nat → Nat} {g n x : Nat} : ∀ E, x ∈ tl sz al g n E → x < n ∧ sz x ≠ 0 ∧ ∃ e, e < E ∧ al x = g * 2 ^ e := by
  intro E
  induction E with
  | zero => intro h; cases h
  | succ E ih =>
    intro h
    rw [tl, List.mem_append] at h
    rcases h with h | h
    · obtain ⟨h1, h2, h3⟩ := blk_mem h
      exact ⟨h1, h2, E, by omega, h3⟩
    · obtain ⟨h1, h2, e, h3, h4⟩ := ih h
      exact ⟨h1, h2, e, by omega, h4⟩
theorem gpow {g a b : Nat} (hg : 0 < g) (h : a < b) : g * 2 ^ a < g * 2 ^ b := (glt hg).mpr (Nat.pow_lt_pow_right (by omega) h)
theorem tl_skip {sz al : Nat → Nat} {g n : Nat} (h : ∀ E', sz n = 0 ∨ ¬al n = g * 2 ^ E') : ∀ E, tl sz al g (n + 1) E = tl sz al g n E := by
  intro E
  induction E with
  | zero => rfl
  | succ E ih =>
    rw [tl, tl, ih, blk_s, if_neg (fun q => (h E).elim q.1 (fun z => z q.2)), List.append_nil]
theorem tl_skip2 {sz al : Nat → Nat} {g n e0 : Nat} (hg : 0 < g) (h : al n = g * 2 ^ e0) : ∀ E, E ≤ e0 → tl sz al g (n + 1) E = tl sz al g n E := by
  intro E
  induction E with
  | zero => intro _; rfl
  | succ E ih =>
    intro hE
    have := gpow hg (show E < e0 by omega)
    rw [tl, tl, ih (by omega), blk_s, if_neg (fun q => by omega), List.append_nil]
theorem tl_ins {sz al : Nat → Nat} {g n e0 : Nat} (hg : 0 < g) (hs : sz n ≠ 0) (h : al n = g * 2 ^ e0) : ∀ E, e0 < E → tl sz al g (n + 1) E = insL al n (tl sz al g n E) := by
  intro E
  induction E with
  | zero => intro h; omega
  | succ E ih =>
    intro hE
    rw [tl, tl]
    by_cases he : e0 = E
    · subst he
      rw [blk_s, if_pos ⟨hs, h⟩, tl_skip2 hg h e0 (Nat.le_refl _), insL_app, insL_hd, List.append_assoc]
      · rfl
      · intro x hx
        obtain ⟨-, -, e, h1, h2⟩ := tl_mem e0 hx
        rw [h2, h]
        exact gpow hg h1
      · intro x hx
        rw [(blk_mem hx).2.2, h]
        exact Nat.le_refl _
    · have h1 := gpow hg (show e0 < E by omega)
      rw [blk_s, if_neg (fun q => by omega), List.append_nil, ih (by omega), insL_app]
      intro x hx
      rw [(blk_mem hx).2.2, h]
      omega
/-- the list of the class's walk is the list of the reference's insertions -/
theorem itl_tl {sz al : Nat → Nat} {g E : Nat} (hg : 0 < g) : ∀ n, (∀ k, k < n → sz k ≠ 0 → ∃ e, e < E ∧ al k = g * 2 ^ e) → itl sz al n = tl sz al g n E := by
  intro n
  induction n with
  | zero =>
    intro _
    have : ∀ E, tl sz al g 0 E = [] := by
      intro E
      induction E with
      | zero => rfl
      | succ E ih => rw [tl, ih]; rfl
    rw [this]
    rfl
  | succ n ih =>
    intro h
    have ih := ih (fun k hk => h k (by omega))
    rw [itl, ih]
    by_cases hs : sz n = 0
    · rw [if_pos hs, tl_skip (fun _ => Or.inl hs)]
    · obtain ⟨e, h1, h2⟩ := h n (by omega) hs
      rw [if_neg hs, tl_ins hg hs h2 E h1]
theorem ins_mem {al : Nat → Nat} {k y : Nat} : ∀ l, y ∈ insL al k l ↔ y = k ∨ y ∈ l := by
  intro l
  induction l with
  | nil => simp [insL]
  | cons x l ih =>
    rw [insL]
    by_cases h : al x < al k
    · rw [if_pos h]; simp
    · rw [if_neg h, List.mem_cons, ih, List.mem_cons]
      constructor
      · rintro (q | q | q)
        · exact Or.inr (Or.inl q)
        · exact Or.inl q
        · exact Or.inr (Or.inr q)
      · rintro (q | q | q)
        · exact Or.inr (Or.inl q)
        · exact Or.inl q
        · exact Or.inr (Or.inr q)
theorem itl_mem {sz al : Nat → Nat} {y : Nat} : ∀ n, y ∈ itl sz al n ↔ y < n ∧ sz y ≠ 0 := by
  intro n
  induction n with
  | zero => simp [itl]
  | succ n ih =>
    rw [itl]
    by_cases h : sz n = 0
    · rw [if_pos h, ih]
      constructor
      · rintro ⟨a, b⟩; exact ⟨by omega, b⟩
      · rintro ⟨a, b⟩
        refine ⟨?_, b⟩
        by_cases e : y = n
        · subst e; exact absurd h b
        · omega
    · rw [if_neg h, ins_mem, ih]
      constructor
      · rintro (rfl | ⟨a, b⟩)
        · exact ⟨by omega, h⟩
        · exact ⟨by omega, b⟩
      · rintro ⟨a, b⟩
        by_cases e : y = n
        · exact Or.inl e
        · exact Or.inr ⟨by omega, b⟩
def srt (al : Nat → Nat) : List Nat → Prop
  | [] => True
  | x :: l => (∀ y, y ∈ l → al y ≤ al x) ∧ srt al l
theorem srt_ins {al : Nat → Nat} {k : Nat} : ∀ l, srt al l → srt al (insL al k l) := by
  intro l
  induction l with
  | nil => intro _; exact ⟨fun y hy => (by cases hy), trivial⟩
  | cons x l ih =>
    rintro ⟨h1, h2⟩
    rw [insL]
    by_cases h : al x < al k
    · rw [if_pos h]
      refine ⟨fun y hy => ?_, h1, h2⟩
      rcases List.mem_cons.mp hy with rfl | hy
      · omega
      · have := h1 y hy; omega
    · rw [if_neg h]
      refine ⟨fun y hy => ?_, ih h2⟩
      rcases (ins_mem l).mp hy with rfl | hy
      · omega
      · exact h1 y hy
theorem srt_itl {sz al : Nat → Nat} : ∀ n, srt al (itl sz al n) := by
  intro n
  induction n with
  | zero => exact trivial
  | succ n ih =>
    rw [itl]
    by_cases h : sz n = 0
    · rw [if_pos h]; exact ih
    · rw [if_neg h]; exact srt_ins _ ih
def gal (sz al : Nat → Nat) (g : Nat) : Nat → Nat
  | 0 => g
  | n + 1 => if sz n = 0 then gal sz al g n else max (gal sz al g n) (al n)
theorem gal_hd {sz al : Nat → Nat} {g : Nat} : ∀ n, (∀ k, k < n → sz k ≠ 0 → g ≤ al k) → (itl sz al n = [] → gal sz al g n = g) ∧ ∀ x l, itl sz al n = x :: l → al x = gal sz al g n := by
  intro n
  induction n with
  | zero => intro _; exact ⟨fun _ => rfl, fun x l h => (by cases h)⟩
  | succ n ih =>
    intro h
    obtain ⟨i1, i2⟩ := ih (fun k hk => h k (by omega))
    rw [itl, gal]
    by_cases hs : sz n = 0
    · rw [if_pos hs, if_pos hs]; exact ⟨i1, i2⟩
    · have hn := h n (by omega) hs
      rw [if_neg hs, if_neg hs]
      cases hl : itl sz al n with
      | nil =>
        have := i1 hl
        refine ⟨fun q => (by cases q), fun x l q => ?_⟩
        rw [insL] at q
        cases q
        omega
      | cons y l =>
        have := i2 y l hl
        rw [insL]
        by_cases hy : al y < al n
        · rw [if_pos hy]
          refine ⟨fun q => (by cases q), fun x l q => ?_⟩
          cases q
          omega
        · rw [if_neg hy]
          refine ⟨fun q => (by cases q), fun x l q => ?_⟩
          cases q
          omega
def lsum (w : Nat → Nat) : List Nat → Nat
  | [] => 0
  | x :: l => w x + lsum w l
theorem lsum_ins {al w : Nat → Nat} {k : Nat} : ∀ l, lsum w (insL al k l) = w k + lsum w l := by
  intro l
  induction l with
  | nil => rfl
  | cons x l ih =>
    rw [insL]
    by_cases h : al x < al k
    · rw [if_pos h]; rfl
    · rw [if_neg h, lsum, ih, lsum]; omega
def wsum (sz w : Nat → Nat) : Nat → Nat
  | 0 => 0
  | n + 1 => wsum sz w n + if sz n = 0 then 0 else w n
theorem lsum_itl {sz al w : Nat → Nat} : ∀ n, lsum w (itl sz al n) = wsum sz w n := by
  intro n
  induction n with
  | zero => rfl
  | succ n ih =>
    rw [itl, wsum]
    by_cases h : sz n = 0
    · rw [if_pos h, if_pos h, ih]; rfl
    · rw [if_neg h, if_neg h, lsum_ins, ih, Nat.add_comm]
theorem pow_dvd {g a b : Nat} (h : a ≤ b) : ∃ m, g * 2 ^ b = g * 2 ^ a * m := ⟨2 ^ (b - a), by rw [Nat.mul_assoc, ← Nat.pow_add, show a + (b - a) = b by omega]⟩
theorem pow_inv {g a b : Nat} (hg : 0 < g) (h : g * 2 ^ a ≤ g * 2 ^ b) : a ≤ b := by
  by_cases q : b < a
  · have := gpow hg q; omega
  · omega
theorem mod_dvd {x a b : Nat} (h : x % a = 0) (hab : ∃ m, a = b * m) : x % b = 0 := by
  obtain ⟨m, rfl⟩ := hab
  have e := Nat.div_add_mod x (b * m)
  rw [h, Nat.add_zero, Nat.mul_assoc] at e
  rw [← e]
  exact Nat.mul_mod_right _ _
theorem pnl_bound {sz al w : Nat → Nat} {g : Nat} (hg : 0 < g) : ∀ (l : List Nat) (pos T : Nat), srt al l → (∀ x, x ∈ l → ∃ e, al x = g * 2 ^ e) → (l = [] → pos ≤ T) → (∀ x l', l = x :: l' → up pos (al x) ≤ T) → (∀ x, x ∈ l → (sz x = al x ∧ sz x ≤ w x) ∨ sz x + al x ≤ w x) → pnl sz al pos l ≤ T + lsum w l := by
  intro l
  induction l with
  | nil =>
    intro pos T _ _ h _ _
    exact h rfl
  | cons x l ih =>
    intro pos T hs he _ hT hw
    have hT := hT x l rfl
    have hx := hw x (List.mem_cons_self ..)
    obtain ⟨e, ex⟩ := he x (List.mem_cons_self ..)
    have := ih (up pos (al x) + sz x) (T + w x) hs.2 (fun y hy => he y (List.mem_cons_of_mem _ hy)) (fun _ => by omega) (fun y l' hl => ?_) (fun y hy => hw y (List.mem_cons_of_mem _ hy))
    · rw [pnl, lsum]; omega
    · subst hl
      have hy : y ∈ y :: l' := List.mem_cons_self ..
      obtain ⟨f, ey⟩ := he y (List.mem_cons_of_mem _ hy)
      have hle := hs.1 y hy
      have hpos : 0 < al y := by rw [ey]; exact Nat.mul_pos hg (Nat.pow_pos (by omega))
      rcases hx with ⟨h1, h2⟩ | h1
      · rw [up_id hpos]
        · omega
        · rw [h1]
          have hd : ∃ m, al x = al y * m := by
            rw [ex, ey]
            rw [ex, ey] at hle
            exact pow_dvd (pow_inv hg hle)
          refine mod_dvd ?_ hd
          rw [Nat.add_mod_right]
          exact up_mod _ _
      · have := @up_lt (up pos (al x) + sz x) (al y) hpos
        omega
theorem pnl_ge {sz al : Nat → Nat} : ∀ (l : List Nat) (pos : Nat), (∀ x, x ∈ l → 0 < al x) → pos ≤ pnl sz al pos l := by
  intro l
  induction l with
  | nil => intro pos _; exact Nat.le_refl _
  | cons x l ih =>
    intro pos h
    have h1 := ih (up pos (al x) + sz x) (fun y hy => h y (List.mem_cons_of_mem _ hy))
    have h2 := @up_ge pos (al x) (h x (List.mem_cons_self ..))
    rw [pnl]
    omega
theorem pen_pnl {sz al : Nat → Nat} {lim : Nat} : ∀ (l : List Nat) (pos : Nat), (∀ x, x ∈ l → 0 < al x) → pnl sz al pos l ≤ lim → pen sz al lim pos l = pnl sz al pos l := by
  intro l
  induction l with
  | nil => intro pos _ _; rfl
  | cons x l ih =>
    intro pos h hl
    have h0 : ∀ y, y ∈ l → 0 < al y := fun y hy => h y (List.mem_cons_of_mem _ hy)
    have h1 := pnl_ge (sz := sz) l (up pos (al x) + sz x) h0
    rw [pnl] at hl
    rw [pen, pnl, if_pos (by omega), ih _ h0 hl]
theorem pen_le {sz al : Nat → Nat} {lim : Nat} : ∀ (l : List Nat) (pos : Nat), pos ≤ lim → pen sz al lim pos l ≤ lim := by
  intro l
  induction l with
  | nil => intro pos h; exact h
  | cons x l ih =>
    intro pos h
    rw [pen]
    by_cases q : up pos (al x) + sz x ≤ lim
    · rw [if_pos q]; exact ih _ q
    · rw [if_neg q]; exact ih _ h
theorem wsum_le {sz w : Nat → Nat} {W : Nat} : ∀ n, (∀ t, t < n → (if sz (t * 3) = 0 then 0 else w (t * 3)) + (if sz (t * 3 + 1) = 0 then 0 else w (t * 3 + 1)) + (if sz (t * 3 + 2) = 0 then 0 else w (t * 3 + 2)) ≤ W) → wsum sz w (n * 3) ≤ n * W := by
  intro n
  induction n with
  | zero => intro _; exact Nat.zero_le _
  | succ n ih =>
    intro h
    have h1 := ih (fun t ht => h t (by omega))
    have h2 := h n (by omega)
    rw [show (n + 1) * 3 = n * 3 + 1 + 1 + 1 by omega, wsum, wsum, wsum, Nat.add_mul, Nat.one_mul]
    rw [show n * 3 + 1 + 1 = n * 3 + 2 by omega]
    omega
