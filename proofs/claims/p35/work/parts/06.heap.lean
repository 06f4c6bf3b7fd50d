/-! the abstract heap and the machine's: cell k lies at B + k, the script at b -/
def cvv (B b : Nat) : AV → Value
  | .inl x => .int x
  | .inr (.inl none) => .null
  | .inr (.inl (some k)) => .ref (if k = SC then b else B + k)
  | .inr (.inr x) => .long x
def aty : Nat → FieldType
  | 0 => .int
  | 1 => .char
  | 2 => .int
  | _ => .object "BusRack$Rack"
def cok (dC : Nat → ClassId) (dI : Nat → Nat → Nat) (dA : Nat → ClassId) (B b : Nat) (A : AH) (k : Nat) (H : Heap) : Prop :=
  ((A.2.1 k).1 < 5 → t_OB (B + k) (dC (A.2.1 k).1) (xN (A.2.1 k).1) (dI (A.2.1 k).1) H (fun j => cvv B b (fv A (A.2.1 k).1 k j))) ∧
  (∀ t, t < 3 → (A.2.1 k).1 = 10 + t → H[B + k]? = some (arrV (dA t) (A.2.1 k).2 (fun j => .int (A.2.2.1 k j)))) ∧
  ((A.2.1 k).1 = 13 → H[B + k]? = some (arrV (dA 3) (A.2.1 k).2 (fun j => cvv B b (.inr (.inl (A.2.2.2 k j))))))
theorem cok.congr {dC : Nat → ClassId} {dI : Nat → Nat → Nat} {dA : Nat → ClassId} {B b : Nat} {A A1 : AH} {k : Nat} {H H1 : Heap} (h : cok dC dI dA B b A k H) (ht : A1.2.1 k = A.2.1 k) (hm : A1.2.2.1 k = A.2.2.1 k) (hr : A1.2.2.2 k = A.2.2.2 k) (hh : H1[B + k]? = H[B + k]?) : cok dC dI dA B b A1 k H1 := by
  obtain ⟨h1, h2, h3⟩ := h
  refine ⟨fun q => ?_, fun t ht2 q => ?_, fun q => ?_⟩
  · rw [ht] at q ⊢
    have e : (fun j => cvv B b (fv A1 (A.2.1 k).1 k j)) = (fun j => cvv B b (fv A (A.2.1 k).1 k j)) := by
      funext j
      simp only [fv, hm, hr]
    rw [e]
    exact (h1 q).kept hh
  · rw [ht] at q
    rw [hh, ht, hm]
    exact h2 t ht2 q
  · rw [ht] at q
    rw [hh, ht, hr]
    exact h3 q
def HP (dC : Nat → ClassId) (dI : Nat → Nat → Nat) (dA : Nat → ClassId) (B b Ls : Nat) (xs : Nat → Int32) (A : AH) (H : Heap) : Prop :=
  H.size = B + A.1.1 ∧ A.1.1 < SC ∧ (∀ k, (A.2.1 k).1 < 14 → k < A.1.1) ∧ (∀ k, k < A.1.1 → cok dC dI dA B b A k H) ∧ (∀ k, (A.2.1 k).1 = 20 → k = SC) ∧ A.2.1 SC = (20, Ls) ∧ A.2.2.1 SC = xs
theorem HP.set {dC : Nat → ClassId} {dI : Nat → Nat → Nat} {dA : Nat → ClassId} {B b Ls : Nat} {xs : Nat → Int32} {A A1 : AH} {H H1 : Heap} {a : Nat} (h : HP dC dI dA B b Ls xs A H) (e1 : A1.1 = A.1) (e2 : A1.2.1 = A.2.1) (ha : a < A.1.1)
    (em : ∀ k, k ≠ a → A1.2.2.1 k = A.2.2.1 k) (er : ∀ k, k ≠ a → A1.2.2.2 k = A.2.2.2 k) (hz : H1.size = H.size) (ho : ∀ q, q ≠ B + a → H1[q]? = H[q]?) (hc : cok dC dI dA B b A1 a H1) : HP dC dI dA B b Ls xs A1 H1 := by
  obtain ⟨h1, h2, h3, h4, h5, h6, h7⟩ := h
  refine ⟨by rw [hz, e1]; exact h1, by rw [e1]; exact h2, fun k q => by rw [e2] at q; rw [e1]; exact h3 k q, fun k q => ?_, fun k q => by rw [e2] at q; exact h5 k q, by rw [e2]; exact h6, ?_⟩
  · by_cases hk : k = a
    · rw [hk]; exact hc
    · rw [e1] at q
      exact (h4 k q).congr (by rw [e2]) (em k hk) (er k hk) (ho _ (by omega))
  · rw [em SC (by omega)]
    exact h7
theorem HP.new {dC : Nat → ClassId} {dI : Nat → Nat → Nat} {dA : Nat → ClassId} {B b Ls : Nat} {xs : Nat → Int32} {A : AH} {H H1 : Heap} {t : Nat × Nat} {w : Nat} (h : HP dC dI dA B b Ls xs A H) (ht : t.1 < 14) (hn : A.1.1 + 1 < SC) (hz : H1.size = H.size + 1) (ho : ∀ q, q < H.size → H1[q]? = H[q]?) (hc : cok dC dI dA B b (nw A t w) A.1.1 H1) : HP dC dI dA B b Ls xs (nw A t w) H1 := by
  obtain ⟨h1, h2, h3, h4, h5, h6, h7⟩ := h
  refine ⟨by rw [hz, h1]; rfl, hn, fun k q => ?_, fun k q => ?_, fun k q => ?_, ?_, ?_⟩
  · by_cases hk : k = A.1.1
    · rw [hk]; exact Nat.lt_succ_self _
    · simp only [nw, hk, if_false] at q ⊢
      exact Nat.lt_succ_of_lt (h3 k q)
  · by_cases hk : k = A.1.1
    · rw [hk]; exact hc
    · have hk2 : k < A.1.1 := by simp only [nw] at q; omega
      refine (h4 k hk2).congr ?_ ?_ ?_ (ho _ (by omega))
      · simp [nw, hk]
      · funext j; simp [nw, hk]
      · funext j; simp [nw, hk]
  · by_cases hk : k = A.1.1
    · rw [hk] at q
      simp [nw] at q
      omega
    · simp only [nw, hk, if_false] at q
      exact h5 k q
  · have hk : SC ≠ A.1.1 := by omega
    simp only [nw, hk, if_false]
    exact h6
  · have hk : SC ≠ A.1.1 := by omega
    simp only [nw, hk, if_false]
    exact h7
/-- what a method may have done so far -/
def fr (B : Nat) (s : State) (H : Heap) (locs : List Loc) : Prop := s.heap.size ≤ H.size ∧ B ≤ s.heap.size ∧ (∀ q, q < B → H[q]? = s.heap[q]?) ∧ ∀ l ∈ locs, B ≤ l.base
theorem fr.put {B : Nat} {s : State} {H H1 : Heap} {locs : List Loc} {a i : Nat} (h : fr B s H locs) (hz : H1.size = H.size) (ho : ∀ q, q ≠ B + a → H1[q]? = H[q]?) : fr B s H1 (locs ++ [⟨B + a, i⟩]) := by
  obtain ⟨h1, h2, h3, h4⟩ := h
  refine ⟨by rw [hz]; exact h1, h2, fun q hq => (ho q (by omega)).trans (h3 q hq), fun l hl => ?_⟩
  rcases List.mem_append.mp hl with q | q
  · exact h4 l q
  · rw [List.mem_singleton] at q
    rw [q]
    exact Nat.le_add_right _ _
theorem fr.new {B : Nat} {s : State} {H H1 : Heap} {locs : List Loc} (h : fr B s H locs) (hz : H1.size = H.size + 1) (ho : ∀ q, q < H.size → H1[q]? = H[q]?) : fr B s H1 locs := by
  obtain ⟨h1, h2, h3, h4⟩ := h
  exact ⟨by omega, h2, fun q hq => (ho q (by omega)).trans (h3 q hq), h4⟩
def KX (dC : Nat → ClassId) (dI : Nat → Nat → Nat) (dA : Nat → ClassId) (U : State) : Prop :=
  (∀ c, c < 5 → u_Kn U (xC c) (xT c) (xN c) (dC c) (dI c)) ∧ (∀ t, t < 4 → ArrOfT U (dA t) (aty t) ∧ U.vm.findClass ("[" ++ (aty t).toString) = some (dA t)) ∧
  (∃ (kA : Class) (comp : ClassId), U.vm.classes[dA 3]? = some kA ∧ kA.kind = .array comp (aty 3) ∧ U.vm.findClass "BusRack$Rack" = some comp) ∧ va_AO "BusRack$Rack" U ∧
  ∀ (o x k : Nat), Cond.methodLinkNest (xC o) x (mY k) "BusRack" ∈ lw_tbl → va_Nw (.methodLinkNest (xC o) x (mY k) "BusRack") U
theorem KX.moved {dC : Nat → ClassId} {dI : Nat → Nat → Nat} {dA : Nat → ClassId} {s U : State} (hW : s.WarmedH U.vm) (h : KX dC dI dA s) : KX dC dI dA U := by
  have hvm : s.vm.Alike U.vm := hW.alike
  obtain ⟨h1, h2, ⟨kA, comp, a1, a2, a3⟩, h4, h5⟩ := h
  obtain ⟨k', hk', he⟩ := hvm.2.2 _ _ a1
  refine ⟨fun c hc => u_Kn_moved hvm (h1 c hc), fun t ht => ⟨arrOfT_moved hvm (h2 t ht).1, by rw [hvm.findClass]; exact (h2 t ht).2⟩, ⟨k', comp, hk', by rw [he]; exact a2, by rw [hvm.findClass]; exact a3⟩, h4.moved hvm, fun o x k hm => (h5 o x k hm).warmM hW⟩
theorem KX.called {dC : Nat → ClassId} {dI : Nat → Nat → Nat} {dA : Nat → ClassId} {U : State} (g : JFrame) (mk : MethodId) (a : Array Value) (h : KX dC dI dA U) : KX dC dI dA (U.calling g mk a) := by
  have hvm : U.vm.Alike (U.calling g mk a).vm := Vm.Alike.refl U.vm
  obtain ⟨h1, h2, ⟨kA, comp, a1, a2, a3⟩, h4, h5⟩ := h
  exact ⟨fun c hc => u_Kn_moved hvm (h1 c hc), fun t ht => ⟨arrOfT_moved hvm (h2 t ht).1, (h2 t ht).2⟩, ⟨kA, comp, a1, a2, a3⟩, h4.moved hvm, fun o x k hm => (h5 o x k hm).same rfl rfl⟩
/-- locals -/
def lv1 (B b i : Nat) (o : Option AV) : Option (Nat × Value) := match o with
  | some (.inl x) => some (i, .int x)
  | some (.inr (.inl (some r))) => some (i, cvv B b (.inr (.inl (some r))))
  | some (.inr (.inr x)) => some (i, .long x)
  | _ => none
def lvL (B b : Nat) (L : List AV) : List (Nat × Value) := (List.range L.length).filterMap (fun i => lv1 B b i L[i]?)
theorem lvL_mem {B b : Nat} {L : List AV} {i : Nat} {w : Value} : (i, w) ∈ lvL B b L ↔ ∃ v : AV, L[i]? = some v ∧ v ≠ .inr (.inl none) ∧ w = cvv B b v := by
  unfold lvL
  rw [List.mem_filterMap]
  constructor
  · rintro ⟨j, -, hj⟩
    unfold lv1 at hj
    split at hj
    next x hx => cases hj; exact ⟨_, hx, by simp, rfl⟩
    next r hx => cases hj; exact ⟨_, hx, by simp, rfl⟩
    next x hx => cases hj; exact ⟨_, hx, by simp, rfl⟩
    next => cases hj
  · rintro ⟨v, hv, hne, rfl⟩
    refine ⟨i, List.mem_range.mpr (List.getElem?_eq_some_iff.mp hv).1, ?_⟩
    rw [hv]
    rcases v with x | ((_ | r) | x)
    · rfl
    · exact absurd rfl hne
    · rfl
    · rfl
theorem cvv_cat (B b : Nat) {v : AV} (h : nlg v = true) : (cvv B b v).category = 1 := by
  rcases v with x | ((_ | r) | x)
  · rfl
  · rfl
  · rfl
  · cases h
theorem cvv_cat2 (B b : Nat) (v : AV) : (cvv B b v).category ≤ 2 := by
  rcases v with x | ((_ | r) | x)
  · exact Nat.le_succ 1
  · exact Nat.le_succ 1
  · exact Nat.le_succ 1
  · exact Nat.le_refl 2
def lrel (B b : Nat) (g : Bool) (nL : Nat) (L : List AV) (arr : Array Slot) : Prop := lv_has arr nL (lvL B b L) ∧ L.length = nL ∧ (g = false → ∀ v ∈ L, nlg v = true)
theorem lrel.get {B b nL : Nat} {g : Bool} {L : List AV} {arr : Array Slot} {i : Nat} {v : AV} (h : lrel B b g nL L arr) (hv : L[i]? = some v) (hne : v ≠ .inr (.inl none)) : arr[i]? = some (.val (cvv B b v)) := h.1.2.2 (i, _) (lvL_mem.mpr ⟨v, hv, hne, rfl⟩)
/-- no long right below the place i -/
theorem nlb_below {B b nL : Nat} {g : Bool} {L : List AV} {arr : Array Slot} {i j : Nat} {u : AV} (h : lrel B b g nL L arr) (hg : g = false ∨ nlb L i = true) (hj : j + 1 = i) (hu : L[j]? = some u) : nlg u = true := by
  rcases hg with hg | hg
  · exact h.2.2 hg u (List.mem_of_getElem? hu)
  · subst hj
    unfold nlb at hg
    dsimp only at hg
    rw [hu] at hg
    rcases u with x | ((_ | r) | x)
    · rfl
    · rfl
    · rfl
    · cases hg
theorem set_nlg {g : Bool} {L : List AV} {i : Nat} {v : AV} (h : g = false → ∀ v ∈ L, nlg v = true) (hv : nlg v = true) : g = false → ∀ u ∈ L.set i v, nlg u = true := by
  intro hg u hu
  rcases List.mem_or_eq_of_mem_set hu with q | q
  · exact h hg u q
  · rw [q]; exact hv
theorem lrel.set {B b nL : Nat} {g : Bool} {L : List AV} {arr arr1 : Array Slot} {i : Nat} {v : AV} (h : lrel B b g nL L arr) (hg : g = false ∨ nlb L i = true) (hv : nlg v = true) (hi : i < L.length) (h1 : lv_has arr1 nL ((i, cvv B b v) :: (lvL B b L).filter (fun q => !(q.1 == i) && !(q.1 + 1 == i && q.2.category == 2)))) : lrel B b g nL (L.set i v) arr1 := by
  refine ⟨⟨h1.1, h1.2.1, fun q hq => ?_⟩, by rw [List.length_set]; exact h.2.1, set_nlg h.2.2 hv⟩
  obtain ⟨j, w⟩ := q
  obtain ⟨u, hu, hne, rfl⟩ := lvL_mem.mp hq
  by_cases hj : j = i
  · subst hj
    rw [List.getElem?_set_self hi] at hu
    cases hu
    exact h1.2.2 _ List.mem_cons_self
  · rw [List.getElem?_set_ne (Ne.symm hj)] at hu
    refine h1.2.2 (j, cvv B b u) (List.mem_cons_of_mem _ (List.mem_filter.mpr ⟨lvL_mem.mpr ⟨u, hu, hne, rfl⟩, ?_⟩))
    by_cases hj1 : j + 1 = i
    · have hc : (cvv B b u).category = 1 := cvv_cat B b (nlb_below h hg hj1 hu)
      simp [hj, hc]
    · simp [hj, hj1]
theorem lrel.set2 {B b nL : Nat} {g : Bool} {L : List AV} {arr arr1 : Array Slot} {i : Nat} {x : Int64} (h : lrel B b g nL L arr) (hg1 : g = true) (hg : nlb L i = true) (hi : i + 1 < L.length) (h1 : lv_has arr1 nL ((i, Value.long x) :: (lvL B b L).filter (fun q => !(q.1 == i) && (!(q.1 == i + 1) && !(q.1 + 1 == i && q.2.category == 2))))) : lrel B b g nL ((L.set i (.inr (.inr x))).set (i + 1) (.inr (.inl none))) arr1 := by
  refine ⟨⟨h1.1, h1.2.1, fun q hq => ?_⟩, by rw [List.length_set, List.length_set]; exact h.2.1, fun q => by rw [hg1] at q; cases q⟩
  obtain ⟨j, w⟩ := q
  obtain ⟨u, hu, hne, rfl⟩ := lvL_mem.mp hq
  by_cases hj2 : j = i + 1
  · subst hj2
    rw [List.getElem?_set_self (by rw [List.length_set]; exact hi)] at hu
    cases hu
    exact absurd rfl hne
  · rw [List.getElem?_set_ne (Ne.symm hj2)] at hu
    by_cases hj : j = i
    · subst hj
      rw [List.getElem?_set_self (by omega)] at hu
      cases hu
      exact h1.2.2 _ List.mem_cons_self
    · rw [List.getElem?_set_ne (Ne.symm hj)] at hu
      refine h1.2.2 (j, cvv B b u) (List.mem_cons_of_mem _ (List.mem_filter.mpr ⟨lvL_mem.mpr ⟨u, hu, hne, rfl⟩, ?_⟩))
      by_cases hj1 : j + 1 = i
      · have hc : (cvv B b u).category = 1 := cvv_cat B b (nlb_below h (Or.inr hg) hj1 hu)
        simp [hj, hj2, hc]
      · simp [hj, hj2, hj1]
theorem lg_len (B b : Nat) (as : List AV) (h : as.all nlg = true) : (lg_sl (as.map (cvv B b))).length = as.length := by
  induction as with
  | nil => rfl
  | cons v as ih =>
    rw [List.all_cons, Bool.and_eq_true] at h
    have e : lg_sl ((v :: as).map (cvv B b)) = .val (cvv B b v) :: lg_sl (as.map (cvv B b)) := by
      show List.flatMap _ (cvv B b v :: as.map (cvv B b)) = _
      rw [List.flatMap_cons, if_neg (by rw [cvv_cat B b h.1]; decide)]
      rfl
    rw [e, List.length_cons, ih h.2, List.length_cons]
theorem lv_args_mem (B b : Nat) : ∀ (as : List AV) (j i : Nat) (v : AV), as.all nlg = true → as[i]? = some v → (j + i, cvv B b v) ∈ lv_args j (as.map (cvv B b))
  | [], j, i, v, _, h => by simp at h
  | a :: as, j, i, v, ha, h => by
    rw [List.all_cons, Bool.and_eq_true] at ha
    rw [List.map_cons, lv_args, if_neg (by rw [cvv_cat B b ha.1]; decide)]
    cases i with
    | zero =>
      rw [List.getElem?_cons_zero] at h
      cases h
      exact List.mem_cons_self
    | succ i =>
      rw [List.getElem?_cons_succ] at h
      have := lv_args_mem B b as (j + 1) i v ha.2 h
      rw [show j + 1 + i = j + (i + 1) by omega] at this
      exact List.mem_cons_of_mem _ this
theorem ent_nlg {k : Nat} {as : List AV} (h : as.all nlg = true) : ∀ v ∈ ent k as, nlg v = true := by
  intro v hv
  rcases List.mem_append.mp hv with q | q
  · exact List.all_eq_true.mp h v q
  · rw [(List.mem_replicate.mp q).2]
    rfl
theorem lrel.entry {B b k : Nat} {g : Bool} {as : List AV} (h : as.length ≤ mL k) (hg : as.all nlg = true) : lrel B b g (mL k) (ent k as) ((lg_sl (as.map (cvv B b)) ++ List.replicate (mL k - (lg_sl (as.map (cvv B b))).length) Slot.unset).toArray) := by
  have h1 := lv_entry (as.map (cvv B b)) (n := mL k) (by rw [lg_len B b as hg]; exact h)
  refine ⟨⟨h1.1, h1.2.1, fun q hq => h1.2.2 q ?_⟩, by simp [ent]; omega, fun _ => ent_nlg hg⟩
  obtain ⟨j, w⟩ := q
  obtain ⟨u, hu, hne, rfl⟩ := lvL_mem.mp hq
  have hj : j < as.length := by
    rcases Nat.lt_or_ge j as.length with q | q
    · exact q
    · unfold ent at hu
      rw [List.getElem?_append_right q, List.getElem?_replicate] at hu
      split at hu
      · cases hu; exact absurd rfl hne
      · cases hu
  unfold ent at hu
  rw [List.getElem?_append_left hj] at hu
  have := lv_args_mem B b as 0 j u hg hu
  rw [Nat.zero_add] at this
  exact this
