/-! calls, and a whole run: what the abstract machine answers the machine answers -/
def wsk (k : Nat) : List Cond := Cond.code (mY k) (mB k) (mL k) (mR k) :: gW
def rmv (d mc ms : Nat) : Room := { frames := d + 1, cells := mc, slots := ms, locals := 40 * d + 40 }
theorem goodk {k : Nat} (h : k < 109) : GoodIn gW (wsk k) := by
  intro w hw
  rcases List.mem_cons.mp hw with rfl | hw
  · exact ⟨xi_code h, good_of_word (gW_good (xi_code h))⟩
  · exact ⟨hw, good_of_word (gW_good hw)⟩
def PcX (dC : Nat → ClassId) (dI : Nat → Nat → Nat) (dA : Nat → ClassId) (B b Ls : Nat) (xs : Nat → Int32) (as : List AV) (A : AH) : Array Value → State → Prop := fun v U =>
  v = (as.map (cvv B b)).toArray ∧ HP dC dI dA B b Ls xs A U.heap ∧ KX dC dI dA U ∧ va_X b Ls xs U U.heap ∧ b < B
def QcX (dC : Nat → ClassId) (dI : Nat → Nat → Nat) (dA : Nat → ClassId) (B b Ls : Nat) (xs : Nat → Int32) (r : Option AV) (A : AH) : Array Value → State → Outcome → State → Prop := fun _ st oc t =>
  oc = .returned (r.map (cvv B b)) ∧ HP dC dI dA B b Ls xs A t.heap ∧ st.heap.size ≤ t.heap.size ∧ ∀ q, q < B → t.heap[q]? = st.heap[q]?
theorem PcX.blind (dC : Nat → ClassId) (dI : Nat → Nat → Nat) (dA : Nat → ClassId) (B b Ls : Nat) (xs : Nat → Int32) (as : List AV) (A : AH) : FrameBlind (PcX dC dI dA B b Ls xs as A) := by
  intro a U g mk h
  obtain ⟨h1, h2, h3, h4, h5⟩ := h
  exact ⟨h1, h2, h3.called g mk a, va_X.moved (u := U) (U := U.calling g mk a) (Vm.Alike.refl U.vm) h4, h5⟩
def fin (k : Nat) (i : Instr) (len : Nat) (v : Option AV) : Prop := (i = .ireturn ∧ len = 1 ∧ ∃ x, v = some (.inl x) ∧ okr k x = true) ∨ (i = .return_ ∧ len = 1 ∧ v = none ∧ mR k = none) ∨ (i = .lreturn ∧ len = 1 ∧ ∃ x, v = some (.inr (.inr x)) ∧ mR k = some .long)
section CALL
variable {dC : Nat → ClassId} {dI : Nat → Nat → Nat} {dA : Nat → ClassId} {B b Ls : Nat} {xs : Nat → Int32} {k : Nat}
variable {p : Program} {l : Launch} {e : Env} {R : Room} {s : State} {m : MethodId} {args : Array Value} {below : List Frame} {meth : Method} {c : Code} {Q : State → Prop}
variable {pc : Nat} {L st : List AV} {A : AH} {H : Heap} {locs : List Loc} {arr : Array Slot} {cells slots : Nat}
theorem run_go {w : Option AV} {A1 : AH} {mc ms : Nat} {st0 rest : List Value} {a : Array Value} (hr : va_Run p l e R s m args below meth c H locs cells slots mc ms (F0 m pc arr st0) rest (QcX dC dI dA B b Ls xs w A1 a) (fun q => B ≤ q)) (hF : fr B s H locs)
    (kk : ∀ H1 locs1, HP dC dI dA B b Ls xs A1 H1 → fr B s H1 locs1 → W p l e R s m args below meth c H1 locs1 (cells + mc) (slots + ms) Q (F0 m (pc + 3) arr ((w.map (cvv B b)).toList ++ rest))) : W p l e R s m args below meth c H locs cells slots Q (F0 m pc arr st0) := by
  intro T hT X
  obtain ⟨v, st₀, t, T', L1, h0, X', hL, e1, e2, ⟨hv, hP, hz, hk⟩, hgo⟩ := hr T hT X
  have hv2 : v = w.map (cvv B b) := Outcome.returned.inj hv
  subst hv2
  rw [h0] at hz hk
  obtain ⟨t2, a1, b1⟩ := kk T'.heap (locs ++ L1) (by rw [e1]; exact hP) ⟨by rw [e1]; exact Nat.le_trans hF.1 hz, hF.2.1, fun q hq => by rw [e1]; exact (hk q hq).trans (hF.2.2.1 q hq), fun q hq => by
      rcases List.mem_append.mp hq with h | h
      · exact hF.2.2.2 q h
      · exact hL q h⟩ T' rfl X'
  exact ⟨t2, hgo t2 a1, b1⟩
theorem cx_pc (cx : Cx dC dI dA B b Ls xs k p s m args meth c) (hH : HP dC dI dA B b Ls xs A H) (hF : fr B s H locs) (as : List AV) : ∀ U : State, U.heap = H → s.WarmedH U.vm → PcX dC dI dA B b Ls xs as A (as.map (cvv B b)).toArray U := by
  obtain ⟨hx, hb, hr, hml, hown, hlocks, hnm, hts, hK, hX, hbB⟩ := cx
  intro U hU hW
  refine ⟨rfl, by rw [hU]; exact hH, hK.moved hW, ?_, hbB⟩
  exact (hX.kept (by rw [hU]; exact hF.2.2.1 b hbB)).moved hW.alike
theorem cat_sum1 (B b : Nat) (r : List AV) (h : r.all nlg = true) : ((r.map (cvv B b)).map (fun v => v.category)).sum = r.length := by
  induction r with
  | nil => rfl
  | cons x r ih =>
    rw [List.all_cons, Bool.and_eq_true] at h
    rw [List.map_cons, List.map_cons, List.sum_cons, List.length_cons, ih h.2, cvv_cat B b h.1]
    omega
theorem restCat {rest : List AV} (h : rs8 rest = true) : ((rest.map (cvv B b)).map (fun v => v.category)).sum ≤ 8 := by
  unfold rs8 at h
  simp only [Bool.or_eq_true, Bool.and_eq_true, decide_eq_true_eq] at h
  rcases h with h | ⟨h1, h2⟩
  · exact Nat.le_trans (cat_sum B b rest) (by omega)
  · rw [cat_sum1 B b rest h2]
    exact h1
theorem nx_call {i : Instr} {c1 : Nat} {as rest : List AV} (h : nxd k pc i L st A = some (.inr (.inr (c1, as, rest)))) :
    rs8 rest = true ∧ ((∃ x pl, i = .invokestatic x ∧ (xI.lookup (mO k, x) = some (0, c1, pl) ∨ xI.lookup (mO k, x) = some (1, c1, pl)) ∧ as.length = mP c1 ∧ st = as.reverse ++ rest) ∨
      (∃ x pl bb as0, i = .invokevirtual x ∧ xI.lookup (mO k, x) = some (2, c1, pl) ∧ as = .inr (.inl (some bb)) :: as0 ∧ st = as0.reverse ++ .inr (.inl (some bb)) :: rest ∧ (A.2.1 bb).1 = mO c1 ∧ as0.length = mP c1) ∨
      (∃ x pl bb, i = .invokespecial x ∧ (xI.lookup (mO k, x) = some (3, c1, pl) ∨ xI.lookup (mO k, x) = some (4, c1, pl)) ∧ as = [.inr (.inl (some bb))] ∧ st = .inr (.inl (some bb)) :: rest)) := by
  cases i
  case invokestatic x =>
    dsimp only [nxd, ivS, rc] at h
    split at h
    next cc pl hlk =>
      split at h
      next ht =>
        cases h
        refine ⟨ht.2, Or.inl ⟨x, pl, rfl, Or.inl hlk, by rw [List.length_reverse, List.length_take]; omega, by rw [List.reverse_reverse, List.take_append_drop]⟩⟩
      next => cases h
    next cc pl hlk =>
      split at h
      next ht =>
        cases h
        refine ⟨ht.2, Or.inl ⟨x, pl, rfl, Or.inr hlk, by rw [List.length_reverse, List.length_take]; omega, by rw [List.reverse_reverse, List.take_append_drop]⟩⟩
      next => cases h
    · dsimp only [cpy, rg] at h
      (repeat' (split at h)) <;> cases h
    · cases h
  case invokevirtual x =>
    dsimp only [nxd, ivV, rc] at h
    split at h
    next cc pl hlk =>
      split at h
      next bb rs hst =>
        split at h
        next ht =>
          cases h
          have hle : mP c1 ≤ st.length := by
            rcases Nat.lt_or_ge st.length (mP c1) with q | q
            · rw [List.drop_of_length_le (by omega)] at hst; cases hst
            · exact q
          refine ⟨ht.2, Or.inr (Or.inl ⟨x, pl, bb, _, rfl, hlk, rfl, ?_, ht.1, by rw [List.length_reverse, List.length_take]; omega⟩)⟩
          rw [List.reverse_reverse, ← hst, List.take_append_drop]
        next => cases h
      next => cases h
    · cases h
  case invokespecial x =>
    dsimp only [nxd, ivI, rc] at h
    split at h
    next cc pl hlk =>
      split at h
      next bb rs =>
        split at h
        next ht => cases h; exact ⟨ht, Or.inr (Or.inr ⟨x, pl, bb, rfl, Or.inl hlk, rfl, rfl⟩)⟩
        next => cases h
      next => cases h
    next cc pl hlk =>
      split at h
      next bb rs =>
        split at h
        next ht => cases h; exact ⟨ht, Or.inr (Or.inr ⟨x, pl, bb, rfl, Or.inr hlk, rfl, rfl⟩)⟩
        next => cases h
      next => cases h
    · dsimp only [rg] at h
      (repeat' (split at h)) <;> cases h
    · cases h
  case newarray t =>
    exfalso
    cases t <;> dsimp only [nxd, newP, rg] at h <;> first | (cases h; done) | (repeat' (split at h)) <;> cases h
  all_goals exfalso
  all_goals dsimp only [nxd] at h
  all_goals first | (cases h; done) | skip
  all_goals dsimp only [rg, rr, rc, jmp, brf, b2, ldI, ldR, stI, stR, ldL, stL, gtf, ptf, alen, ald, ast, aldR, astR, newO, newP, newQ, ivS, ivV, ivI, cpy, tsw] at h
  all_goals (repeat' (split at h)) <;> cases h
/-- a call: the callee's contract, and how it goes on -/
theorem callW (cx : Cx dC dI dA B b Ls xs k p s m args meth c) (hH : HP dC dI dA B b Ls xs A H) (hF : fr B s H locs) (hL : lrel B b (lgm k) (mL k) L arr) {i : Instr} {len c1 d : Nat} {as rest : List AV} {w : Option AV} {A1 : AH} (hd : decode (mB k) pc = .ok (i, len)) (hl : ilok i len = true) (hn : nxd k pc i L st A = some (.inr (.inr (c1, as, rest))))
    (hM : c1 < 109 → c1 ≠ 1 → Met l (mY c1) (wsk c1) (rmv d (A1.1.1 - A.1.1) (A1.1.2 - A.1.2)) (PcX dC dI dA B b Ls xs as A) (QcX dC dI dA B b Ls xs w A1) (A1.1.1 - A.1.1) (A1.1.2 - A.1.2) (fun q => B ≤ q))
    (hR : d + 1 + 1 ≤ R.frames ∧ 40 * (d + 1) + 40 ≤ R.locals) (hcel : cells + (A1.1.1 - A.1.1) ≤ R.cells) (hslo : slots + (A1.1.2 - A.1.2) ≤ R.slots)
    (kk : ∀ H1 locs1, HP dC dI dA B b Ls xs A1 H1 → fr B s H1 locs1 → W p l e R s m args below meth c H1 locs1 (cells + (A1.1.1 - A.1.1)) (slots + (A1.1.2 - A.1.2)) Q (F0 m (pc + 3) arr ((w.toList ++ rest).map (cvv B b)))) :
    W p l e R s m args below meth c H locs cells slots Q (F0 m pc arr (st.map (cvv B b))) := by
  have hpc := cx_pc cx hH hF as
  have hx := cx.1
  have hb := cx.2.1
  have hml := cx.2.2.2.1
  have hown := cx.2.2.2.2.1
  have hts := cx.2.2.2.2.2.2.2.1
  have hK := cx.2.2.2.2.2.2.2.2.1
  have S : CallFix p m c (mB k) (mL k) s args gW (xC (mO k)) := ⟨hx, hb, hml, hown, hts⟩
  have kk2 : ∀ H1 locs1, HP dC dI dA B b Ls xs A1 H1 → fr B s H1 locs1 → W p l e R s m args below meth c H1 locs1 (cells + (A1.1.1 - A.1.1)) (slots + (A1.1.2 - A.1.2)) Q (F0 m (pc + 3) arr ((w.map (cvv B b)).toList ++ rest.map (cvv B b))) := by
    intro H1 locs1 a1 a2
    have := kk H1 locs1 a1 a2
    rw [List.map_append] at this
    have e0 : w.toList.map (cvv B b) = (w.map (cvv B b)).toList := by cases w <;> rfl
    rw [e0] at this
    exact this
  obtain ⟨hrest, ⟨x, pl, rfl, hlk, hal, rfl⟩ | ⟨x, pl, bb, as0, rfl, hlk, rfl, rfl, htag, hal⟩ | ⟨x, pl, bb, rfl, hlk, rfl, rfl⟩⟩ := nx_call hn
  · have := il_1 hl (by intros; simp); subst this
    have hst : (as.reverse ++ rest).map (cvv B b) = (as.map (cvv B b)).reverse ++ rest.map (cvv B b) := by rw [List.map_append, List.map_reverse]
    have hlen : (as.map (cvv B b)).length = mP c1 := by rw [List.length_map]; exact hal
    rcases hlk with hlk | hlk
    · obtain ⟨g1, g2, g3, g4⟩ := xI_0 hlk
      obtain ⟨o1, o2, o3, o4, o5⟩ := mok g3 g4
      have hrun := va_runS (e := e) (below := below) (meth := meth) (locs := locs) (As := as.map (cvv B b)) (rest := rest.map (cvv B b)) (g := F0 m pc arr ((as.reverse ++ rest).map (cvv B b))) S (hM g3 g4) ⟨callB_of (own := xC (mO k)) (index := x) (bytes := mB c1) (maxL := mL c1) (ret := mR c1) (mP c1) hts (goodk g3) rfl rfl rfl (hts _ o1) (hts _ g1) o2 ⟨hR.1, by show 8 + (mL c1 + 11) + (40 * d + 40) ≤ _; omega⟩, hts _ g2⟩ ⟨PcX.blind dC dI dA B b Ls xs as A, hpc⟩ rfl hlen hL.1.1 hst (lv_room (restCat hrest)) hd ⟨hcel, hslo⟩
      exact run_go hrun hF kk2
    · obtain ⟨g1, g2, g3, g4⟩ := xI_1 hlk
      obtain ⟨o1, o2, o3, o4, o5⟩ := mok g3 g4
      have hrun := va_runSN (e := e) (below := below) (meth := meth) (locs := locs) (As := as.map (cvv B b)) (rest := rest.map (cvv B b)) (g := F0 m pc arr ((as.reverse ++ rest).map (cvv B b))) S (hM g3 g4) ⟨va_cnB (own := xC (mO k)) (host := "BusRack") (index := x) (bytes := mB c1) (maxL := mL c1) (ret := mR c1) (mP c1) hts (goodk g3) rfl rfl rfl (hK.2.2.2.2 _ _ _ g1) (hts _ o1) o2 ⟨hR.1, by show 8 + (mL c1 + 11) + (40 * d + 40) ≤ _; omega⟩, hts _ g2, trivial⟩ ⟨PcX.blind dC dI dA B b Ls xs as A, hpc⟩ rfl hlen hL.1.1 hst (lv_room (restCat hrest)) hd ⟨hcel, hslo⟩
      exact run_go hrun hF kk2
  · have := il_1 hl (by intros; simp); subst this
    obtain ⟨g1, g2, g3, g4, g5, g6⟩ := xI_2 hlk
    obtain ⟨o1, o2, o3, o4, o5⟩ := mok g4 g5
    have hbn := hH.2.2.1 bb (by omega)
    have hbS : bb ≠ SC := by have := hH.2.1; omega
    have hst : (as0.reverse ++ .inr (.inl (some bb)) :: rest).map (cvv B b) = (as0.map (cvv B b)).reverse ++ Value.ref (B + bb) :: rest.map (cvv B b) := by
      rw [List.map_append, List.map_reverse, List.map_cons]
      show _ ++ Value.ref (if bb = SC then b else B + bb) :: _ = _
      rw [if_neg hbS]
    have hev : ((.inr (.inl (some bb)) :: as0 : List AV).map (cvv B b)) = Value.ref (B + bb) :: as0.map (cvv B b) := by
      rw [List.map_cons]
      show Value.ref (if bb = SC then b else B + bb) :: _ = _
      rw [if_neg hbS]
    have hlen : (as0.map (cvv B b)).length = mP c1 := by rw [List.length_map]; exact hal
    obtain ⟨q0, -, -⟩ := hH.2.2.2.1 bb hbn
    rw [htag] at q0
    obtain ⟨cell, q1, q2, q3, -⟩ := q0 g6
    have hcls := (hK.1 (mO c1) g6).2.1
    rw [hev] at hpc
    have hrun := va_runV (e := e) (below := below) (meth := meth) (locs := locs) (C := (mY c1).cls) (b := B + bb) (As := as0.map (cvv B b)) (rest := rest.map (cvv B b)) (g := F0 m pc arr ((as0.reverse ++ .inr (.inl (some bb)) :: rest).map (cvv B b))) S (hM g4 g5) ⟨callB_of (own := xC (mO k)) (index := x) (bytes := mB c1) (maxL := mL c1) (ret := mR c1) (mP c1) hts (goodk g4) rfl rfl rfl (hts _ o1) (hts _ g1) o2 ⟨hR.1, by show 8 + (mL c1 + 11) + (40 * d + 40) ≤ _; omega⟩, hts _ g2, hts _ g3⟩
      ⟨PcX.blind dC dI dA B b Ls xs _ A, ⟨cell, q1, by rw [q3]; rfl, by rw [← o5, q2]; exact hcls⟩, hpc⟩ rfl hlen hL.1.1 hst (lv_room (restCat hrest)) hd ⟨hcel, hslo⟩
    exact run_go hrun hF kk2
  · have := il_1 hl (by intros; simp); subst this
    have hbb : cvv B b (.inr (.inl (some bb))) = Value.ref (if bb = SC then b else B + bb) := rfl
    rcases hlk with hlk | hlk
    · obtain ⟨g1, g2, g3, gr, gp, g4, g5⟩ := xI_3 hlk
      obtain ⟨o1, o2, o3, o4, o5⟩ := mok g4 g5
      have hrun := va_runI (e := e) (below := below) (meth := meth) (locs := locs) (b := if bb = SC then b else B + bb) (As := []) (rest := rest.map (cvv B b)) (g := F0 m pc arr ((.inr (.inl (some bb)) :: rest : List AV).map (cvv B b))) S (hM g4 g5) ⟨callB_of (own := xC (mO k)) (index := x) (bytes := mB c1) (maxL := mL c1) (ret := none) (mP c1) hts (goodk g4) (by unfold wsk; rw [gr]) rfl rfl (hts _ o1) (hts _ g1) o2 ⟨hR.1, by show 8 + (mL c1 + 11) + (40 * d + 40) ≤ _; omega⟩, g3, hts _ g2⟩ ⟨PcX.blind dC dI dA B b Ls xs _ A, hpc⟩ rfl (by rw [gp]; rfl) hL.1.1 rfl (lv_room (restCat hrest)) hd ⟨hcel, hslo⟩
      exact run_go hrun hF kk2
    · obtain ⟨g1, g2, g3, gr, gp, g4, g5⟩ := xI_4 hlk
      obtain ⟨o1, o2, o3, o4, o5⟩ := mok g4 g5
      have hrun := va_runIN (e := e) (below := below) (meth := meth) (locs := locs) (b := if bb = SC then b else B + bb) (As := []) (rest := rest.map (cvv B b)) (g := F0 m pc arr ((.inr (.inl (some bb)) :: rest : List AV).map (cvv B b))) S (hM g4 g5) ⟨va_cnB (own := xC (mO k)) (host := "BusRack") (index := x) (bytes := mB c1) (maxL := mL c1) (ret := none) (mP c1) hts (goodk g4) (by unfold wsk; rw [gr]) rfl rfl (hK.2.2.2.2 _ _ _ g1) (hts _ o1) o2 ⟨hR.1, by show 8 + (mL c1 + 11) + (40 * d + 40) ≤ _; omega⟩, g3, hts _ g2⟩ ⟨PcX.blind dC dI dA B b Ls xs _ A, hpc⟩ rfl (by rw [gp]; rfl) hL.1.1 rfl (lv_room (restCat hrest)) hd ⟨hcel, hslo⟩
      exact run_go hrun hF kk2
end CALL
/-- a run of the abstract machine is a run of the machine -/
theorem snd (l : Launch) {dC : Nat → ClassId} {dI : Nat → Nat → Nat} {dA : Nat → ClassId} {B b Ls : Nat} {xs : Nat → Int32} : ∀ (n d k pc : Nat) (L st : List AV) (A : AH) (v : Option AV) (A' : AH), zrun n d k pc L st A = some (v, A') →
    ∀ {p : Program} {e : Env} {R : Room} {s : State} {m : MethodId} {args : Array Value} {below : List Frame} {meth : Method} {c : Code} {Q : State → Prop} {H : Heap} {locs : List Loc} {arr : Array Slot} {cells slots C' S' : Nat},
    Cx dC dI dA B b Ls xs k p s m args meth c → HP dC dI dA B b Ls xs A H → fr B s H locs → lrel B b (lgm k) (mL k) L arr → d + 1 ≤ R.frames ∧ 40 * d + 40 ≤ R.locals → C' ≤ R.cells → S' ≤ R.slots → cells + A'.1.1 = C' + A.1.1 → slots + A'.1.2 = S' + A.1.2 →
    (∀ (i : Instr) (len pcR : Nat) (HR : Heap) (locsR : List Loc) (arrR : Array Slot), decode (mB k) pcR = .ok (i, len) → fin k i len v → HP dC dI dA B b Ls xs A' HR → fr B s HR locsR → W p l e R s m args below meth c HR locsR C' S' Q (F0 m pcR arrR (v.toList.map (cvv B b)))) →
    W p l e R s m args below meth c H locs cells slots Q (F0 m pc arr (st.map (cvv B b))) := by
  intro n
  induction n with
  | zero => intro d k pc L st A v A' h; simp [zrun] at h
  | succ n ih =>
    intro d k pc L st A v A' h p e R s m args below meth c Q H locs arr cells slots C' S' cx hH hF hL hR hC hS hc0 hs0 hend
    rw [zrun] at h
    cases hd : decode (mB k) pc with
    | error e => rw [hd] at h; simp at h
    | ok q =>
      obtain ⟨i, len⟩ := q
      rw [hd] at h
      dsimp only at h
      split at h
      next hl =>
        cases hn : nxd k pc i L st A with
        | none => rw [hn] at h; simp at h
        | some x =>
          rw [hn] at h
          rcases x with ⟨pc1, L1, st1, A1⟩ | ⟨w, A1⟩ | ⟨c1, as, rest⟩
          · dsimp only at h
            split at h
            next hA =>
              have hz := zrun_sz _ _ _ _ _ _ _ _ _ h
              refine stepW cx hd hl hn hH hF hL ⟨by omega, by omega⟩ (by omega) (by omega) fun H1 locs1 arr1 a1 a2 a3 => ?_
              exact ih _ _ _ _ _ _ _ _ h cx a1 a2 a3 hR hC hS (by omega) (by omega) hend
            next => simp at h
          · dsimp only at h
            cases h
            obtain ⟨rfl, hq⟩ := nx_ret hn
            have e1 : cells = C' := by omega
            have e2 : slots = S' := by omega
            subst e1; subst e2
            rcases hq with ⟨rfl, x, rfl, rfl, hok⟩ | ⟨rfl, rfl, rfl, hok⟩ | ⟨rfl, x, rfl, rfl, hok⟩
            · exact hend _ _ pc H locs arr hd (Or.inl ⟨rfl, il_1 hl (by intros; simp), x, rfl, hok⟩) hH hF
            · exact hend _ _ pc H locs arr hd (Or.inr (Or.inl ⟨rfl, il_1 hl (by intros; simp), rfl, hok⟩)) hH hF
            · exact hend _ _ pc H locs arr hd (Or.inr (Or.inr ⟨rfl, il_1 hl (by intros; simp), x, rfl, hok⟩)) hH hF
          · cases d with
            | zero => simp at h
            | succ d =>
              dsimp only at h
              split at h
              next ha =>
                cases hcl : zrun n d c1 0 (ent c1 as) [] A with
                | none => rw [hcl] at h; simp at h
                | some y =>
                  obtain ⟨w, A1⟩ := y
                  rw [hcl] at h
                  dsimp only at h
                  have hz1 := zrun_sz _ _ _ _ _ _ _ _ _ hcl
                  have hz2 := zrun_sz _ _ _ _ _ _ _ _ _ h
                  refine callW cx hH hF hL hd hl hn (d := d) (w := w) (A1 := A1) ?_ ⟨by omega, by omega⟩ (by omega) (by omega) fun H1 locs1 a1 a2 => ?_
                  · intro hc192 hc1
                    obtain ⟨o1, o2, o3, o4, o5⟩ := mok hc192 hc1
                    refine va_MetF (cc := mB c1) (maxL := mL c1) (ret := mR c1) o4 rfl ?_
                    intro p e s m args below meth c s₁ Bd hml hv
                    obtain ⟨rfl, vH, vK, vX, vb⟩ := hv
                    have hts := atoms_spec (ws := wsk c1) Bd.pre
                    have cx2 : Cx dC dI dA B b Ls xs c1 p s m ((as.map (cvv B b)).toArray) meth c := ⟨Bd.exec, Bd.bytes, Bd.returns, hml, by rw [o5]; exact findClass_of_methodNamed Bd.named, Bd.notSynchronized, fun h => (name_of_methodNamed Bd.named Bd.method).1.trans h, fun w hw => hts w (List.mem_cons_of_mem _ hw), vK, vX, vb⟩
                    rw [lg_entry_eq]
                    refine ih d c1 0 (ent c1 as) [] A w A1 hcl (R := rmv d (A1.1.1 - A.1.1) (A1.1.2 - A.1.2)) (C' := A1.1.1 - A.1.1) (S' := A1.1.2 - A.1.2) cx2 vH ⟨Nat.le_refl _, by rw [vH.1]; omega, fun _ _ => rfl, fun _ h => by cases h⟩ (lrel.entry ha.1 ha.2) ⟨Nat.le_refl _, Nat.le_refl _⟩ (Nat.le_refl _) (Nat.le_refl _) (by omega) (by omega) ?_
                    intro i len pcR HR locsR arrR hdR hfin rH rF
                    rcases hfin with ⟨rfl, rfl, x, rfl, hok⟩ | ⟨rfl, rfl, rfl, hok⟩ | ⟨rfl, rfl, x, rfl, hok⟩
                    · unfold okr at hok
                      have hpost : ∀ t : State, t.heap = HR → s.WarmedH t.vm → QcX dC dI dA B b Ls xs (some (.inl x)) A1 ((as.map (cvv B b)).toArray) s (.returned (some (.int x))) t := fun t ht _ => ⟨rfl, by rw [ht]; exact rH, by rw [ht]; exact rF.1, fun q hq => by rw [ht]; exact rF.2.2.1 q hq⟩
                      split at hok
                      next hr2 => exact W.zret (ty := .int) Bd.exec Bd.bytes (Bd.returns.trans hr2) rfl hpost rF.2.2.2 hdR Bd.notSynchronized
                      next hr2 =>
                        simp only [Bool.or_eq_true, beq_iff_eq] at hok
                        exact W.zret (ty := .boolean) Bd.exec Bd.bytes (Bd.returns.trans hr2) (by rcases hok with rfl | rfl <;> rfl) hpost rF.2.2.2 hdR Bd.notSynchronized
                      next => cases hok
                    · exact W.vret Bd.exec Bd.bytes (Bd.returns.trans hok) (fun t ht _ => ⟨rfl, by rw [ht]; exact rH, by rw [ht]; exact rF.1, fun q hq => by rw [ht]; exact rF.2.2.1 q hq⟩) rF.2.2.2 hdR Bd.notSynchronized
                    · exact W.lret Bd.exec Bd.bytes (Bd.returns.trans hok) (fun t ht _ => ⟨rfl, by rw [ht]; exact rH, by rw [ht]; exact rF.1, fun q hq => by rw [ht]; exact rF.2.2.1 q hq⟩) rF.2.2.2 hdR Bd.notSynchronized
                  · exact ih _ _ _ _ _ _ _ _ h cx a1 a2 hL hR hC hS (by omega) (by omega) hend
              next => simp at h
      next => simp at h
