/-! one instruction: what the abstract machine does the machine does -/
def Cx (dC : Nat → ClassId) (dI : Nat → Nat → Nat) (dA : Nat → ClassId) (B b Ls : Nat) (xs : Nat → Int32) (k : Nat) (p : Program) (s : State) (m : MethodId) (args : Array Value) (meth : Method) (c : Code) : Prop :=
  p.tables.exec = Jvm.exec ∧ c.code = mB k ∧ meth.sig.returnType = mR k ∧ c.maxLocals = mL k ∧ s.vm.findClass (xC (mO k)) = some m.cls ∧ meth.locks = false ∧ ((mY k).name = "<init>" → meth.name = "<init>") ∧ (∀ w ∈ gW, w.before args s = true) ∧ KX dC dI dA s ∧ va_X b Ls xs s s.heap ∧ b < B
section STEP
variable {dC : Nat → ClassId} {dI : Nat → Nat → Nat} {dA : Nat → ClassId} {B b Ls : Nat} {xs : Nat → Int32} {k : Nat}
variable {p : Program} {l : Launch} {e : Env} {R : Room} {s : State} {m : MethodId} {args : Array Value} {below : List Frame} {meth : Method} {c : Code} {Q : State → Prop}
variable {pc : Nat} {L st : List AV} {A : AH} {H : Heap} {locs : List Loc} {arr : Array Slot} {cells slots : Nat}
theorem s_gtf (cx : Cx dC dI dA B b Ls xs k p s m args meth c) (hH : HP dC dI dA B b Ls xs A H) {x c0 f pl r : Nat} {rest : List AV} (hd : decode (mB k) pc = .ok (.getfield x, 3)) (hlk : xF.lookup (mO k, x) = some (c0, f, pl)) (ht : (A.2.1 r).1 = c0)
    (kk : W p l e R s m args below meth c H locs cells slots Q (F0 m (pc + 3) arr ((fv A c0 r f :: rest).map (cvv B b)))) : W p l e R s m args below meth c H locs cells slots Q (F0 m pc arr ((.inr (.inl (some r)) :: rest : List AV).map (cvv B b))) := by
  obtain ⟨hx, hb, hr, hml, hown, hlocks, hnm, hts, hK, hX, hbB⟩ := cx
  obtain ⟨h1, h2, h3, h4, h5, h6, h7⟩ := hH
  obtain ⟨f1, f2, f3, f4⟩ := xF_get hlk
  have hrn := h3 r (by omega)
  have hrS : r ≠ SC := by omega
  obtain ⟨q0, -, -⟩ := h4 r hrn
  rw [ht] at q0
  obtain ⟨cell, q1, q2, q3, q4⟩ := q0 f2
  obtain ⟨hS, hfc, kC, hkC, hkind⟩ := hK.1 c0 f2
  obtain ⟨cf, kf, fi, fd, hi, hsl⟩ := hS f f3
  have hi2 := hi
  rw [f4] at hi2
  show W p l e R s m args below meth c H locs cells slots Q (F0 m pc arr ((Value.ref (if r = SC then b else B + r)) :: rest.map (cvv B b)))
  rw [if_neg hrS]
  refine W.getf hx hb hown (hts _ f1) hi2 (u_facts hfc hkC (u_lays hts (xi_lay f2) f3) hi).1 q1 (by rw [q3]; exact fun h => by cases h) (v := cvv B b (fv A c0 r f)) ?_ rfl rfl hd kk
  rw [hsl, q4 f f3]
theorem okf_fits {t : FieldType} {v : AV} (h : okf t v = true) (B b : Nat) : narrow t (cvv B b v) = cvv B b v ∧ fits t (cvv B b v) = true := by
  rcases v with x | ((_ | r) | x) <;> cases t <;> simp only [okf, Bool.or_eq_true, beq_iff_eq, Bool.false_eq_true] at h
  case inl.boolean => rcases h with rfl | rfl <;> exact ⟨rfl, rfl⟩
  all_goals exact ⟨rfl, rfl⟩
theorem okf_fv {t : FieldType} {v : AV} (h : okf t v = true) : (∃ x, v = .inl x ∧ isP t = true) ∨ (∃ o, v = .inr (.inl o) ∧ isP t = false) := by
  rcases v with x | (o | x)
  · exact Or.inl ⟨x, rfl, by cases t <;> simp [okf] at h <;> rfl⟩
  · exact Or.inr ⟨o, rfl, by cases t <;> simp [okf] at h <;> rfl⟩
  · cases t <;> simp [okf] at h
theorem putf_fv {A : AH} {c0 r f : Nat} {v : AV} (h : okf (xt c0 f) v = true) (j : Nat) : fv (putf A r f v) c0 r j = if j = f then v else fv A c0 r j := by
  rcases okf_fv h with ⟨x, rfl, hp⟩ | ⟨o, rfl, hp⟩
  · by_cases hj : j = f
    · subst hj; simp [fv, putf, sI, u2, hp]
    · simp [fv, putf, sI, u2, hj]
  · by_cases hj : j = f
    · subst hj; simp [fv, putf, sR, u2, hp]
    · simp [fv, putf, sR, u2, hj]
theorem putf_1 (A : AH) (r f : Nat) (v : AV) : (putf A r f v).1 = A.1 ∧ (putf A r f v).2.1 = A.2.1 := by
  rcases v with x | (o | x) <;> exact ⟨rfl, rfl⟩
theorem putf_2 (A : AH) (r f : Nat) (v : AV) (k : Nat) (hk : k ≠ r) : (putf A r f v).2.2.1 k = A.2.2.1 k ∧ (putf A r f v).2.2.2 k = A.2.2.2 k := by
  rcases v with x | (o | x)
  · exact ⟨by funext j; simp [putf, sI, u2, hk], rfl⟩
  · exact ⟨rfl, by funext j; simp [putf, sR, u2, hk]⟩
  · exact ⟨rfl, rfl⟩
theorem s_ptf (cx : Cx dC dI dA B b Ls xs k p s m args meth c) (hH : HP dC dI dA B b Ls xs A H) (hF : fr B s H locs) {x c0 f pl r : Nat} {v : AV} {rest : List AV} (hd : decode (mB k) pc = .ok (.putfield x, 3)) (hlk : xF.lookup (mO k, x) = some (c0, f, pl)) (ht : (A.2.1 r).1 = c0) (hok : okf (xt c0 f) v = true) (hfin : (xT c0 f).2.2.2 = true → (mY k).name = "<init>" ∧ mO k = c0)
    (kk : ∀ H1 locs1, HP dC dI dA B b Ls xs (putf A r f v) H1 → fr B s H1 locs1 → W p l e R s m args below meth c H1 locs1 cells slots Q (F0 m (pc + 3) arr (rest.map (cvv B b)))) : W p l e R s m args below meth c H locs cells slots Q (F0 m pc arr ((v :: .inr (.inl (some r)) :: rest : List AV).map (cvv B b))) := by
  obtain ⟨hx, hb, hr, hml, hown, hlocks, hnm, hts, hK, hX, hbB⟩ := cx
  have hH0 := hH
  obtain ⟨h1, h2, h3, h4, h5, h6, h7⟩ := hH
  obtain ⟨f1, f2, f3, f4⟩ := xF_get hlk
  have hrn := h3 r (by omega)
  have hrS : r ≠ SC := by omega
  obtain ⟨q0, -, -⟩ := h4 r hrn
  rw [ht] at q0
  obtain ⟨cell, q1, q2, q3, q4⟩ := q0 f2
  obtain ⟨hS, hfc, kC, hkC, hkind⟩ := hK.1 c0 f2
  obtain ⟨cf, kf, fi, fd, hi, hsl⟩ := hS f f3
  have hi2 := hi
  rw [f4] at hi2
  obtain ⟨hn, hfit⟩ := okf_fits hok B b
  have hap : ∀ x y, x < xN c0 → y < xN c0 → x ≠ y → (dI c0) x ≠ (dI c0) y := by
    intro x y hx hy hne
    obtain ⟨_, _, _, fa, hia, ea⟩ := hS x hx
    obtain ⟨_, _, _, fb, hib, eb⟩ := hS y hy
    rw [← ea, ← eb]
    refine u_apart (u_lays hts (xi_lay f2) hx) (u_lays hts (xi_lay f2) hy) hia hib ?_
    rw [(State.fieldFound?_type hia (xt_ok c0 f2 x hx)).1, (State.fieldFound?_type hib (xt_ok c0 f2 y hy)).1]
    exact xn_ok c0 f2 x hx y hy hne
  have key : ∀ H1 : Heap, H1[B + r]? = some (cell.setSlot fd.slot (cvv B b v)) → H1.size = H.size → (∀ q, q ≠ B + r → H1[q]? = H[q]?) → HP dC dI dA B b Ls xs (putf A r f v) H1 := by
    intro H1 e1 e2 e3
    refine hH0.set (putf_1 A r f v).1 (putf_1 A r f v).2 hrn (fun k hk => (putf_2 A r f v k hk).1) (fun k hk => (putf_2 A r f v k hk).2) e2 e3 ?_
    refine ⟨fun _ => ?_, fun t ht2 q => ?_, fun q => ?_⟩
    · rw [(putf_1 A r f v).2, ht]
      rw [hsl] at e1
      refine ⟨_, e1, q2, q3, fun j hj => ?_⟩
      rw [t_set q4 hap f3 (cvv B b v) j hj]
      dsimp only
      rw [putf_fv hok]
      by_cases hjf : j = f <;> simp [updV, hjf]
    · rw [(putf_1 A r f v).2, ht] at q; omega
    · rw [(putf_1 A r f v).2, ht] at q; omega
  show W p l e R s m args below meth c H locs cells slots Q (F0 m pc arr (cvv B b v :: (Value.ref (if r = SC then b else B + r)) :: rest.map (cvv B b)))
  rw [if_neg hrS]
  cases hff : (xT c0 f).2.2.2 with
  | false =>
    have hlay := hts _ (xi_lay f2 _ (u_in_lay f3))
    unfold u_lay at hlay
    rw [if_neg (by rw [hff]; decide)] at hlay
    have hst := (u_facts hfc hkC (u_lays hts (xi_lay f2) f3) hi).1
    have h6 := u_store hfc hkC hkind hlay hi (xt_ok c0 f2 f f3) hn hfit
    refine W.putK hx hb (f := fd) ⟨hown, hts _ f1, ⟨_, _, _, hi2⟩, hst⟩ (by rw [q2]; exact h6) q1 q3 (by rw [hsl]; exact k2_hasslot (q4 f f3)) rfl rfl hd fun H' e1 e2 e3 => ?_
    exact kk H' _ (key H' e1 e2 e3) (hF.put e2 e3)
  | true =>
    obtain ⟨hini, hoc⟩ := hfin hff
    have hlay := hts _ (xi_lay f2 _ (u_in_lay f3))
    unfold u_lay at hlay
    rw [if_pos hff] at hlay
    have hst := (u_facts hfc hkC (u_lays hts (xi_lay f2) f3) hi).1
    have hcf : m.cls = cf := by
      obtain ⟨_, _, c', _, _, _, -, -, hf', -, -, -, hown2, -⟩ := Cond.laysFinal_spec hlay
      have e1 : c' = cf := by have := hi.symm.trans hf'; simp at this; exact this.1.symm
      rw [f4] at hown2
      rw [hoc] at hown
      rw [← e1]; exact Option.some.inj (hown.symm.trans hown2)
    have h6 := u_fits hfc hkC hkind (Or.inr hlay) hi (xt_ok c0 f2 f f3) hn hfit
    refine W.putFinK hx hb hown (hts _ f1) hi2 hst hcf (hnm hini) (by rw [q2]; exact h6) q1 q3 (by rw [hsl]; exact k2_hasslot (q4 f f3)) rfl rfl hd fun H' e1 e2 e3 => ?_
    exact kk H' _ (key H' e1 e2 e3) (hF.put e2 e3)
theorem inb_not {i : Int32} {n : Nat} (h0 : 0 ≤ i) (h1 : i.toNatClampNeg < n) : ¬ (i < 0 ∨ n ≤ i.toNatClampNeg) := by
  intro h
  rcases h with h | h
  · exact absurd h (Int32.not_lt.mpr h0)
  · omega
theorem s_alen (cx : Cx dC dI dA B b Ls xs k p s m args meth c) (hH : HP dC dI dA B b Ls xs A H) (hF : fr B s H locs) {r : Nat} {rest : List AV} (hd : decode (mB k) pc = .ok (.arraylength, 1)) (ht : (A.2.1 r).1 = 10 ∨ (A.2.1 r).1 = 11 ∨ (A.2.1 r).1 = 20)
    (kk : W p l e R s m args below meth c H locs cells slots Q (F0 m (pc + 1) arr ((.inl (Int32.ofNat (A.2.1 r).2) :: rest : List AV).map (cvv B b)))) : W p l e R s m args below meth c H locs cells slots Q (F0 m pc arr ((.inr (.inl (some r)) :: rest : List AV).map (cvv B b))) := by
  obtain ⟨hx, hb, hr, hml, hown, hlocks, hnm, hts, hK, hX, hbB⟩ := cx
  obtain ⟨h1, h2, h3, h4, h5, h6, h7⟩ := hH
  show W p l e R s m args below meth c H locs cells slots Q (F0 m pc arr ((Value.ref (if r = SC then b else B + r)) :: rest.map (cvv B b)))
  rcases ht with ht | ht | ht
  · have hrn := h3 r (by omega)
    rw [if_neg (by omega)]
    obtain ⟨-, q1, -⟩ := h4 r hrn
    have q1 := q1 0 (by omega) ht
    exact W.alen (n := Int32.ofNat (A.2.1 r).2) hx hb q1 ((hK.2.1 0 (by omega)).1 _ _) (by rw [arrV_size] <;> rfl) rfl rfl hd kk
  · have hrn := h3 r (by omega)
    rw [if_neg (by omega)]
    obtain ⟨-, q1, -⟩ := h4 r hrn
    have q1 := q1 1 (by omega) ht
    exact W.alen (n := Int32.ofNat (A.2.1 r).2) hx hb q1 ((hK.2.1 1 (by omega)).1 _ _) (by rw [arrV_size] <;> rfl) rfl rfl hd kk
  · have hrS := h5 r ht
    rw [if_pos hrS]
    obtain ⟨scr, g1, g2, g3, g4, g5⟩ := hX
    rw [hrS, h6] at kk
    exact W.alen (n := Int32.ofNat Ls) hx hb (by rw [hF.2.2.1 b hbB]; exact g1) g2 (by rw [g4] <;> rfl) rfl rfl hd kk
theorem s_iald (cx : Cx dC dI dA B b Ls xs k p s m args meth c) (hH : HP dC dI dA B b Ls xs A H) (hF : fr B s H locs) {r : Nat} {i : Int32} {rest : List AV} (hd : decode (mB k) pc = .ok (.iaload, 1)) (ht : (A.2.1 r).1 = 10 ∨ (A.2.1 r).1 = 20) (hi0 : 0 ≤ i) (hi1 : i.toNatClampNeg < (A.2.1 r).2)
    (kk : W p l e R s m args below meth c H locs cells slots Q (F0 m (pc + 1) arr ((.inl (A.2.2.1 r i.toNatClampNeg) :: rest : List AV).map (cvv B b)))) : W p l e R s m args below meth c H locs cells slots Q (F0 m pc arr ((.inl i :: .inr (.inl (some r)) :: rest : List AV).map (cvv B b))) := by
  obtain ⟨hx, hb, hr, hml, hown, hlocks, hnm, hts, hK, hX, hbB⟩ := cx
  obtain ⟨h1, h2, h3, h4, h5, h6, h7⟩ := hH
  show W p l e R s m args below meth c H locs cells slots Q (F0 m pc arr (.int i :: (Value.ref (if r = SC then b else B + r)) :: rest.map (cvv B b)))
  rcases ht with ht | ht
  · have hrn := h3 r (by omega)
    rw [if_neg (by omega)]
    obtain ⟨-, q1, -⟩ := h4 r hrn
    have q1 := q1 0 (by omega) ht
    exact W.iald (v := .int (A.2.2.1 r i.toNatClampNeg)) hx hb q1 ((hK.2.1 0 (by omega)).1 _ _) (fun q => by cases q) (by rw [arrV_size]; exact inb_not hi0 hi1) (by rw [arrV_read _ _ hi1]) rfl rfl hd kk
  · have hrS := h5 r ht
    rw [if_pos hrS]
    obtain ⟨scr, g1, g2, g3, g4, g5⟩ := hX
    rw [hrS, h6] at hi1
    rw [hrS, h7] at kk
    exact W.iald (v := .int (xs i.toNatClampNeg)) hx hb (by rw [hF.2.2.1 b hbB]; exact g1) g2 g3 (by rw [g4]; exact inb_not hi0 hi1) (g5 _ hi1) rfl rfl hd kk
theorem s_cald (cx : Cx dC dI dA B b Ls xs k p s m args meth c) (hH : HP dC dI dA B b Ls xs A H) {r : Nat} {i : Int32} {rest : List AV} (hd : decode (mB k) pc = .ok (.caload, 1)) (ht : (A.2.1 r).1 = 11) (hi0 : 0 ≤ i) (hi1 : i.toNatClampNeg < (A.2.1 r).2)
    (kk : W p l e R s m args below meth c H locs cells slots Q (F0 m (pc + 1) arr ((.inl (A.2.2.1 r i.toNatClampNeg) :: rest : List AV).map (cvv B b)))) : W p l e R s m args below meth c H locs cells slots Q (F0 m pc arr ((.inl i :: .inr (.inl (some r)) :: rest : List AV).map (cvv B b))) := by
  obtain ⟨hx, hb, hr, hml, hown, hlocks, hnm, hts, hK, hX, hbB⟩ := cx
  obtain ⟨h1, h2, h3, h4, h5, h6, h7⟩ := hH
  show W p l e R s m args below meth c H locs cells slots Q (F0 m pc arr (.int i :: (Value.ref (if r = SC then b else B + r)) :: rest.map (cvv B b)))
  have hrn := h3 r (by omega)
  rw [if_neg (by omega)]
  obtain ⟨-, q1, -⟩ := h4 r hrn
  have q1 := q1 1 (by omega) ht
  exact W.cald (v := .int (A.2.2.1 r i.toNatClampNeg)) hx hb q1 ((hK.2.1 1 (by omega)).1 _ _) (fun q => by cases q) (by rw [arrV_size]; exact inb_not hi0 hi1) (by rw [arrV_read _ _ hi1]) rfl rfl hd kk
theorem HP.stored (hH : HP dC dI dA B b Ls xs A H) {r t i : Nat} {x : Int32} {H1 : Heap} (ht3 : t < 3) (ht : (A.2.1 r).1 = 10 + t) (hrn : r < A.1.1) (e : H1[B + r]? = some ((arrV (dA t) (A.2.1 r).2 (fun j => .int (A.2.2.1 r j))).setSlot i (.int x))) (z : H1.size = H.size) (oq : ∀ q, q ≠ B + r → H1[q]? = H[q]?) : HP dC dI dA B b Ls xs (sI A r i x) H1 := by
  refine hH.set rfl rfl hrn (fun k hk => by funext j; simp [sI, u2, hk]) (fun k hk => rfl) z oq ⟨fun q => ?_, fun t2 ht2 q => ?_, fun q => ?_⟩
  · change (A.2.1 r).1 < 5 at q
    omega
  · change (A.2.1 r).1 = 10 + t2 at q
    have : t2 = t := by omega
    subst this
    rw [e, arrV_store]
    show some (arrV _ (A.2.1 r).2 _) = some (arrV _ (A.2.1 r).2 _)
    congr 2
    funext j
    by_cases hj : j = i
    · subst hj; simp [updV, sI, u2]
    · simp [updV, sI, u2, hj]
  · change (A.2.1 r).1 = 13 at q
    omega
theorem s_iast (cx : Cx dC dI dA B b Ls xs k p s m args meth c) (hH : HP dC dI dA B b Ls xs A H) (hF : fr B s H locs) {r : Nat} {i x : Int32} {rest : List AV} (hd : decode (mB k) pc = .ok (.iastore, 1)) (ht : (A.2.1 r).1 = 10) (hi0 : 0 ≤ i) (hi1 : i.toNatClampNeg < (A.2.1 r).2)
    (kk : ∀ H1 locs1, HP dC dI dA B b Ls xs (sI A r i.toNatClampNeg x) H1 → fr B s H1 locs1 → W p l e R s m args below meth c H1 locs1 cells slots Q (F0 m (pc + 1) arr (rest.map (cvv B b)))) : W p l e R s m args below meth c H locs cells slots Q (F0 m pc arr ((.inl x :: .inl i :: .inr (.inl (some r)) :: rest : List AV).map (cvv B b))) := by
  obtain ⟨hx, hb, hr, hml, hown, hlocks, hnm, hts, hK, hX, hbB⟩ := cx
  have hrn := hH.2.2.1 r (by omega)
  have hSC := hH.2.1
  show W p l e R s m args below meth c H locs cells slots Q (F0 m pc arr (.int x :: .int i :: (Value.ref (if r = SC then b else B + r)) :: rest.map (cvv B b)))
  rw [if_neg (by omega)]
  obtain ⟨-, q1, -⟩ := hH.2.2.2.1 r hrn
  have q1 := q1 0 (by omega) ht
  refine W.iast hx hb q1 ((hK.2.1 0 (by omega)).1 _ _) (fun q => by cases q) (by rw [arrV_size]; exact inb_not hi0 hi1) rfl rfl hd fun H1 e z oq => ?_
  exact kk H1 _ (hH.stored (t := 0) (by omega) ht hrn e z oq) (hF.put z oq)
theorem s_cast (cx : Cx dC dI dA B b Ls xs k p s m args meth c) (hH : HP dC dI dA B b Ls xs A H) (hF : fr B s H locs) {r : Nat} {i x : Int32} {rest : List AV} (hd : decode (mB k) pc = .ok (.castore, 1)) (ht : (A.2.1 r).1 = 11) (hi0 : 0 ≤ i) (hi1 : i.toNatClampNeg < (A.2.1 r).2)
    (kk : ∀ H1 locs1, HP dC dI dA B b Ls xs (sI A r i.toNatClampNeg (vp_nar .char x)) H1 → fr B s H1 locs1 → W p l e R s m args below meth c H1 locs1 cells slots Q (F0 m (pc + 1) arr (rest.map (cvv B b)))) : W p l e R s m args below meth c H locs cells slots Q (F0 m pc arr ((.inl x :: .inl i :: .inr (.inl (some r)) :: rest : List AV).map (cvv B b))) := by
  obtain ⟨hx, hb, hr, hml, hown, hlocks, hnm, hts, hK, hX, hbB⟩ := cx
  have hrn := hH.2.2.1 r (by omega)
  have hSC := hH.2.1
  show W p l e R s m args below meth c H locs cells slots Q (F0 m pc arr (.int x :: .int i :: (Value.ref (if r = SC then b else B + r)) :: rest.map (cvv B b)))
  rw [if_neg (by omega)]
  obtain ⟨-, q1, -⟩ := hH.2.2.2.1 r hrn
  have q1 := q1 1 (by omega) ht
  refine W.cast hx hb q1 ((hK.2.1 1 (by omega)).1 _ _) (fun q => by cases q) (by rw [arrV_size]; exact inb_not hi0 hi1) rfl rfl hd fun H1 e z oq => ?_
  exact kk H1 _ (hH.stored (t := 1) (by omega) ht hrn e z oq) (hF.put z oq)
theorem s_aald (cx : Cx dC dI dA B b Ls xs k p s m args meth c) (hH : HP dC dI dA B b Ls xs A H) {r : Nat} {i : Int32} {rest : List AV} (hd : decode (mB k) pc = .ok (.aaload, 1)) (ht : (A.2.1 r).1 = 13) (hi0 : 0 ≤ i) (hi1 : i.toNatClampNeg < (A.2.1 r).2)
    (kk : W p l e R s m args below meth c H locs cells slots Q (F0 m (pc + 1) arr ((.inr (.inl (A.2.2.2 r i.toNatClampNeg)) :: rest : List AV).map (cvv B b)))) : W p l e R s m args below meth c H locs cells slots Q (F0 m pc arr ((.inl i :: .inr (.inl (some r)) :: rest : List AV).map (cvv B b))) := by
  obtain ⟨hx, hb, hr, hml, hown, hlocks, hnm, hts, hK, hX, hbB⟩ := cx
  obtain ⟨h1, h2, h3, h4, h5, h6, h7⟩ := hH
  show W p l e R s m args below meth c H locs cells slots Q (F0 m pc arr (.int i :: (Value.ref (if r = SC then b else B + r)) :: rest.map (cvv B b)))
  have hrn := h3 r (by omega)
  rw [if_neg (by omega)]
  obtain ⟨-, -, q1⟩ := h4 r hrn
  have q1 := q1 ht
  exact W.aald (v := cvv B b (.inr (.inl (A.2.2.2 r i.toNatClampNeg)))) (ty := .object "BusRack$Rack") hx hb q1 ((hK.2.1 3 (by omega)).1 _ _) rfl (fun q => by cases q) (by rw [arrV_size]; exact inb_not hi0 hi1) (by rw [arrV_read _ _ hi1]) rfl rfl hd kk
theorem s_aast (cx : Cx dC dI dA B b Ls xs k p s m args meth c) (hH : HP dC dI dA B b Ls xs A H) (hF : fr B s H locs) {r v : Nat} {i : Int32} {rest : List AV} (hd : decode (mB k) pc = .ok (.aastore, 1)) (ht : (A.2.1 r).1 = 13) (hv : (A.2.1 v).1 = 2) (hi0 : 0 ≤ i) (hi1 : i.toNatClampNeg < (A.2.1 r).2)
    (kk : ∀ H1 locs1, HP dC dI dA B b Ls xs (sR A r i.toNatClampNeg (some v)) H1 → fr B s H1 locs1 → W p l e R s m args below meth c H1 locs1 cells slots Q (F0 m (pc + 1) arr (rest.map (cvv B b)))) : W p l e R s m args below meth c H locs cells slots Q (F0 m pc arr ((.inr (.inl (some v)) :: .inl i :: .inr (.inl (some r)) :: rest : List AV).map (cvv B b))) := by
  obtain ⟨hx, hb, hr, hml, hown, hlocks, hnm, hts, hK, hX, hbB⟩ := cx
  have hrn := hH.2.2.1 r (by omega)
  have hvn := hH.2.2.1 v (by omega)
  have hSC := hH.2.1
  show W p l e R s m args below meth c H locs cells slots Q (F0 m pc arr ((Value.ref (if v = SC then b else B + v)) :: .int i :: (Value.ref (if r = SC then b else B + r)) :: rest.map (cvv B b)))
  rw [if_neg (show ¬ r = SC by omega), if_neg (show ¬ v = SC by omega)]
  obtain ⟨-, -, q1⟩ := hH.2.2.2.1 r hrn
  have q1 := q1 ht
  obtain ⟨g0, -, -⟩ := hH.2.2.2.1 v hvn
  rw [hv] at g0
  obtain ⟨cellV, g1, g2, g3, -⟩ := g0 (by omega)
  obtain ⟨kA, comp, k1, k2, k3⟩ := hK.2.2.1
  have hcls := (hK.1 2 (by omega)).2
  have hcomp : comp = dC 2 := Option.some.inj (k3.symm.trans hcls.1)
  subst hcomp
  obtain ⟨kC, hkC, -⟩ := hcls.2
  refine W.aast hx hb q1 (fun q h => by cases h) (fun h => by cases h) k1 k2 rfl hkC ⟨Int32.not_lt.mpr hi0, by rw [arrV_size]; exact hi1⟩ g1 (fun q h => by rw [g3] at h; cases h) (by rw [g2]; exact hkC) (by rw [g2]; exact va_assign hcls) rfl rfl hd fun H1 e z oq => ?_
  refine kk H1 _ (hH.set rfl rfl hrn (fun k hk => rfl) (fun k hk => by funext j; simp [sR, u2, hk]) z oq ⟨fun q => ?_, fun t2 ht2 q => ?_, fun q => ?_⟩) (hF.put z oq)
  · change (A.2.1 r).1 < 5 at q; omega
  · change (A.2.1 r).1 = 10 + t2 at q; omega
  · rw [e, arrV_store]
    show some (arrV _ (A.2.1 r).2 _) = some (arrV _ (A.2.1 r).2 _)
    congr 2
    funext j
    by_cases hj : j = i.toNatClampNeg
    · subst hj; simp only [updV, sR, u2, if_true]; show _ = cvv B b (.inr (.inl (some v))); show _ = Value.ref _; rw [if_neg (by omega)]
    · simp [updV, sR, u2, hj]
theorem s_newO (cx : Cx dC dI dA B b Ls xs k p s m args meth c) (hH : HP dC dI dA B b Ls xs A H) (hF : fr B s H locs) {x c0 pl : Nat} (hd : decode (mB k) pc = .ok (.new x, 3)) (hlk : xK.lookup (mO k, x) = some (c0, pl)) (hn : A.1.1 + 1 < SC) (hc1 : cells + 1 ≤ R.cells) (hs1 : slots + xN c0 ≤ R.slots)
    (kk : ∀ H1, HP dC dI dA B b Ls xs (nw A (c0, 0) (xN c0)) H1 → fr B s H1 locs → W p l e R s m args below meth c H1 locs (cells + 1) (slots + xN c0) Q (F0 m (pc + 3) arr ((.inr (.inl (some A.1.1)) :: st : List AV).map (cvv B b)))) : W p l e R s m args below meth c H locs cells slots Q (F0 m pc arr (st.map (cvv B b))) := by
  obtain ⟨hx, hb, hr, hml, hown, hlocks, hnm, hts, hK, hX, hbB⟩ := cx
  obtain ⟨f1, f2⟩ := xK_get hlk
  have hKn := hK.1 c0 f2
  refine W.newcK hx hb hown (hts _ f1) (hts _ (xi_inst f2)) (hts _ (xi_ini f2)) rfl hd hc1 hs1 hKn.2.1 rfl fun H1 kC hkC e1 z1 o1 => ?_
  have hsz : H.size = B + A.1.1 := hH.1
  have hb0 := u_born (xt c0) hts (xi_lay f2) hKn hkC e1 (xt_ok c0 f2)
  rw [hsz]
  have hk := kk H1 (hH.new (by show c0 < 14; omega) hn z1 o1 ⟨fun _ => ?_, fun t ht q => ?_, fun q => ?_⟩) (hF.new z1 o1)
  · have e : (Value.ref (B + A.1.1)) = cvv B b (.inr (.inl (some A.1.1))) := by show _ = Value.ref _; rw [if_neg (by omega)]
    rw [e]
    exact hk
  · have ht : (nw A (c0, 0) (xN c0)).2.1 A.1.1 = (c0, 0) := by simp [nw]
    rw [ht, ← hsz]
    refine hb0.to fun j hj => ?_
    have : isP (xt c0 j) = true → defaultValue (xt c0 j) = .int 0 := by
      intro h; cases hq : xt c0 j <;> rw [hq] at h <;> first | rfl | (simp [isP] at h)
    by_cases hp : isP (xt c0 j) = true
    · rw [this hp]; simp [fv, hp, nw, cvv]
    · have h2 : defaultValue (xt c0 j) = .null := by
        have : ∀ c, c < 5 → ∀ j, j < xN c → isP (xt c j) = true ∨ defaultValue (xt c j) = .null := by decide +kernel
        rcases this c0 f2 j hj with q | q
        · exact absurd q hp
        · exact q
      rw [h2]; simp [fv, hp, nw, cvv]
  · simp [nw] at q; omega
  · simp [nw] at q; omega
end STEP
