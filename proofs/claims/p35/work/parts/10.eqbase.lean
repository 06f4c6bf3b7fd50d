/-! equations of zsem, by kinds of instruction -/
/-- an answer of a boolean method -/
def bI (p : Prop) [Decidable p] : Int32 := if p then nI 1 else nI 0
section QB
variable {d k pc : Nat} {L : List AV} {A : AH}
theorem q_iinc {i : Nat} {c : Int} {x v : Int32} {st : List AV} (hd : decode (mB k) pc = .ok (.iinc i c, 3)) (hv : Int32.ofInt c = v) (hL : L[i]? = some (.inl x)) (hg : lgm k = false ∨ nlb L i = true) : zsem d k pc L st A = zsem d k (pc + 3) (L.set i (.inl (x + v))) st A :=
  zs_go hd rfl (by dsimp only [nxd]; rw [hL]; dsimp only; rw [if_pos hg, hv]; rfl) ⟨Nat.le_refl _, Nat.le_refl _⟩
theorem q_idiv {x y : Int32} {st : List AV} (hd : decode (mB k) pc = .ok (.idiv, 1)) (h : ¬y = 0) : zsem d k pc L (.inl y :: .inl x :: st) A = zsem d k (pc + 1) L (.inl (x / y) :: st) A :=
  zs_go hd rfl (by dsimp only [nxd]; rw [if_neg h]; rfl) ⟨Nat.le_refl _, Nat.le_refl _⟩
theorem q_irem {x y : Int32} {st : List AV} (hd : decode (mB k) pc = .ok (.irem, 1)) (h : ¬y = 0) : zsem d k pc L (.inl y :: .inl x :: st) A = zsem d k (pc + 1) L (.inl (x - x / y * y) :: st) A :=
  zs_go hd rfl (by dsimp only [nxd]; rw [if_neg h]; rfl) ⟨Nat.le_refl _, Nat.le_refl _⟩
theorem jmp_of {o : Int} {t : Nat} {st : List AV} (h1 : (pc : Int) + o = (t : Int)) : jmp pc o L st A = rg t L st A := by
  unfold jmp
  rw [h1, if_pos (Int.natCast_nonneg t)]
  rfl
theorem brf_of {o : Int} {t : Nat} {st : List AV} (h1 : (pc : Int) + o = (t : Int)) : brf pc o L st A = rg (pc + 3) L st A := by
  unfold brf
  rw [h1, if_pos (Int.natCast_nonneg t)]
theorem q_if {c : ClassFile.Cond} {o : Int} {t : Nat} {x : Int32} {st : List AV} {P : Prop} [Decidable P] (hd : decode (mB k) pc = .ok (.ifCond c o, 3)) (h1 : (pc : Int) + o = (t : Int)) (hP : hc c x 0 = decide P) : zsem d k pc L (.inl x :: st) A = if P then zsem d k t L st A else zsem d k (pc + 3) L st A := by
  by_cases h : P
  · rw [if_pos h]
    refine zs_go hd rfl ?_ ⟨Nat.le_refl _, Nat.le_refl _⟩
    dsimp only [nxd]
    rw [hP, if_pos (decide_eq_true h), jmp_of h1]
    rfl
  · rw [if_neg h]
    refine zs_go hd rfl ?_ ⟨Nat.le_refl _, Nat.le_refl _⟩
    dsimp only [nxd]
    rw [hP, if_neg (by simp [h]), brf_of h1]
    rfl
theorem q_ic {c : ClassFile.Cond} {o : Int} {t : Nat} {x y : Int32} {st : List AV} {P : Prop} [Decidable P] (hd : decode (mB k) pc = .ok (.if_icmp c o, 3)) (h1 : (pc : Int) + o = (t : Int)) (hP : hc c x y = decide P) : zsem d k pc L (.inl y :: .inl x :: st) A = if P then zsem d k t L st A else zsem d k (pc + 3) L st A := by
  by_cases h : P
  · rw [if_pos h]
    refine zs_go hd rfl ?_ ⟨Nat.le_refl _, Nat.le_refl _⟩
    dsimp only [nxd]
    rw [hP, if_pos (decide_eq_true h), jmp_of h1]
    rfl
  · rw [if_neg h]
    refine zs_go hd rfl ?_ ⟨Nat.le_refl _, Nat.le_refl _⟩
    dsimp only [nxd]
    rw [hP, if_neg (by simp [h]), brf_of h1]
    rfl
section
variable {o : Int} {t : Nat} {x y : Int32} {st : List AV}
theorem q_ifeq (hd : decode (mB k) pc = .ok (.ifCond .eq o, 3)) (h1 : (pc : Int) + o = (t : Int)) : zsem d k pc L (.inl x :: st) A = if x = 0 then zsem d k t L st A else zsem d k (pc + 3) L st A := q_if hd h1 rfl
theorem q_ifne (hd : decode (mB k) pc = .ok (.ifCond .ne o, 3)) (h1 : (pc : Int) + o = (t : Int)) : zsem d k pc L (.inl x :: st) A = if ¬x = 0 then zsem d k t L st A else zsem d k (pc + 3) L st A := q_if hd h1 rfl
theorem q_iflt (hd : decode (mB k) pc = .ok (.ifCond .lt o, 3)) (h1 : (pc : Int) + o = (t : Int)) : zsem d k pc L (.inl x :: st) A = if x < 0 then zsem d k t L st A else zsem d k (pc + 3) L st A := q_if hd h1 rfl
theorem q_ifge (hd : decode (mB k) pc = .ok (.ifCond .ge o, 3)) (h1 : (pc : Int) + o = (t : Int)) : zsem d k pc L (.inl x :: st) A = if 0 ≤ x then zsem d k t L st A else zsem d k (pc + 3) L st A := q_if hd h1 rfl
theorem q_ifgt (hd : decode (mB k) pc = .ok (.ifCond .gt o, 3)) (h1 : (pc : Int) + o = (t : Int)) : zsem d k pc L (.inl x :: st) A = if 0 < x then zsem d k t L st A else zsem d k (pc + 3) L st A := q_if hd h1 rfl
theorem q_ifle (hd : decode (mB k) pc = .ok (.ifCond .le o, 3)) (h1 : (pc : Int) + o = (t : Int)) : zsem d k pc L (.inl x :: st) A = if x ≤ 0 then zsem d k t L st A else zsem d k (pc + 3) L st A := q_if hd h1 rfl
theorem q_iceq (hd : decode (mB k) pc = .ok (.if_icmp .eq o, 3)) (h1 : (pc : Int) + o = (t : Int)) : zsem d k pc L (.inl y :: .inl x :: st) A = if x = y then zsem d k t L st A else zsem d k (pc + 3) L st A := q_ic hd h1 rfl
theorem q_icne (hd : decode (mB k) pc = .ok (.if_icmp .ne o, 3)) (h1 : (pc : Int) + o = (t : Int)) : zsem d k pc L (.inl y :: .inl x :: st) A = if ¬x = y then zsem d k t L st A else zsem d k (pc + 3) L st A := q_ic hd h1 rfl
theorem q_iclt (hd : decode (mB k) pc = .ok (.if_icmp .lt o, 3)) (h1 : (pc : Int) + o = (t : Int)) : zsem d k pc L (.inl y :: .inl x :: st) A = if x < y then zsem d k t L st A else zsem d k (pc + 3) L st A := q_ic hd h1 rfl
theorem q_icge (hd : decode (mB k) pc = .ok (.if_icmp .ge o, 3)) (h1 : (pc : Int) + o = (t : Int)) : zsem d k pc L (.inl y :: .inl x :: st) A = if y ≤ x then zsem d k t L st A else zsem d k (pc + 3) L st A := q_ic hd h1 rfl
theorem q_icgt (hd : decode (mB k) pc = .ok (.if_icmp .gt o, 3)) (h1 : (pc : Int) + o = (t : Int)) : zsem d k pc L (.inl y :: .inl x :: st) A = if y < x then zsem d k t L st A else zsem d k (pc + 3) L st A := q_ic hd h1 rfl
theorem q_icle (hd : decode (mB k) pc = .ok (.if_icmp .le o, 3)) (h1 : (pc : Int) + o = (t : Int)) : zsem d k pc L (.inl y :: .inl x :: st) A = if x ≤ y then zsem d k t L st A else zsem d k (pc + 3) L st A := q_ic hd h1 rfl
end
theorem q_get {x c f pl r : Nat} {st : List AV} (hd : decode (mB k) pc = .ok (.getfield x, 3)) (hl : xF.lookup (mO k, x) = some (c, f, pl)) (h : (A.2.1 r).1 = c) : zsem d k pc L (.inr (.inl (some r)) :: st) A = zsem d k (pc + 3) L (fv A c r f :: st) A :=
  zs_go hd rfl (by dsimp only [nxd, gtf]; rw [hl]; dsimp only; rw [if_pos h]; rfl) ⟨Nat.le_refl _, Nat.le_refl _⟩
theorem q_put {x c f pl r : Nat} {v : AV} {st : List AV} (hd : decode (mB k) pc = .ok (.putfield x, 3)) (hl : xF.lookup (mO k, x) = some (c, f, pl)) (h : (A.2.1 r).1 = c) (h2 : okf (xt c f) v = true) (h3 : (xT c f).2.2.2 = true → (mY k).name = "<init>" ∧ mO k = c) : zsem d k pc L (v :: .inr (.inl (some r)) :: st) A = zsem d k (pc + 3) L st (putf A r f v) :=
  zs_go hd rfl (by dsimp only [nxd, ptf]; rw [hl]; dsimp only; rw [if_pos ⟨h, h2, h3⟩]; rfl) (by rw [(putf_1 A r f v).1]; exact ⟨Nat.le_refl _, Nat.le_refl _⟩)
theorem q_alen {r : Nat} {st : List AV} (hd : decode (mB k) pc = .ok (.arraylength, 1)) (h : (A.2.1 r).1 = 10 ∨ (A.2.1 r).1 = 11 ∨ (A.2.1 r).1 = 20) : zsem d k pc L (.inr (.inl (some r)) :: st) A = zsem d k (pc + 1) L (.inl (nI (A.2.1 r).2) :: st) A :=
  zs_go hd rfl (by dsimp only [nxd, alen]; rw [if_pos h]; rfl) ⟨Nat.le_refl _, Nat.le_refl _⟩
section
variable {r : Nat} {i x : Int32} {st : List AV}
theorem q_ald20 (hd : decode (mB k) pc = .ok (.iaload, 1)) (h : (A.2.1 r).1 = 20) (h0 : 0 ≤ i) (h1 : i.toNatClampNeg < (A.2.1 r).2) : zsem d k pc L (.inl i :: .inr (.inl (some r)) :: st) A = zsem d k (pc + 1) L (.inl (A.2.2.1 r i.toNatClampNeg) :: st) A :=
  zs_go hd rfl (by dsimp only [nxd, ald]; rw [if_pos ⟨Or.inr ⟨rfl, h⟩, h0, h1⟩]; rfl) ⟨Nat.le_refl _, Nat.le_refl _⟩
theorem q_iald (hd : decode (mB k) pc = .ok (.iaload, 1)) (h : (A.2.1 r).1 = 10) (h0 : 0 ≤ i) (h1 : i.toNatClampNeg < (A.2.1 r).2) : zsem d k pc L (.inl i :: .inr (.inl (some r)) :: st) A = zsem d k (pc + 1) L (.inl (A.2.2.1 r i.toNatClampNeg) :: st) A :=
  zs_go hd rfl (by dsimp only [nxd, ald]; rw [if_pos ⟨Or.inl h, h0, h1⟩]; rfl) ⟨Nat.le_refl _, Nat.le_refl _⟩
theorem q_cald (hd : decode (mB k) pc = .ok (.caload, 1)) (h : (A.2.1 r).1 = 11) (h0 : 0 ≤ i) (h1 : i.toNatClampNeg < (A.2.1 r).2) : zsem d k pc L (.inl i :: .inr (.inl (some r)) :: st) A = zsem d k (pc + 1) L (.inl (A.2.2.1 r i.toNatClampNeg) :: st) A :=
  zs_go hd rfl (by dsimp only [nxd, ald]; rw [if_pos ⟨Or.inl h, h0, h1⟩]; rfl) ⟨Nat.le_refl _, Nat.le_refl _⟩
theorem q_iast (hd : decode (mB k) pc = .ok (.iastore, 1)) (h : (A.2.1 r).1 = 10) (h0 : 0 ≤ i) (h1 : i.toNatClampNeg < (A.2.1 r).2) : zsem d k pc L (.inl x :: .inl i :: .inr (.inl (some r)) :: st) A = zsem d k (pc + 1) L st (sI A r i.toNatClampNeg x) :=
  zs_go hd rfl (by dsimp only [nxd, ast]; rw [if_pos ⟨h, h0, h1⟩]; rfl) ⟨Nat.le_refl _, Nat.le_refl _⟩
theorem q_cast (hd : decode (mB k) pc = .ok (.castore, 1)) (h : (A.2.1 r).1 = 11) (h0 : 0 ≤ i) (h1 : i.toNatClampNeg < (A.2.1 r).2) : zsem d k pc L (.inl x :: .inl i :: .inr (.inl (some r)) :: st) A = zsem d k (pc + 1) L st (sI A r i.toNatClampNeg (vp_nar .char x)) :=
  zs_go hd rfl (by dsimp only [nxd, ast]; rw [if_pos ⟨h, h0, h1⟩]; rfl) ⟨Nat.le_refl _, Nat.le_refl _⟩
theorem q_aald (hd : decode (mB k) pc = .ok (.aaload, 1)) (h : (A.2.1 r).1 = 13) (h0 : 0 ≤ i) (h1 : i.toNatClampNeg < (A.2.1 r).2) : zsem d k pc L (.inl i :: .inr (.inl (some r)) :: st) A = zsem d k (pc + 1) L (.inr (.inl (A.2.2.2 r i.toNatClampNeg)) :: st) A :=
  zs_go hd rfl (by dsimp only [nxd, aldR]; rw [if_pos ⟨h, h0, h1⟩]; rfl) ⟨Nat.le_refl _, Nat.le_refl _⟩
theorem q_aast {v : Nat} (hd : decode (mB k) pc = .ok (.aastore, 1)) (h : (A.2.1 r).1 = 13) (hv : (A.2.1 v).1 = 2) (h0 : 0 ≤ i) (h1 : i.toNatClampNeg < (A.2.1 r).2) : zsem d k pc L (.inr (.inl (some v)) :: .inl i :: .inr (.inl (some r)) :: st) A = zsem d k (pc + 1) L st (sR A r i.toNatClampNeg (some v)) :=
  zs_go hd rfl (by dsimp only [nxd, astR]; rw [if_pos ⟨h, hv, h0, h1⟩]; rfl) ⟨Nat.le_refl _, Nat.le_refl _⟩
end
theorem q_new {x c pl : Nat} {st : List AV} (hd : decode (mB k) pc = .ok (.new x, 3)) (hl : xK.lookup (mO k, x) = some (c, pl)) (h : A.1.1 + 1 < SC) : zsem d k pc L st A = zsem d k (pc + 3) L (.inr (.inl (some A.1.1)) :: st) (nw A (c, 0) (xN c)) :=
  zs_go hd rfl (by dsimp only [nxd, newO]; rw [hl]; dsimp only; rw [if_pos h]; rfl) ⟨Nat.le_succ _, Nat.le_add_right _ _⟩
def atg : ArrayType → Nat
  | .int => 10
  | .char => 11
  | _ => 0
theorem q_newa {at0 : ArrayType} {t : Nat} {n : Int32} {st : List AV} (hd : decode (mB k) pc = .ok (.newarray at0, 2)) (ht : atg at0 = t + 10) (h0 : 0 ≤ n) (h1 : n.toNatClampNeg ≤ 100000) (h : A.1.1 + 1 < SC) : zsem d k pc L (.inl n :: st) A = zsem d k (pc + 2) L (.inr (.inl (some A.1.1)) :: st) (nw A (t + 10, n.toNatClampNeg) n.toNatClampNeg) := by
  refine zs_go hd rfl ?_ ⟨Nat.le_succ _, Nat.le_add_right _ _⟩
  cases at0 <;> simp only [atg] at ht <;> first | omega | (dsimp only [nxd, newP]; rw [if_pos ⟨h0, h1, h⟩, ← ht]; rfl)
theorem q_newq {x pl : Nat} {n : Int32} {st : List AV} (hd : decode (mB k) pc = .ok (.anewarray x, 3)) (hl : xK.lookup (mO k, x) = some (2, pl)) (h0 : 0 ≤ n) (h1 : n.toNatClampNeg ≤ 100000) (h : A.1.1 + 1 < SC) : zsem d k pc L (.inl n :: st) A = zsem d k (pc + 3) L (.inr (.inl (some A.1.1)) :: st) (nw A (13, n.toNatClampNeg) n.toNatClampNeg) := by
  refine zs_go (i := .anewarray x) (len := 3) hd rfl ?_ ⟨Nat.le_succ _, Nat.le_add_right _ _⟩
  dsimp only [nxd, newQ]
  rw [hl]
  change (if 0 ≤ n ∧ n.toNatClampNeg ≤ 100000 ∧ A.1.1 + 1 < SC then rg (pc + 3) L (.inr (.inl (some A.1.1)) :: st) (nw A (13, n.toNatClampNeg) n.toNatClampNeg) else none) = _
  rw [if_pos ⟨h0, h1, h⟩]
  rfl
theorem q_cpy {x pl pl2 a a0 : Nat} {n dp sp : Int32} {st : List AV} (hd : decode (mB k) pc = .ok (.invokestatic x, 3)) (hl : xI.lookup (mO k, x) = some (6, pl, pl2)) (hs : st.length ≤ 2) (h2 : (A.2.1 a).1 = 10) (h4 : (A.2.1 a0).1 = 10) (h3 : 0 ≤ sp) (h1 : 0 ≤ dp) (h0 : 0 ≤ n) (g0 : sp.toNatClampNeg + n.toNatClampNeg ≤ (A.2.1 a0).2) (g1 : dp.toNatClampNeg + n.toNatClampNeg ≤ (A.2.1 a).2) :
    zsem d k pc L (.inl n :: .inl dp :: .inr (.inl (some a)) :: .inl sp :: .inr (.inl (some a0)) :: st) A = zsem d k (pc + 3) L st (cpA A a0 a sp.toNatClampNeg dp.toNatClampNeg n.toNatClampNeg) :=
  zs_go hd rfl (by dsimp only [nxd, ivS]; rw [hl]; dsimp only [cpy]; rw [if_pos ⟨hs, h2, h4, h3, h1, h0, g0, g1⟩]; rfl) ⟨Nat.le_refl _, Nat.le_refl _⟩
theorem q_v {x c pl b : Nat} {st as rest : List AV} (hl : xI.lookup (mO k, x) = some (2, c, pl)) (hst : st = as.reverse ++ .inr (.inl (some b)) :: rest ∧ as.length = mP c) (h : (A.2.1 b).1 = mO c) (hr : rs8 rest = true) : nxd k pc (.invokevirtual x) L st A = some (.inr (.inr (c, .inr (.inl (some b)) :: as, rest))) := by
  dsimp only [nxd, ivV]
  rw [hl]
  change (match st.drop (mP c) with
    | .inr (.inl (some b)) :: rest => if (A.2.1 b).1 = mO c ∧ rs8 rest = true then rc c (.inr (.inl (some b)) :: (st.take (mP c)).reverse) rest else none
    | _ => none) = _
  have e1 : st.drop (mP c) = .inr (.inl (some b)) :: rest := by rw [hst.1, ← hst.2, ← List.length_reverse, List.drop_left]
  have e2 : st.take (mP c) = as.reverse := by rw [hst.1, ← hst.2, ← List.length_reverse, List.take_left]
  rw [e1]
  dsimp only
  rw [if_pos ⟨h, hr⟩, e2, List.reverse_reverse]
  rfl
theorem q_s0 {x c pl : Nat} {st as rest : List AV} (hl : xI.lookup (mO k, x) = some (0, c, pl)) (hst : st = as.reverse ++ rest ∧ as.length = mP c) (hr : rs8 rest = true) : nxd k pc (.invokestatic x) L st A = some (.inr (.inr (c, as, rest))) := by
  dsimp only [nxd, ivS]
  rw [hl]
  change (if mP c ≤ st.length ∧ rs8 (st.drop (mP c)) = true then rc c (st.take (mP c)).reverse (st.drop (mP c)) else none) = _
  have e1 : st.drop (mP c) = rest := by rw [hst.1, ← hst.2, ← List.length_reverse, List.drop_left]
  have e2 : st.take (mP c) = as.reverse := by rw [hst.1, ← hst.2, ← List.length_reverse, List.take_left]
  have e3 : st.length = mP c + rest.length := by rw [hst.1, List.length_append, List.length_reverse, hst.2]
  rw [if_pos ⟨by omega, by rw [e1]; exact hr⟩, e1, e2, List.reverse_reverse]
  rfl
theorem q_s1 {x c pl : Nat} {st as rest : List AV} (hl : xI.lookup (mO k, x) = some (1, c, pl)) (hst : st = as.reverse ++ rest ∧ as.length = mP c) (hr : rs8 rest = true) : nxd k pc (.invokestatic x) L st A = some (.inr (.inr (c, as, rest))) := by
  dsimp only [nxd, ivS]
  rw [hl]
  change (if mP c ≤ st.length ∧ rs8 (st.drop (mP c)) = true then rc c (st.take (mP c)).reverse (st.drop (mP c)) else none) = _
  have e1 : st.drop (mP c) = rest := by rw [hst.1, ← hst.2, ← List.length_reverse, List.drop_left]
  have e2 : st.take (mP c) = as.reverse := by rw [hst.1, ← hst.2, ← List.length_reverse, List.take_left]
  have e3 : st.length = mP c + rest.length := by rw [hst.1, List.length_append, List.length_reverse, hst.2]
  rw [if_pos ⟨by omega, by rw [e1]; exact hr⟩, e1, e2, List.reverse_reverse]
  rfl
theorem q_i3 {x c pl b : Nat} {rest : List AV} (hl : xI.lookup (mO k, x) = some (3, c, pl)) (hr : rs8 rest = true) : nxd k pc (.invokespecial x) L (.inr (.inl (some b)) :: rest) A = some (.inr (.inr (c, [.inr (.inl (some b))], rest))) := by
  dsimp only [nxd, ivI]
  rw [hl]
  change (if rs8 rest = true then rc c [.inr (.inl (some b))] rest else none) = _
  rw [if_pos hr]
  rfl
theorem q_i4 {x c pl b : Nat} {rest : List AV} (hl : xI.lookup (mO k, x) = some (4, c, pl)) (hr : rs8 rest = true) : nxd k pc (.invokespecial x) L (.inr (.inl (some b)) :: rest) A = some (.inr (.inr (c, [.inr (.inl (some b))], rest))) := by
  dsimp only [nxd, ivI]
  rw [hl]
  change (if rs8 rest = true then rc c [.inr (.inl (some b))] rest else none) = _
  rw [if_pos hr]
  rfl
theorem q_i5 {x c pl b : Nat} {rest : List AV} (hd : decode (mB k) pc = .ok (.invokespecial x, 3)) (hl : xI.lookup (mO k, x) = some (5, c, pl)) (hr : rest.length ≤ 2) : zsem d k pc L (.inr (.inl (some b)) :: rest) A = zsem d k (pc + 3) L rest A :=
  zs_go hd rfl (by dsimp only [nxd, ivI]; rw [hl]; change (if rest.length ≤ 2 then rg (pc + 3) L rest A else none) = _
                   rw [if_pos hr]; rfl) ⟨Nat.le_refl _, Nat.le_refl _⟩
theorem q_iret {x : Int32} (hd : decode (mB k) pc = .ok (.ireturn, 1)) (h : okr k x = true) : zsem d k pc L [.inl x] A = some (some (.inl x), A) :=
  zs_ret hd rfl (by dsimp only [nxd]; rw [if_pos h]; rfl)
theorem q_lret {x : Int64} (hd : decode (mB k) pc = .ok (.lreturn, 1)) (h : mR k = some .long) : zsem d k pc L [.inr (.inr x)] A = some (some (.inr (.inr x)), A) :=
  zs_ret hd rfl (by dsimp only [nxd]; rw [if_pos h]; rfl)
theorem q_ret (hd : decode (mB k) pc = .ok (.return_, 1)) (h : mR k = none) : zsem d k pc L [] A = some (none, A) :=
  zs_ret hd rfl (by dsimp only [nxd]; rw [if_pos h]; rfl)
end QB
