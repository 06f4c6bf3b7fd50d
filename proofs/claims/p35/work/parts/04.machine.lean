/-! AN ABSTRACT MACHINE of the program: values are ints, numbers of cells and longs, a heap is a size, tags, ints and references.
Tags: 0 .. 4 an object of class xC; 10 int[], 11 char[], 13 Rack[] with the length; 20 the script. -/
abbrev AV := Int32 ⊕ (Option Nat ⊕ Int64)
abbrev AH := (Nat × Nat) × (Nat → Nat × Nat) × (Nat → Nat → Int32) × (Nat → Nat → Option Nat)
abbrev RS := (Nat × List AV × List AV × AH) ⊕ ((Option AV × AH) ⊕ (Nat × List AV × List AV))
def SC : Nat := 1000000
def isP : FieldType → Bool
  | .int => true
  | .boolean => true
  | _ => false
/-- what the field f of the cell r, of class c, holds -/
def fv (A : AH) (c r f : Nat) : AV := if isP (xt c f) then .inl (A.2.2.1 r f) else .inr (.inl (A.2.2.2 r f))
def u2 {α : Type} (m : Nat → Nat → α) (a i : Nat) (x : α) : Nat → Nat → α := fun a' i' => if a' = a then (if i' = i then x else m a i') else m a' i'
def sI (A : AH) (a i : Nat) (x : Int32) : AH := (A.1, A.2.1, u2 A.2.2.1 a i x, A.2.2.2)
def sR (A : AH) (a i : Nat) (x : Option Nat) : AH := (A.1, A.2.1, A.2.2.1, u2 A.2.2.2 a i x)
def nw (A : AH) (t : Nat × Nat) (w : Nat) : AH := ((A.1.1 + 1, A.1.2 + w), fun k => if k = A.1.1 then t else A.2.1 k, fun a i => if a = A.1.1 then 0 else A.2.2.1 a i, fun a i => if a = A.1.1 then none else A.2.2.2 a i)
def cpA (A : AH) (a0 a sp dp n : Nat) : AH := (A.1, A.2.1, fun a' i' => if a' = a then va_cpy (A.2.2.1 a0) (A.2.2.1 a) sp dp n i' else A.2.2.1 a' i', A.2.2.2)
def rg (pc : Nat) (L st : List AV) (A : AH) : Option RS := some (.inl (pc, L, st, A))
def rr (v : Option AV) (A : AH) : Option RS := some (.inr (.inl (v, A)))
def rc (c : Nat) (as rest : List AV) : Option RS := some (.inr (.inr (c, as, rest)))
def hc (c : ClassFile.Cond) (x y : Int32) : Bool := match c with
  | .eq => decide (x = y)
  | .ne => decide (¬ x = y)
  | .lt => decide (x < y)
  | .ge => decide (y ≤ x)
  | .gt => decide (y < x)
  | .le => decide (x ≤ y)
def jmp (pc : Nat) (o : Int) (L st : List AV) (A : AH) : Option RS := if 0 ≤ (pc : Int) + o then rg ((pc : Int) + o).toNat L st A else none
def brf (pc : Nat) (o : Int) (L st : List AV) (A : AH) : Option RS := if 0 ≤ (pc : Int) + o then rg (pc + 3) L st A else none
def okr (k : Nat) (x : Int32) : Bool := match mR k with
  | some .int => true
  | some .boolean => x == 0 || x == 1
  | _ => false
def okf (t : FieldType) (v : AV) : Bool := match t, v with
  | .int, .inl _ => true
  | .boolean, .inl x => x == 0 || x == 1
  | .object _, .inr (.inl _) => true
  | .array _, .inr (.inl _) => true
  | _, _ => false
def putf (A : AH) (r f : Nat) (v : AV) : AH := match v with
  | .inl x => sI A r f x
  | .inr (.inl o) => sR A r f o
  | .inr (.inr _) => A
/-- no long -/
def nlg : AV → Bool
  | .inr (.inr _) => false
  | _ => true
/-- what may lie below a call's arguments -/
def rs8 (r : List AV) : Bool := decide (r.length ≤ 4) || (decide (r.length ≤ 8) && r.all nlg)
/-- the methods that hold longs in their locals -/
def lgm (k : Nat) : Bool := k == 80 || k == 104 || k == 109
/-- what lies below the place i is no long -/
def nlb (L : List AV) (i : Nat) : Bool := match i with
  | 0 => true
  | j + 1 => match L[j]? with
    | some (.inr (.inr _)) => false
    | _ => true
/-- the length of an instruction -/
def il : Instr → Nat
  | .bipush _ => 2 | .sipush _ => 3 | .ldc _ => 2 | .ldc_w _ => 3 | .iload _ => 2 | .aload _ => 2 | .istore _ => 2 | .astore _ => 2 | .iinc _ _ => 3
  | .goto _ => 3 | .ifCond _ _ => 3 | .if_icmp _ _ => 3 | .ifnull _ => 3 | .getfield _ => 3 | .putfield _ => 3 | .invokestatic _ => 3 | .invokevirtual _ => 3 | .invokespecial _ => 3
  | .new _ => 3 | .newarray _ => 2 | .anewarray _ => 3 | .ldc2_w _ => 3 | .lload _ => 2 | .lstore _ => 2
  | _ => 1
def ilok (i : Instr) (len : Nat) : Bool := match i with
  | .tableswitch _ _ _ _ => true
  | i => len == il i
def b2 (st : List AV) (f : Int32 → Int32 → Int32) (pc : Nat) (L : List AV) (A : AH) : Option RS := match st with
  | .inl y :: .inl x :: r => rg (pc + 1) L (.inl (f x y) :: r) A
  | _ => none
def ldI (L : List AV) (i : Nat) (pc : Nat) (st : List AV) (A : AH) : Option RS := match L[i]? with
  | some (.inl x) => rg pc L (.inl x :: st) A
  | _ => none
def ldR (L : List AV) (i : Nat) (pc : Nat) (st : List AV) (A : AH) : Option RS := match L[i]? with
  | some (.inr (.inl (some x))) => rg pc L (.inr (.inl (some x)) :: st) A
  | _ => none
def stI (k : Nat) (L : List AV) (i : Nat) (pc : Nat) (st : List AV) (A : AH) : Option RS := match st with
  | .inl x :: r => if i < L.length ∧ (lgm k = false ∨ nlb L i = true) then rg pc (L.set i (.inl x)) r A else none
  | _ => none
def stR (k : Nat) (L : List AV) (i : Nat) (pc : Nat) (st : List AV) (A : AH) : Option RS := match st with
  | .inr (.inl (some x)) :: r => if i < L.length ∧ (lgm k = false ∨ nlb L i = true) then rg pc (L.set i (.inr (.inl (some x)))) r A else none
  | _ => none
def ldL (L : List AV) (i : Nat) (pc : Nat) (st : List AV) (A : AH) : Option RS := match L[i]? with
  | some (.inr (.inr x)) => rg pc L (.inr (.inr x) :: st) A
  | _ => none
def stL (k : Nat) (L : List AV) (i : Nat) (pc : Nat) (st : List AV) (A : AH) : Option RS := match st with
  | .inr (.inr x) :: r => if i + 1 < L.length ∧ lgm k = true ∧ nlb L i = true then rg pc ((L.set i (.inr (.inr x))).set (i + 1) (.inr (.inl none))) r A else none
  | _ => none
def gtf (k x pc : Nat) (L st : List AV) (A : AH) : Option RS := match xF.lookup (mO k, x), st with
  | some (c, f, _), .inr (.inl (some r)) :: rest => if (A.2.1 r).1 = c then rg (pc + 3) L (fv A c r f :: rest) A else none
  | _, _ => none
def ptf (k x pc : Nat) (L st : List AV) (A : AH) : Option RS := match xF.lookup (mO k, x), st with
  | some (c, f, _), v :: .inr (.inl (some r)) :: rest => if (A.2.1 r).1 = c ∧ okf (xt c f) v = true ∧ ((xT c f).2.2.2 = true → (mY k).name = "<init>" ∧ mO k = c) then rg (pc + 3) L rest (putf A r f v) else none
  | _, _ => none
def inb (i : Int32) (n : Nat) : Prop := 0 ≤ i ∧ i.toNatClampNeg < n
def alen (pc : Nat) (L st : List AV) (A : AH) : Option RS := match st with
  | .inr (.inl (some r)) :: rest => if (A.2.1 r).1 = 10 ∨ (A.2.1 r).1 = 11 ∨ (A.2.1 r).1 = 20 then rg (pc + 1) L (.inl (Int32.ofNat (A.2.1 r).2) :: rest) A else none
  | _ => none
def ald (t : Nat) (pc : Nat) (L st : List AV) (A : AH) : Option RS := match st with
  | .inl i :: .inr (.inl (some r)) :: rest => if ((A.2.1 r).1 = t ∨ (t = 10 ∧ (A.2.1 r).1 = 20)) ∧ 0 ≤ i ∧ i.toNatClampNeg < (A.2.1 r).2 then rg (pc + 1) L (.inl (A.2.2.1 r i.toNatClampNeg) :: rest) A else none
  | _ => none
def ast (t : Nat) (g : Int32 → Int32) (pc : Nat) (L st : List AV) (A : AH) : Option RS := match st with
  | .inl x :: .inl i :: .inr (.inl (some r)) :: rest => if (A.2.1 r).1 = t ∧ 0 ≤ i ∧ i.toNatClampNeg < (A.2.1 r).2 then rg (pc + 1) L rest (sI A r i.toNatClampNeg (g x)) else none
  | _ => none
def aldR (pc : Nat) (L st : List AV) (A : AH) : Option RS := match st with
  | .inl i :: .inr (.inl (some r)) :: rest => if (A.2.1 r).1 = 13 ∧ 0 ≤ i ∧ i.toNatClampNeg < (A.2.1 r).2 then rg (pc + 1) L (.inr (.inl (A.2.2.2 r i.toNatClampNeg)) :: rest) A else none
  | _ => none
def astR (pc : Nat) (L st : List AV) (A : AH) : Option RS := match st with
  | .inr (.inl (some v)) :: .inl i :: .inr (.inl (some r)) :: rest => if (A.2.1 r).1 = 13 ∧ (A.2.1 v).1 = 2 ∧ 0 ≤ i ∧ i.toNatClampNeg < (A.2.1 r).2 then rg (pc + 1) L rest (sR A r i.toNatClampNeg (some v)) else none
  | _ => none
def newO (k x pc : Nat) (L st : List AV) (A : AH) : Option RS := match xK.lookup (mO k, x) with
  | some (c, _) => if A.1.1 + 1 < SC then rg (pc + 3) L (.inr (.inl (some A.1.1)) :: st) (nw A (c, 0) (xN c)) else none
  | _ => none
def newP (t : Nat) (pc : Nat) (L st : List AV) (A : AH) : Option RS := match st with
  | .inl n :: rest => if 0 ≤ n ∧ n.toNatClampNeg ≤ 100000 ∧ A.1.1 + 1 < SC then rg (pc + 2) L (.inr (.inl (some A.1.1)) :: rest) (nw A (t, n.toNatClampNeg) n.toNatClampNeg) else none
  | _ => none
def newQ (k x pc : Nat) (L st : List AV) (A : AH) : Option RS := match xK.lookup (mO k, x), st with
  | some (2, _), .inl n :: rest => if 0 ≤ n ∧ n.toNatClampNeg ≤ 100000 ∧ A.1.1 + 1 < SC then rg (pc + 3) L (.inr (.inl (some A.1.1)) :: rest) (nw A (13, n.toNatClampNeg) n.toNatClampNeg) else none
  | _, _ => none
def cpy (pc : Nat) (L st : List AV) (A : AH) : Option RS := match st with
  | .inl n :: .inl dp :: .inr (.inl (some a)) :: .inl sp :: .inr (.inl (some a0)) :: rest => if rest.length ≤ 2 ∧ (A.2.1 a).1 = 10 ∧ (A.2.1 a0).1 = 10 ∧ 0 ≤ sp ∧ 0 ≤ dp ∧ 0 ≤ n ∧ sp.toNatClampNeg + n.toNatClampNeg ≤ (A.2.1 a0).2 ∧ dp.toNatClampNeg + n.toNatClampNeg ≤ (A.2.1 a).2 then rg (pc + 3) L rest (cpA A a0 a sp.toNatClampNeg dp.toNatClampNeg n.toNatClampNeg) else none
  | _ => none
def ivS (k x pc : Nat) (L st : List AV) (A : AH) : Option RS := match xI.lookup (mO k, x) with
  | some (0, c, _) => if mP c ≤ st.length ∧ rs8 (st.drop (mP c)) = true then rc c (st.take (mP c)).reverse (st.drop (mP c)) else none
  | some (1, c, _) => if mP c ≤ st.length ∧ rs8 (st.drop (mP c)) = true then rc c (st.take (mP c)).reverse (st.drop (mP c)) else none
  | some (6, _, _) => cpy pc L st A
  | _ => none
def ivV (k x : Nat) (st : List AV) (A : AH) : Option RS := match xI.lookup (mO k, x) with
  | some (2, c, _) => match st.drop (mP c) with
    | .inr (.inl (some b)) :: rest => if (A.2.1 b).1 = mO c ∧ rs8 rest = true then rc c (.inr (.inl (some b)) :: (st.take (mP c)).reverse) rest else none
    | _ => none
  | _ => none
def ivI (k x pc : Nat) (L st : List AV) (A : AH) : Option RS := match xI.lookup (mO k, x) with
  | some (3, c, _) => match st with
    | .inr (.inl (some b)) :: rest => if rs8 rest = true then rc c [.inr (.inl (some b))] rest else none
    | _ => none
  | some (4, c, _) => match st with
    | .inr (.inl (some b)) :: rest => if rs8 rest = true then rc c [.inr (.inl (some b))] rest else none
    | _ => none
  | some (5, _, _) => match st with
    | .inr (.inl (some _)) :: rest => if rest.length ≤ 2 then rg (pc + 3) L rest A else none
    | _ => none
  | _ => none
def tsw (pc : Nat) (d lo hi : Int) (offs : Array Int) (L st : List AV) (A : AH) : Option RS := match st with
  | .inl x :: r => if x.toInt < lo ∨ hi < x.toInt then jmp pc d L r A else match offs[(x.toInt - lo).toNat]? with
    | some o => jmp pc o L r A
    | none => none
  | _ => none
def nxd (k pc : Nat) (i : Instr) (L st : List AV) (A : AH) : Option RS := match i with
  | .iconst n => rg (pc + 1) L (.inl (Int32.ofInt n) :: st) A
  | .bipush n => rg (pc + 2) L (.inl (Int8.ofInt n).toInt32 :: st) A
  | .sipush n => rg (pc + 3) L (.inl (Int16.ofInt n).toInt32 :: st) A
  | .ldc x => match xV.lookup (mO k, x) with
    | some v => rg (pc + 2) L (.inl v.1 :: st) A
    | none => none
  | .ldc_w x => match xV.lookup (mO k, x) with
    | some v => rg (pc + 3) L (.inl v.1 :: st) A
    | none => none
  | .iload_n n => ldI L n (pc + 1) st A
  | .iload n => ldI L n (pc + 2) st A
  | .aload_n n => ldR L n (pc + 1) st A
  | .aload n => ldR L n (pc + 2) st A
  | .istore_n n => stI k L n (pc + 1) st A
  | .istore n => stI k L n (pc + 2) st A
  | .astore_n n => stR k L n (pc + 1) st A
  | .astore n => stR k L n (pc + 2) st A
  | .lload_n n => ldL L n (pc + 1) st A
  | .lload n => ldL L n (pc + 2) st A
  | .lstore_n n => stL k L n (pc + 1) st A
  | .lstore n => stL k L n (pc + 2) st A
  | .ldc2_w x => match xVL.lookup (mO k, x) with
    | some v => rg (pc + 3) L (.inr (.inr v.1) :: st) A
    | none => none
  | .lconst n => rg (pc + 1) L (.inr (.inr (Int64.ofNat (n : Nat))) :: st) A
  | .i2l => match st with
    | .inl x :: r => rg (pc + 1) L (.inr (.inr x.toInt64) :: r) A
    | _ => none
  | .ladd => match st with
    | .inr (.inr y) :: .inr (.inr x) :: r => rg (pc + 1) L (.inr (.inr (x + y)) :: r) A
    | _ => none
  | .lmul => match st with
    | .inr (.inr y) :: .inr (.inr x) :: r => rg (pc + 1) L (.inr (.inr (x * y)) :: r) A
    | _ => none
  | .lcmp => match st with
    | .inr (.inr y) :: .inr (.inr x) :: r => rg (pc + 1) L (.inl (lg_cmp x y) :: r) A
    | _ => none
  | .iinc n c => match L[n]? with
    | some (.inl x) => if lgm k = false ∨ nlb L n = true then rg (pc + 3) (L.set n (.inl (x + Int32.ofInt c))) st A else none
    | _ => none
  | .iadd => b2 st (fun x y => x + y) pc L A
  | .isub => b2 st (fun x y => x - y) pc L A
  | .imul => b2 st (fun x y => x * y) pc L A
  | .iand => b2 st (fun x y => x &&& y) pc L A
  | .ior => b2 st (fun x y => x ||| y) pc L A
  | .ixor => b2 st (fun x y => x ^^^ y) pc L A
  | .ishl => b2 st (fun x y => x <<< (y &&& 31)) pc L A
  | .ishr => b2 st (fun x y => x >>> (y &&& 31)) pc L A
  | .iushr => b2 st (fun x y => (x.toUInt32 >>> (y.toUInt32 &&& Int32.toUInt32 31)).toInt32) pc L A
  | .idiv => match st with
    | .inl y :: .inl x :: r => if y = 0 then none else rg (pc + 1) L (.inl (x / y) :: r) A
    | _ => none
  | .irem => match st with
    | .inl y :: .inl x :: r => if y = 0 then none else rg (pc + 1) L (.inl (x - x / y * y) :: r) A
    | _ => none
  | .ineg => match st with
    | .inl x :: r => rg (pc + 1) L (.inl (-x) :: r) A
    | _ => none
  | .i2c => match st with
    | .inl x :: r => rg (pc + 1) L (.inl (x.toUInt32 % 65536).toInt32 :: r) A
    | _ => none
  | .dup => match st with
    | v :: r => if nlg v = true then rg (pc + 1) L (v :: v :: r) A else none
    | _ => none
  | .pop => match st with
    | v :: r => if nlg v = true then rg (pc + 1) L r A else none
    | _ => none
  | .goto o => jmp pc o L st A
  | .ifCond c o => match st with
    | .inl x :: r => if hc c x 0 = true then jmp pc o L r A else brf pc o L r A
    | _ => none
  | .if_icmp c o => match st with
    | .inl y :: .inl x :: r => if hc c x y = true then jmp pc o L r A else brf pc o L r A
    | _ => none
  | .ifnull o => match st with
    | .inr (.inl none) :: r => jmp pc o L r A
    | .inr (.inl (some _)) :: r => rg (pc + 3) L r A
    | _ => none
  | .tableswitch d lo hi offs => tsw pc d lo hi offs L st A
  | .getfield x => gtf k x pc L st A
  | .putfield x => ptf k x pc L st A
  | .arraylength => alen pc L st A
  | .iaload => ald 10 pc L st A
  | .caload => ald 11 pc L st A
  | .iastore => ast 10 (fun x => x) pc L st A
  | .castore => ast 11 (vp_nar .char) pc L st A
  | .aaload => aldR pc L st A
  | .aastore => astR pc L st A
  | .new x => newO k x pc L st A
  | .newarray .int => newP 10 pc L st A
  | .newarray .char => newP 11 pc L st A
  | .anewarray x => newQ k x pc L st A
  | .invokestatic x => ivS k x pc L st A
  | .invokevirtual x => ivV k x st A
  | .invokespecial x => ivI k x pc L st A
  | .ireturn => match st with
    | [.inl x] => if okr k x = true then rr (some (.inl x)) A else none
    | _ => none
  | .lreturn => match st with
    | [.inr (.inr x)] => if mR k = some .long then rr (some (.inr (.inr x))) A else none
    | _ => none
  | .return_ => match st with
    | [] => if mR k = none then rr none A else none
    | _ => none
  | _ => none
/-- the locals with which a method begins -/
def ent (k : Nat) (as : List AV) : List AV := as ++ List.replicate (mL k - as.length) (.inr (.inl none))
def zrun : Nat → Nat → Nat → Nat → List AV → List AV → AH → Option (Option AV × AH)
  | 0, _, _, _, _, _, _ => none
  | n + 1, d, k, pc, L, st, A => match decode (mB k) pc with
    | .error _ => none
    | .ok (i, len) => if ilok i len = true then match nxd k pc i L st A with
      | none => none
      | some (.inl (pc1, L1, st1, A1)) => if A.1.1 ≤ A1.1.1 ∧ A.1.2 ≤ A1.1.2 then zrun n d k pc1 L1 st1 A1 else none
      | some (.inr (.inl (v, A1))) => some (v, A1)
      | some (.inr (.inr (c, as, rest))) => match d with
        | 0 => none
        | d + 1 => if as.length ≤ mL c ∧ as.all nlg = true then match zrun n d c 0 (ent c as) [] A with
          | none => none
          | some (v, A1) => zrun n (d + 1) k (pc + 3) L (v.toList ++ rest) A1
          else none
      else none
theorem zrun_mono : ∀ (n d k pc : Nat) (L st : List AV) (A : AH) (r : Option AV × AH), zrun n d k pc L st A = some r → zrun (n + 1) d k pc L st A = some r := by
  intro n
  induction n with
  | zero => intro d k pc L st A r h; simp [zrun] at h
  | succ n ih =>
    intro d k pc L st A r h
    rw [zrun] at h ⊢
    cases hd : decode (mB k) pc with
    | error e => rw [hd] at h; simp at h
    | ok q =>
      obtain ⟨i, len⟩ := q
      rw [hd] at h
      dsimp only at h ⊢
      split at h
      next hl =>
        rw [if_pos hl]
        cases hn : nxd k pc i L st A with
        | none => rw [hn] at h; simp at h
        | some x =>
          rw [hn] at h
          rcases x with ⟨pc1, L1, st1, A1⟩ | ⟨v, A1⟩ | ⟨c, as, rest⟩
          · dsimp only at h ⊢
            split at h
            next hA => rw [if_pos hA]; exact ih _ _ _ _ _ _ _ h
            next => simp at h
          · exact h
          · cases d with
            | zero => simp at h
            | succ d =>
              dsimp only at h ⊢
              split at h
              next ha =>
                rw [if_pos ha]
                cases hc : zrun n d c 0 (ent c as) [] A with
                | none => rw [hc] at h; simp at h
                | some y =>
                  rw [hc] at h
                  rw [ih _ _ _ _ _ _ _ hc]
                  exact ih _ _ _ _ _ _ _ h
              next => simp at h
      next => simp at h
theorem zrun_le {n n' d k pc : Nat} {L st : List AV} {A : AH} {r : Option AV × AH} (hn : n ≤ n') (h : zrun n d k pc L st A = some r) : zrun n' d k pc L st A = some r := by
  induction hn with
  | refl => exact h
  | step _ ih => exact zrun_mono _ _ _ _ _ _ _ _ ih
/-- what a run comes to, however long it takes -/
noncomputable def zsem (d k pc : Nat) (L st : List AV) (A : AH) : Option (Option AV × AH) :=
  @dite _ (∃ n, ∃ r, zrun n d k pc L st A = some r) (Classical.propDecidable _) (fun h => some (Classical.choose (Classical.choose_spec h))) (fun _ => none)
theorem zsem_of {n d k pc : Nat} {L st : List AV} {A : AH} {r : Option AV × AH} (h : zrun n d k pc L st A = some r) : zsem d k pc L st A = some r := by
  have hx : ∃ n, ∃ r, zrun n d k pc L st A = some r := ⟨n, r, h⟩
  unfold zsem
  rw [dif_pos hx]
  have h2 := Classical.choose_spec (Classical.choose_spec hx)
  have h3 := zrun_le (Nat.le_max_left n (Classical.choose hx)) h
  have h4 := zrun_le (Nat.le_max_right n (Classical.choose hx)) h2
  rw [h3] at h4
  exact h4.symm
theorem zsem_ex {d k pc : Nat} {L st : List AV} {A : AH} {r : Option AV × AH} (h : zsem d k pc L st A = some r) : ∃ n, zrun n d k pc L st A = some r := by
  unfold zsem at h
  rcases Classical.em (∃ n, ∃ r, zrun n d k pc L st A = some r) with hx | hx
  · rw [dif_pos hx] at h
    cases h
    exact ⟨_, Classical.choose_spec (Classical.choose_spec hx)⟩
  · rw [dif_neg hx] at h
    cases h
theorem zsem_no {d k pc : Nat} {L st : List AV} {A : AH} (h : ∀ n, zrun n d k pc L st A = none) : zsem d k pc L st A = none := by
  cases hz : zsem d k pc L st A with
  | none => rfl
  | some r =>
    obtain ⟨n, hn⟩ := zsem_ex hz
    rw [h n] at hn
    cases hn
/-- a step that goes on -/
theorem zs_go {d k pc pc1 len : Nat} {i : Instr} {L L1 st st1 : List AV} {A A1 : AH} (hd : decode (mB k) pc = .ok (i, len)) (hl : ilok i len = true) (hn : nxd k pc i L st A = some (.inl (pc1, L1, st1, A1))) (hA : A.1.1 ≤ A1.1.1 ∧ A.1.2 ≤ A1.1.2) : zsem d k pc L st A = zsem d k pc1 L1 st1 A1 := by
  have e : ∀ n, zrun (n + 1) d k pc L st A = zrun n d k pc1 L1 st1 A1 := by
    intro n
    rw [zrun, hd]
    dsimp only
    rw [if_pos hl, hn]
    dsimp only
    rw [if_pos hA]
  cases h : zsem d k pc1 L1 st1 A1 with
  | some r =>
    obtain ⟨n, hn2⟩ := zsem_ex h
    exact zsem_of (n := n + 1) (by rw [e]; exact hn2)
  | none =>
    apply zsem_no
    intro n
    cases n with
    | zero => rfl
    | succ n =>
      rw [e]
      cases h2 : zrun n d k pc1 L1 st1 A1 with
      | none => rfl
      | some r => rw [zsem_of h2] at h; cases h
theorem zs_no {d k pc len : Nat} {i : Instr} {L st : List AV} {A : AH} (hd : decode (mB k) pc = .ok (i, len)) (hl : ilok i len = true) (hn : nxd k pc i L st A = none) : zsem d k pc L st A = none := by
  apply zsem_no
  intro n
  cases n with
  | zero => rfl
  | succ n =>
    rw [zrun, hd]
    dsimp only
    rw [if_pos hl, hn]
theorem zs_ret {d k pc len : Nat} {i : Instr} {L st : List AV} {A A1 : AH} {v : Option AV} (hd : decode (mB k) pc = .ok (i, len)) (hl : ilok i len = true) (hn : nxd k pc i L st A = some (.inr (.inl (v, A1)))) : zsem d k pc L st A = some (v, A1) := by
  apply zsem_of (n := 1)
  rw [zrun, hd]
  dsimp only
  rw [if_pos hl, hn]
theorem zs_call {d k pc len c : Nat} {i : Instr} {L st as rest : List AV} {A : AH} (hd : decode (mB k) pc = .ok (i, len)) (hl : ilok i len = true) (hn : nxd k pc i L st A = some (.inr (.inr (c, as, rest)))) (ha : as.length ≤ mL c ∧ as.all nlg = true) :
    zsem (d + 1) k pc L st A = (zsem d c 0 (ent c as) [] A).bind (fun q => zsem (d + 1) k (pc + 3) L (q.1.toList ++ rest) q.2) := by
  have e : ∀ n, zrun (n + 1) (d + 1) k pc L st A = match zrun n d c 0 (ent c as) [] A with
      | none => none
      | some (v, A1) => zrun n (d + 1) k (pc + 3) L (v.toList ++ rest) A1 := by
    intro n
    rw [zrun, hd]
    dsimp only
    rw [if_pos hl, hn]
    dsimp only
    rw [if_pos ha]
  cases h : zsem d c 0 (ent c as) [] A with
  | none =>
    apply zsem_no
    intro n
    cases n with
    | zero => rfl
    | succ n =>
      rw [e]
      cases h2 : zrun n d c 0 (ent c as) [] A with
      | none => rfl
      | some r => rw [zsem_of h2] at h; cases h
  | some q =>
    obtain ⟨v, A1⟩ := q
    obtain ⟨n, hn1⟩ := zsem_ex h
    show _ = zsem (d + 1) k (pc + 3) L (v.toList ++ rest) A1
    cases h2 : zsem (d + 1) k (pc + 3) L (v.toList ++ rest) A1 with
    | some r =>
      obtain ⟨n2, hn2⟩ := zsem_ex h2
      apply zsem_of (n := max n n2 + 1)
      rw [e, zrun_le (Nat.le_max_left n n2) hn1]
      exact zrun_le (Nat.le_max_right n n2) hn2
    | none =>
      apply zsem_no
      intro m
      cases m with
      | zero => rfl
      | succ m =>
        rw [e]
        cases h3 : zrun m d c 0 (ent c as) [] A with
        | none => rfl
        | some r =>
          have h4 := zsem_of h3
          rw [h] at h4
          cases h4
          dsimp only
          cases h5 : zrun m (d + 1) k (pc + 3) L (v.toList ++ rest) A1 with
          | none => rfl
          | some r => rw [zsem_of h5] at h2; cases h2
theorem nx_ret {k pc : Nat} {i : Instr} {L st : List AV} {A A1 : AH} {v : Option AV} (h : nxd k pc i L st A = some (.inr (.inl (v, A1)))) : A1 = A ∧ ((i = .ireturn ∧ ∃ x, st = [.inl x] ∧ v = some (.inl x) ∧ okr k x = true) ∨ (i = .return_ ∧ st = [] ∧ v = none ∧ mR k = none) ∨ (i = .lreturn ∧ ∃ x, st = [.inr (.inr x)] ∧ v = some (.inr (.inr x)) ∧ mR k = some .long)) := by
  cases i
  case ireturn =>
    dsimp only [nxd] at h
    split at h
    · split at h
      next hk => cases h; exact ⟨rfl, Or.inl ⟨rfl, _, rfl, rfl, hk⟩⟩
      next => cases h
    · cases h
  case return_ =>
    dsimp only [nxd] at h
    split at h
    · split at h
      next hk => cases h; exact ⟨rfl, Or.inr (Or.inl ⟨rfl, rfl, rfl, hk⟩)⟩
      next => cases h
    · cases h
  case lreturn =>
    dsimp only [nxd] at h
    split at h
    · split at h
      next hk => cases h; exact ⟨rfl, Or.inr (Or.inr ⟨rfl, _, rfl, rfl, hk⟩)⟩
      next => cases h
    · cases h
  case newarray t =>
    exfalso
    cases t <;> dsimp only [nxd, newP, rg] at h <;> first | (cases h; done) | (repeat' (split at h)) <;> cases h
  all_goals exfalso
  all_goals dsimp only [nxd] at h
  all_goals first | (cases h; done) | skip
  all_goals dsimp only [rg, rr, rc, jmp, brf, b2, ldI, ldR, stI, stR, ldL, stL, gtf, ptf, alen, ald, ast, aldR, astR, newO, newP, newQ, ivS, ivV, ivI, cpy, tsw] at h
  all_goals (repeat' (split at h)) <;> cases h
theorem zrun_sz : ∀ (n d k pc : Nat) (L st : List AV) (A : AH) (v : Option AV) (A' : AH), zrun n d k pc L st A = some (v, A') → A.1.1 ≤ A'.1.1 ∧ A.1.2 ≤ A'.1.2 := by
  intro n
  induction n with
  | zero => intro d k pc L st A v A' h; simp [zrun] at h
  | succ n ih =>
    intro d k pc L st A v A' h
    rw [zrun] at h
    cases hd : decode (mB k) pc with
    | error e => rw [hd] at h; simp at h
    | ok q =>
      obtain ⟨i, len⟩ := q
      rw [hd] at h
      dsimp only at h
      split at h
      next hl =>
        cases hn : nxd k pc i L st A with
        | none => rw [hn] at h; simp at h
        | some x =>
          rw [hn] at h
          rcases x with ⟨pc1, L1, st1, A1⟩ | ⟨w, A1⟩ | ⟨c, as, rest⟩
          · dsimp only at h
            split at h
            next hA =>
              have := ih _ _ _ _ _ _ _ _ h
              exact ⟨Nat.le_trans hA.1 this.1, Nat.le_trans hA.2 this.2⟩
            next => simp at h
          · dsimp only at h
            cases h
            have := (nx_ret hn).1
            subst this
            exact ⟨Nat.le_refl _, Nat.le_refl _⟩
          · cases d with
            | zero => simp at h
            | succ d =>
              dsimp only at h
              split at h
              next ha =>
                cases hc : zrun n d c 0 (ent c as) [] A with
                | none => rw [hc] at h; simp at h
                | some y =>
                  obtain ⟨w, A1⟩ := y
                  rw [hc] at h
                  dsimp only at h
                  have h1 := ih _ _ _ _ _ _ _ _ hc
                  have h2 := ih _ _ _ _ _ _ _ _ h
                  exact ⟨Nat.le_trans h1.1 h2.1, Nat.le_trans h1.2 h2.2⟩
              next => simp at h
      next => simp at h
