section STEP
variable {dC : Nat → ClassId} {dI : Nat → Nat → Nat} {dA : Nat → ClassId} {B b Ls : Nat} {xs : Nat → Int32} {k : Nat}
variable {p : Program} {l : Launch} {e : Env} {R : Room} {s : State} {m : MethodId} {args : Array Value} {below : List Frame} {meth : Method} {c : Code} {Q : State → Prop}
variable {pc : Nat} {L st : List AV} {A : AH} {H : Heap} {locs : List Loc} {arr : Array Slot} {cells slots : Nat}
theorem s_newP (cx : Cx dC dI dA B b Ls xs k p s m args meth c) (hH : HP dC dI dA B b Ls xs A H) (hF : fr B s H locs) {t : Nat} {atype : ArrayType} {n : Int32} {rest : List AV} (ht3 : t < 3) (hty : newarray.typeOf atype = aty t) (hw : Cond.arrayClass (aty t) ∈ gW) (hdf : defaultValue (aty t) = .int 0) (hcb : componentBytes (aty t) ≤ 4)
    (hd : decode (mB k) pc = .ok (.newarray atype, 2)) (h0 : 0 ≤ n) (h1 : n.toNatClampNeg ≤ 100000) (hn : A.1.1 + 1 < SC) (hc1 : cells + 1 ≤ R.cells) (hs1 : slots + n.toNatClampNeg ≤ R.slots)
    (kk : ∀ H1, HP dC dI dA B b Ls xs (nw A (10 + t, n.toNatClampNeg) n.toNatClampNeg) H1 → fr B s H1 locs → W p l e R s m args below meth c H1 locs (cells + 1) (slots + n.toNatClampNeg) Q (F0 m (pc + 2) arr ((.inr (.inl (some A.1.1)) :: rest : List AV).map (cvv B b)))) : W p l e R s m args below meth c H locs cells slots Q (F0 m pc arr ((.inl n :: rest : List AV).map (cvv B b))) := by
  obtain ⟨hx, hb, hr, hml, hown, hlocks, hnm, hts, hK, hX, hbB⟩ := cx
  have hbytes : n.toNatClampNeg * componentBytes (aty t) ≤ 536870912 := Nat.le_trans (Nat.mul_le_mul h1 hcb) (Nat.le_of_ble_eq_true rfl)
  refine va_newaK hx hb (atype := atype) (by rw [hty]; exact hts _ hw) rfl hd rfl (Int32.not_lt.mpr h0) rfl (by rw [hty]; exact hbytes) hc1 hs1 rfl fun H1 cA e1 z1 o1 hAr hNm => ?_
  rw [hty] at e1 hNm
  have hcA : cA = dA t := Option.some.inj (hNm.symm.trans (hK.2.1 t (by omega)).2)
  subst hcA
  have hsz : H.size = B + A.1.1 := hH.1
  have hk := kk H1 (hH.new (by show 10 + t < 14; omega) hn z1 o1 ⟨fun q => ?_, fun t2 ht2 q => ?_, fun q => ?_⟩) (hF.new z1 o1)
  · have ev : (Value.ref (B + A.1.1)) = cvv B b (.inr (.inl (some A.1.1))) := by show _ = Value.ref _; rw [if_neg (by omega)]
    show W p l e R s m args below meth c H1 locs (cells + 1) (slots + n.toNatClampNeg) Q (F0 m (pc + 2) arr (Value.ref H.size :: rest.map (cvv B b)))
    rw [hsz, ev]
    exact hk
  · simp [nw] at q; omega
  · simp only [nw, if_true] at q
    have : t2 = t := by omega
    subst this
    rw [← hsz, e1, hdf]
    simp [nw]
  · simp only [nw, if_true] at q
    omega
theorem s_newQ (cx : Cx dC dI dA B b Ls xs k p s m args meth c) (hH : HP dC dI dA B b Ls xs A H) (hF : fr B s H locs) {x pl : Nat} {n : Int32} {rest : List AV}
    (hd : decode (mB k) pc = .ok (.anewarray x, 3)) (hlk : xK.lookup (mO k, x) = some (2, pl)) (h0 : 0 ≤ n) (h1 : n.toNatClampNeg ≤ 100000) (hn : A.1.1 + 1 < SC) (hc1 : cells + 1 ≤ R.cells) (hs1 : slots + n.toNatClampNeg ≤ R.slots)
    (kk : ∀ H1, HP dC dI dA B b Ls xs (nw A (13, n.toNatClampNeg) n.toNatClampNeg) H1 → fr B s H1 locs → W p l e R s m args below meth c H1 locs (cells + 1) (slots + n.toNatClampNeg) Q (F0 m (pc + 3) arr ((.inr (.inl (some A.1.1)) :: rest : List AV).map (cvv B b)))) : W p l e R s m args below meth c H locs cells slots Q (F0 m pc arr ((.inl n :: rest : List AV).map (cvv B b))) := by
  obtain ⟨hx, hb, hr, hml, hown, hlocks, hnm, hts, hK, hX, hbB⟩ := cx
  obtain ⟨f1, f2⟩ := xK_get hlk
  have hbytes : n.toNatClampNeg * 4 ≤ 536870912 := Nat.le_trans (Nat.mul_le_mul h1 (Nat.le_refl 4)) (Nat.le_of_ble_eq_true rfl)
  refine W.anew (C := "BusRack$Rack") hx hb hown (hts _ f1) (va_AO.use hK.2.2.2.1) rfl hd rfl (Int32.not_lt.mpr h0) hbytes hc1 hs1 fun cA kA comp g1 g2 g3 g4 => ?_
  have hcA : cA = dA 3 := Option.some.inj (g1.symm.trans (hK.2.1 3 (by omega)).2)
  subst hcA
  generalize hH1 : H.push ({ cls := dA 3, slots := Array.replicate n.toNatClampNeg .null, vm := .none } : Cell) = H1
  have z1 : H1.size = H.size + 1 := by rw [← hH1, Array.size_push]
  have e1 : H1[H.size]? = some (arrV (dA 3) n.toNatClampNeg (fun _ => .null)) := by rw [← hH1, Array.getElem?_push_size, ← arrV_new]
  have o1 : ∀ q : Nat, q < H.size → H1[q]? = H[q]? := fun q hq => by rw [← hH1, Array.getElem?_push, if_neg (Nat.ne_of_lt hq)]
  have hsz : H.size = B + A.1.1 := hH.1
  have hk := kk H1 (hH.new (by show 13 < 14; omega) hn z1 o1 ⟨fun q => ?_, fun t2 ht2 q => ?_, fun q => ?_⟩) (hF.new z1 o1)
  · have ev : (Value.ref (B + A.1.1)) = cvv B b (.inr (.inl (some A.1.1))) := by show _ = Value.ref _; rw [if_neg (by have := hH.2.1; omega)]
    show W p l e R s m args below meth c H1 locs (cells + 1) (slots + n.toNatClampNeg) Q (F0 m (pc + 3) arr (Value.ref H.size :: rest.map (cvv B b)))
    rw [hsz, ev]
    exact hk
  · simp [nw] at q
  · simp only [nw, if_true] at q
    omega
  · rw [← hsz, e1]
    simp [nw, cvv]
theorem cat_sum (B b : Nat) (r : List AV) : ((r.map (cvv B b)).map (fun v => v.category)).sum ≤ 2 * r.length := by
  induction r with
  | nil => exact Nat.le_refl 0
  | cons x r ih =>
    have := cvv_cat2 B b x
    rw [List.map_cons, List.map_cons, List.sum_cons, List.length_cons]
    omega
theorem s_cpy (cx : Cx dC dI dA B b Ls xs k p s m args meth c) (hH : HP dC dI dA B b Ls xs A H) (hF : fr B s H locs) (hLs : arr.size = mL k) {x pl pl2 a0 a : Nat} {sp dp n : Int32} {rest : List AV} (hR : 1 ≤ R.frames ∧ 40 ≤ R.locals)
    (hd : decode (mB k) pc = .ok (.invokestatic x, 3)) (hlk : xI.lookup (mO k, x) = some (6, pl, pl2)) (hrest : rest.length ≤ 2) (ha : (A.2.1 a).1 = 10) (ha0 : (A.2.1 a0).1 = 10) (h1 : 0 ≤ sp) (h2 : 0 ≤ dp) (h3 : 0 ≤ n) (h4 : sp.toNatClampNeg + n.toNatClampNeg ≤ (A.2.1 a0).2) (h5 : dp.toNatClampNeg + n.toNatClampNeg ≤ (A.2.1 a).2)
    (kk : ∀ H1 locs1, HP dC dI dA B b Ls xs (cpA A a0 a sp.toNatClampNeg dp.toNatClampNeg n.toNatClampNeg) H1 → fr B s H1 locs1 → W p l e R s m args below meth c H1 locs1 cells slots Q (F0 m (pc + 3) arr (rest.map (cvv B b)))) : W p l e R s m args below meth c H locs cells slots Q (F0 m pc arr ((.inl n :: .inl dp :: .inr (.inl (some a)) :: .inl sp :: .inr (.inl (some a0)) :: rest : List AV).map (cvv B b))) := by
  obtain ⟨hx, hb, hr, hml, hown, hlocks, hnm, hts, hK, hX, hbB⟩ := cx
  have hSC := hH.2.1
  have han := hH.2.2.1 a (by omega)
  have ha0n := hH.2.2.1 a0 (by omega)
  obtain ⟨-, q1, -⟩ := hH.2.2.2.1 a han
  have hc1 := q1 0 (by omega) ha
  obtain ⟨-, q0, -⟩ := hH.2.2.2.1 a0 ha0n
  have hc0 := q0 0 (by omega) ha0
  have nn : ∀ z : Int32, 0 ≤ z → z.toInt = (z.toNatClampNeg : Int) := by
    intro z hz
    have hz0 : (0 : Int) ≤ z.toInt := by simpa using Int32.le_iff_toInt_le.mp hz
    show z.toInt = ((z.toInt.toNat : Nat) : Int)
    omega
  have hsum : ((rest.map (cvv B b)).map (fun v => v.category)).sum ≤ 4 := Nat.le_trans (cat_sum B b rest) (by omega)
  show W p l e R s m args below meth c H locs cells slots Q (F0 m pc arr (.int n :: .int dp :: (Value.ref (if a = SC then b else B + a)) :: .int sp :: (Value.ref (if a0 = SC then b else B + a0)) :: rest.map (cvv B b)))
  rw [if_neg (show ¬ a = SC by omega), if_neg (show ¬ a0 = SC by omega)]
  intro T hT X
  obtain ⟨-, k0, hk0, cm0, hkk0⟩ := (hK.2.1 0 (by omega)).1 (A.2.1 a0).2 (fun j => .int (A.2.2.1 a0 j))
  obtain ⟨-, k1, hk1, cm1, hkk1⟩ := (hK.2.1 0 (by omega)).1 (A.2.1 a).2 (fun j => .int (A.2.2.1 a j))
  obtain ⟨vm', X', step⟩ := X.arraycopy hx hown (hts _ (xI_6 hlk)) (hts _ (gW_of xa_nat xa_good)) (hts _ xa_stat) (hts _ xa_ini) (src := B + a0) (dst := B + a) (cs := arrV (dA 0) (A.2.1 a0).2 (fun j => .int (A.2.2.1 a0 j))) (cd := arrV (dA 0) (A.2.1 a).2 (fun j => .int (A.2.2.1 a j))) (srcPos := sp) (destPos := dp) (n := n) (by rw [hT]; exact hc0) (by rw [hT]; exact hc1)
    (fun _ h => by cases h) (fun _ h => by cases h) (fun h => by cases h) (fun h => by cases h) hk0 hk1 hkk0 hkk1 (by simp [aty, refKind]) (Int32.not_lt.mpr h1) (Int32.not_lt.mpr h2) (Int32.not_lt.mpr h3)
    (by rw [nn sp h1, nn n h3, arrV_size]; omega)
    (by rw [nn dp h2, nn n h3, arrV_size]; omega)
    (fun vm₁ _ i hi => by
      have e : (arrV (dA 0) (A.2.1 a0).2 (fun j => .int (A.2.2.1 a0 j))).slots.getD (sp.toNatClampNeg + i) .null = .int (A.2.2.1 a0 (sp.toNatClampNeg + i)) := by
        rw [Array.getD_eq_getD_getElem?, arrV_read _ _ (by omega)]
        rfl
      refine ⟨?_, ?_⟩
      · rw [e]
        exact rfl
      · rw [e]
        exact trivial)
    (g := F0 m pc arr (.int n :: .int dp :: .ref (B + a) :: .int sp :: .ref (B + a0) :: rest.map (cvv B b))) rfl (by show arr.size = _; rw [hml, hLs]) (rest := rest.map (cvv B b)) rfl (by rw [hb]; exact hd) hR.1 (by
      show 2 * 0 + _ + _ ≤ _
      have : nativeFrameWords "java/lang/System" "arraycopy" 5 + 11 ≤ 30 := by decide +kernel
      omega)
  have e1 : copied (arrV (dA 0) (A.2.1 a0).2 (fun j => .int (A.2.2.1 a0 j))) (arrV (dA 0) (A.2.1 a).2 (fun j => .int (A.2.2.1 a j))) sp dp n = arrV (dA 0) (A.2.1 a).2 (fun j => .int (va_cpy (A.2.2.1 a0) (A.2.2.1 a) sp.toNatClampNeg dp.toNatClampNeg n.toNatClampNeg j)) := va_copied (fun z => .int z) (dA 0) (dA 0) (A.2.2.1 a0) (A.2.2.1 a) h4
  rw [e1] at X' step
  generalize hcell : arrV (dA 0) (A.2.1 a).2 (fun j => .int (va_cpy (A.2.2.1 a0) (A.2.2.1 a) sp.toNatClampNeg dp.toNatClampNeg n.toNatClampNeg j)) = cell at X' step
  have hl : B + a < H.size := (Array.getElem?_eq_some_iff.mp hc1).1
  have hheap : ((T.setVm vm').setCell (B + a) cell).heap = H.setIfInBounds (B + a) cell := by rw [← hT]; rfl
  have oq : ∀ q : Nat, q ≠ B + a → (H.setIfInBounds (B + a) cell)[q]? = H[q]? := fun q hq => by simp [Array.getElem?_setIfInBounds, Ne.symm hq]
  have eq : (H.setIfInBounds (B + a) cell)[B + a]? = some cell := by simp [Array.getElem?_setIfInBounds, hl]
  have hP1 : HP dC dI dA B b Ls xs (cpA A a0 a sp.toNatClampNeg dp.toNatClampNeg n.toNatClampNeg) (H.setIfInBounds (B + a) cell) := by
    refine hH.set rfl rfl han (fun k hk => by funext j; simp [cpA, hk]) (fun k hk => rfl) (by simp) oq ⟨fun q => ?_, fun t2 ht2 q => ?_, fun q => ?_⟩
    · change (A.2.1 a).1 < 5 at q; omega
    · change (A.2.1 a).1 = 10 + t2 at q
      have : t2 = 0 := by omega
      subst this
      rw [eq, ← hcell]
      show some (arrV _ (A.2.1 a).2 _) = some (arrV _ (A.2.1 a).2 _)
      congr 2
      funext j
      simp [cpA]
    · change (A.2.1 a).1 = 13 at q; omega
  obtain ⟨t, a1, b1⟩ := kk (H.setIfInBounds (B + a) cell) _ hP1 ⟨by simp; exact hF.1, hF.2.1, fun q hq => (oq q (by omega)).trans (hF.2.2.1 q hq), fun q hq => by
      rcases List.mem_append.mp hq with h | h
      · exact hF.2.2.2 q h
      · obtain ⟨z, -, hz⟩ := List.mem_map.mp h
        rw [← hz]
        exact Nat.le_add_right _ _⟩ _ hheap X'
  exact ⟨t, step t a1, b1⟩
theorem jmp_inv {o : Int} {pc1 : Nat} {L1 st1 : List AV} {A1 : AH} (h : jmp pc o L st A = some (.inl (pc1, L1, st1, A1))) : (pc : Int) + o = (pc1 : Int) ∧ L1 = L ∧ st1 = st ∧ A1 = A := by
  unfold jmp rg at h
  split at h
  next h0 => cases h; exact ⟨(Int.toNat_of_nonneg h0).symm, rfl, rfl, rfl⟩
  next => cases h
theorem brf_inv {o : Int} {pc1 : Nat} {L1 st1 : List AV} {A1 : AH} (h : brf pc o L st A = some (.inl (pc1, L1, st1, A1))) : (pc : Int) + o = ((((pc : Int) + o).toNat : Nat) : Int) ∧ pc1 = pc + 3 ∧ L1 = L ∧ st1 = st ∧ A1 = A := by
  unfold brf rg at h
  split at h
  next h0 => cases h; exact ⟨(Int.toNat_of_nonneg h0).symm, rfl, rfl, rfl, rfl⟩
  next => cases h
theorem newP_inv {t : Nat} {r : RS} (h : newP t pc L st A = some r) : ∃ (n : Int32) (rest : List AV), st = .inl n :: rest ∧ (0 ≤ n ∧ n.toNatClampNeg ≤ 100000 ∧ A.1.1 + 1 < SC) ∧ r = .inl (pc + 2, L, .inr (.inl (some A.1.1)) :: rest, nw A (t, n.toNatClampNeg) n.toNatClampNeg) := by
  unfold newP rg at h
  split at h
  · split at h
    next ht => cases h; exact ⟨_, _, rfl, ht, rfl⟩
    next => cases h
  · cases h
theorem il_1 {i : Instr} {len : Nat} (hl : ilok i len = true) (h : ∀ d lo hi offs, i ≠ .tableswitch d lo hi offs) : len = il i := by
  unfold ilok at hl
  split at hl
  next => exact absurd rfl (h _ _ _ _)
  next => exact eq_of_beq hl
set_option maxHeartbeats 4000000 in
theorem stepW (cx : Cx dC dI dA B b Ls xs k p s m args meth c) {len : Nat} {i : Instr} {pc1 : Nat} {L1 st1 : List AV} {A1 : AH} (hd : decode (mB k) pc = .ok (i, len)) (hl : ilok i len = true) (hn : nxd k pc i L st A = some (.inl (pc1, L1, st1, A1)))
    (hH : HP dC dI dA B b Ls xs A H) (hF : fr B s H locs) (hL : lrel B b (lgm k) (mL k) L arr) (hR : 1 ≤ R.frames ∧ 40 ≤ R.locals) (hcel : cells + (A1.1.1 - A.1.1) ≤ R.cells) (hslo : slots + (A1.1.2 - A.1.2) ≤ R.slots)
    (kk : ∀ H1 locs1 arr1, HP dC dI dA B b Ls xs A1 H1 → fr B s H1 locs1 → lrel B b (lgm k) (mL k) L1 arr1 → W p l e R s m args below meth c H1 locs1 (cells + (A1.1.1 - A.1.1)) (slots + (A1.1.2 - A.1.2)) Q (F0 m pc1 arr1 (st1.map (cvv B b)))) :
    W p l e R s m args below meth c H locs cells slots Q (F0 m pc arr (st.map (cvv B b))) := by
  have hx := cx.1
  have hb := cx.2.1
  have hown := cx.2.2.2.2.1
  have hts := cx.2.2.2.2.2.2.2.1
  have hlen : L.length = mL k := hL.2.1
  have kk0 : A1.1 = A.1 → ∀ H1 locs1 arr1, HP dC dI dA B b Ls xs A1 H1 → fr B s H1 locs1 → lrel B b (lgm k) (mL k) L1 arr1 → W p l e R s m args below meth c H1 locs1 cells slots Q (F0 m pc1 arr1 (st1.map (cvv B b))) := by
    intro he H1 locs1 arr1 a1 a2 a3
    have := kk H1 locs1 arr1 a1 a2 a3
    rw [he, Nat.sub_self, Nat.sub_self] at this
    exact this
  cases i
  case iconst n =>
    have := il_1 hl (by intros; simp); subst this
    dsimp only [nxd, rg] at hn; cases hn
    exact lv_iconst hx hb hd rfl (kk0 rfl H locs arr hH hF hL)
  case bipush n =>
    have := il_1 hl (by intros; simp); subst this
    dsimp only [nxd, rg] at hn; cases hn
    exact lv_bipush hx hb hd rfl (kk0 rfl H locs arr hH hF hL)
  case sipush n =>
    have := il_1 hl (by intros; simp); subst this
    dsimp only [nxd, rg] at hn; cases hn
    exact lv_sipush hx hb hd rfl (kk0 rfl H locs arr hH hF hL)
  case ldc x =>
    have := il_1 hl (by intros; simp); subst this
    dsimp only [nxd, rg] at hn
    split at hn
    next v hv => cases hn; exact lv_ldc hx hb hown (hts _ (xV_get hv)) hd (kk0 rfl H locs arr hH hF hL)
    next => cases hn
  case ldc_w x =>
    have := il_1 hl (by intros; simp); subst this
    dsimp only [nxd, rg] at hn
    split at hn
    next v hv => cases hn; exact lv_ldcw hx hb hown (hts _ (xV_get hv)) hd (kk0 rfl H locs arr hH hF hL)
    next => cases hn
  case iload_n n =>
    have := il_1 hl (by intros; simp); subst this
    dsimp only [nxd, ldI, rg] at hn
    split at hn
    next x hv => cases hn; exact lv_iload_n hx hb hd rfl (hL.get hv (by simp)) (kk0 rfl H locs arr hH hF hL)
    next => cases hn
  case iload n =>
    have := il_1 hl (by intros; simp); subst this
    dsimp only [nxd, ldI, rg] at hn
    split at hn
    next x hv => cases hn; exact lv_iload hx hb hd (hL.get hv (by simp)) (kk0 rfl H locs arr hH hF hL)
    next => cases hn
  case aload_n n =>
    have := il_1 hl (by intros; simp); subst this
    dsimp only [nxd, ldR, rg] at hn
    split at hn
    next x hv => cases hn; exact lv_aload_n hx hb hd rfl (hL.get hv (by simp)) (kk0 rfl H locs arr hH hF hL)
    next => cases hn
  case aload n =>
    have := il_1 hl (by intros; simp); subst this
    dsimp only [nxd, ldR, rg] at hn
    split at hn
    next x hv => cases hn; exact lv_aload hx hb hd (hL.get hv (by simp)) (kk0 rfl H locs arr hH hF hL)
    next => cases hn
  case istore_n n =>
    have := il_1 hl (by intros; simp); subst this
    dsimp only [nxd, stI, rg] at hn
    split at hn
    next x r =>
      split at hn
      next hi => cases hn; exact lv_istore_n (lv := lvL B b L) hx hb hd rfl hL.1 (by omega) rfl (fun ls h => kk0 rfl H locs ls hH hF (hL.set (v := .inl x) hi.2 rfl hi.1 h))
      next => cases hn
    next => cases hn
  case istore n =>
    have := il_1 hl (by intros; simp); subst this
    dsimp only [nxd, stI, rg] at hn
    split at hn
    next x r =>
      split at hn
      next hi => cases hn; exact lv_istore (lv := lvL B b L) hx hb hd hL.1 (by omega) rfl (fun ls h => kk0 rfl H locs ls hH hF (hL.set (v := .inl x) hi.2 rfl hi.1 h))
      next => cases hn
    next => cases hn
  case astore_n n =>
    have := il_1 hl (by intros; simp); subst this
    dsimp only [nxd, stR, rg] at hn
    split at hn
    next x r =>
      split at hn
      next hi => cases hn; exact lv_astore_n (lv := lvL B b L) hx hb hd rfl hL.1 (by omega) rfl (fun ls h => kk0 rfl H locs ls hH hF (hL.set (v := .inr (.inl (some x))) hi.2 rfl hi.1 h))
      next => cases hn
    next => cases hn
  case astore n =>
    have := il_1 hl (by intros; simp); subst this
    dsimp only [nxd, stR, rg] at hn
    split at hn
    next x r =>
      split at hn
      next hi => cases hn; exact lv_astore (lv := lvL B b L) hx hb hd hL.1 (by omega) rfl (fun ls h => kk0 rfl H locs ls hH hF (hL.set (v := .inr (.inl (some x))) hi.2 rfl hi.1 h))
      next => cases hn
    next => cases hn
  case iinc n c0 =>
    have := il_1 hl (by intros; simp); subst this
    dsimp only [nxd, rg] at hn
    split at hn
    next x hv =>
     split at hn
     next hg =>
      cases hn
      obtain ⟨j, hj⟩ := List.getElem?_of_mem (lvL_mem.mpr ⟨_, hv, by simp, rfl⟩ : (n, cvv B b (.inl x)) ∈ lvL B b L)
      have hi : n < L.length := (List.getElem?_eq_some_iff.mp hv).1
      exact lv_iinc (lv := lvL B b L) hx hb hd hL.1 hj rfl (by omega) rfl (fun ls h => kk0 rfl H locs ls hH hF (hL.set (v := .inl _) hg rfl hi h))
     next => cases hn
    next => cases hn
  case iadd =>
    have := il_1 hl (by intros; simp); subst this
    dsimp only [nxd, b2, rg] at hn; split at hn
    · cases hn; exact lv_iadd hx hb hd (kk0 rfl H locs arr hH hF hL)
    · cases hn
  case isub =>
    have := il_1 hl (by intros; simp); subst this
    dsimp only [nxd, b2, rg] at hn; split at hn
    · cases hn; exact lv_isub hx hb hd (kk0 rfl H locs arr hH hF hL)
    · cases hn
  case imul =>
    have := il_1 hl (by intros; simp); subst this
    dsimp only [nxd, b2, rg] at hn; split at hn
    · cases hn; exact lv_imul hx hb hd (kk0 rfl H locs arr hH hF hL)
    · cases hn
  case iand =>
    have := il_1 hl (by intros; simp); subst this
    dsimp only [nxd, b2, rg] at hn; split at hn
    · cases hn; exact lv_iand hx hb hd (kk0 rfl H locs arr hH hF hL)
    · cases hn
  case ixor =>
    have := il_1 hl (by intros; simp); subst this
    dsimp only [nxd, b2, rg] at hn; split at hn
    · cases hn; exact lv_ixor hx hb hd (kk0 rfl H locs arr hH hF hL)
    · cases hn
  case lload_n n =>
    have := il_1 hl (by intros; simp); subst this
    dsimp only [nxd, ldL, rg] at hn
    split at hn
    next x hv => cases hn; exact lv_lload_n hx hb hd rfl (hL.get hv (by simp)) (kk0 rfl H locs arr hH hF hL)
    next => cases hn
  case lload n =>
    have := il_1 hl (by intros; simp); subst this
    dsimp only [nxd, ldL, rg] at hn
    split at hn
    next x hv => cases hn; exact lv_lload hx hb hd (hL.get hv (by simp)) (kk0 rfl H locs arr hH hF hL)
    next => cases hn
  case lstore_n n =>
    have := il_1 hl (by intros; simp); subst this
    dsimp only [nxd, stL, rg] at hn
    split at hn
    next x r =>
      split at hn
      next hi => cases hn; exact lv_lstore_n (lv := lvL B b L) hx hb hd rfl hL.1 (by omega) rfl (fun ls h => kk0 rfl H locs ls hH hF (hL.set2 hi.2.1 hi.2.2 hi.1 h))
      next => cases hn
    next => cases hn
  case lstore n =>
    have := il_1 hl (by intros; simp); subst this
    dsimp only [nxd, stL, rg] at hn
    split at hn
    next x r =>
      split at hn
      next hi => cases hn; exact lv_lstore (lv := lvL B b L) hx hb hd hL.1 (by omega) rfl (fun ls h => kk0 rfl H locs ls hH hF (hL.set2 hi.2.1 hi.2.2 hi.1 h))
      next => cases hn
    next => cases hn
  case ldc2_w x =>
    have := il_1 hl (by intros; simp); subst this
    dsimp only [nxd, rg] at hn
    split at hn
    next v hv => cases hn; exact lv_ldc2 hx hb hown (hts _ (xVL_get hv)) hd (kk0 rfl H locs arr hH hF hL)
    next => cases hn
  case lconst n =>
    have := il_1 hl (by intros; simp); subst this
    dsimp only [nxd, rg] at hn; cases hn
    exact lv_lconst hx hb hd rfl (kk0 rfl H locs arr hH hF hL)
  case i2l =>
    have := il_1 hl (by intros; simp); subst this
    dsimp only [nxd, rg] at hn; split at hn
    · cases hn; exact lv_i2l hx hb hd rfl (kk0 rfl H locs arr hH hF hL)
    · cases hn
  case ladd =>
    have := il_1 hl (by intros; simp); subst this
    dsimp only [nxd, rg] at hn; split at hn
    · cases hn; exact lv_ladd hx hb hd (kk0 rfl H locs arr hH hF hL)
    · cases hn
  case lmul =>
    have := il_1 hl (by intros; simp); subst this
    dsimp only [nxd, rg] at hn; split at hn
    · cases hn; exact lv_lmul hx hb hd (kk0 rfl H locs arr hH hF hL)
    · cases hn
  case lcmp =>
    have := il_1 hl (by intros; simp); subst this
    dsimp only [nxd, rg] at hn; split at hn
    · cases hn; exact W.lcmp hx hb hd (kk0 rfl H locs arr hH hF hL)
    · cases hn
  case ior =>
    have := il_1 hl (by intros; simp); subst this
    dsimp only [nxd, b2, rg] at hn; split at hn
    · cases hn; exact lv_ior hx hb hd (kk0 rfl H locs arr hH hF hL)
    · cases hn
  case ishl =>
    have := il_1 hl (by intros; simp); subst this
    dsimp only [nxd, b2, rg] at hn; split at hn
    · cases hn; exact lv_ishl hx hb hd (kk0 rfl H locs arr hH hF hL)
    · cases hn
  case ishr =>
    have := il_1 hl (by intros; simp); subst this
    dsimp only [nxd, b2, rg] at hn; split at hn
    · cases hn; exact lv_ishr hx hb hd (kk0 rfl H locs arr hH hF hL)
    · cases hn
  case iushr =>
    have := il_1 hl (by intros; simp); subst this
    dsimp only [nxd, b2, rg] at hn; split at hn
    · cases hn; exact lv_iushr hx hb hd rfl (kk0 rfl H locs arr hH hF hL)
    · cases hn
  case idiv =>
    have := il_1 hl (by intros; simp); subst this
    dsimp only [nxd, rg] at hn; split at hn
    · split at hn
      · cases hn
      next hne => cases hn; exact lv_idiv hx hb hd hne (kk0 rfl H locs arr hH hF hL)
    · cases hn
  case irem =>
    have := il_1 hl (by intros; simp); subst this
    dsimp only [nxd, rg] at hn; split at hn
    · split at hn
      · cases hn
      next hne => cases hn; exact lv_irem hx hb hd hne (kk0 rfl H locs arr hH hF hL)
    · cases hn
  case ineg =>
    have := il_1 hl (by intros; simp); subst this
    dsimp only [nxd, rg] at hn; split at hn
    · cases hn; exact lv_ineg hx hb hd (kk0 rfl H locs arr hH hF hL)
    · cases hn
  case i2c =>
    have := il_1 hl (by intros; simp); subst this
    dsimp only [nxd, rg] at hn; split at hn
    · cases hn; exact lv_i2c hx hb hd rfl (kk0 rfl H locs arr hH hF hL)
    · cases hn
  case dup =>
    have := il_1 hl (by intros; simp); subst this
    dsimp only [nxd, rg] at hn; split at hn
    · split at hn
      next hv => cases hn; exact lv_dup hx hb hd (cvv_cat B b hv) (kk0 rfl H locs arr hH hF hL)
      next => cases hn
    · cases hn
  case pop =>
    have := il_1 hl (by intros; simp); subst this
    dsimp only [nxd, rg] at hn; split at hn
    · split at hn
      next hv => cases hn; exact lv_pop hx hb hd (cvv_cat B b hv) (kk0 rfl H locs arr hH hF hL)
      next => cases hn
    · cases hn
  case goto o =>
    have := il_1 hl (by intros; simp); subst this
    dsimp only [nxd] at hn
    obtain ⟨h1, rfl, rfl, rfl⟩ := jmp_inv hn
    exact lv_goto hx hb hd h1 (kk0 rfl H locs arr hH hF hL)
  case ifCond cc o =>
    have := il_1 hl (by intros; simp); subst this
    dsimp only [nxd] at hn
    split at hn
    next x r =>
      split at hn
      next hq =>
        obtain ⟨h1, rfl, rfl, rfl⟩ := jmp_inv hn
        cases cc <;> simp only [hc, decide_eq_true_eq] at hq
        · exact lv_if_eq hx hb hd h1 (fun _ => kk0 rfl H locs arr hH hF hL) (fun q => absurd hq q)
        · exact lv_if_ne hx hb hd h1 (fun _ => kk0 rfl H locs arr hH hF hL) (fun q => absurd q hq)
        · exact lv_if_lt hx hb hd h1 (fun _ => kk0 rfl H locs arr hH hF hL) (fun q => absurd hq q)
        · exact lv_if_ge hx hb hd h1 (fun _ => kk0 rfl H locs arr hH hF hL) (fun q => absurd hq q)
        · exact lv_if_gt hx hb hd h1 (fun _ => kk0 rfl H locs arr hH hF hL) (fun q => absurd hq q)
        · exact lv_if_le hx hb hd h1 (fun _ => kk0 rfl H locs arr hH hF hL) (fun q => absurd hq q)
      next hq =>
        obtain ⟨h1, rfl, rfl, rfl, rfl⟩ := brf_inv hn
        cases cc <;> simp only [hc, decide_eq_true_eq, Classical.not_not] at hq
        · exact lv_if_eq hx hb hd h1 (fun q => absurd q hq) (fun _ => kk0 rfl H locs arr hH hF hL)
        · exact lv_if_ne hx hb hd h1 (fun q => absurd hq q) (fun _ => kk0 rfl H locs arr hH hF hL)
        · exact lv_if_lt hx hb hd h1 (fun q => absurd q hq) (fun _ => kk0 rfl H locs arr hH hF hL)
        · exact lv_if_ge hx hb hd h1 (fun q => absurd q hq) (fun _ => kk0 rfl H locs arr hH hF hL)
        · exact lv_if_gt hx hb hd h1 (fun q => absurd q hq) (fun _ => kk0 rfl H locs arr hH hF hL)
        · exact lv_if_le hx hb hd h1 (fun q => absurd q hq) (fun _ => kk0 rfl H locs arr hH hF hL)
    next => cases hn
  case if_icmp cc o =>
    have := il_1 hl (by intros; simp); subst this
    dsimp only [nxd] at hn
    split at hn
    next y x r =>
      split at hn
      next hq =>
        obtain ⟨h1, rfl, rfl, rfl⟩ := jmp_inv hn
        cases cc <;> simp only [hc, decide_eq_true_eq] at hq
        · exact lv_icmp_eq hx hb hd h1 (fun _ => kk0 rfl H locs arr hH hF hL) (fun q => absurd hq q)
        · exact lv_icmp_ne hx hb hd h1 (fun _ => kk0 rfl H locs arr hH hF hL) (fun q => absurd q hq)
        · exact lv_icmp_lt hx hb hd h1 (fun _ => kk0 rfl H locs arr hH hF hL) (fun q => absurd hq q)
        · exact lv_icmp_ge hx hb hd h1 (fun _ => kk0 rfl H locs arr hH hF hL) (fun q => absurd hq q)
        · exact lv_icmp_gt hx hb hd h1 (fun _ => kk0 rfl H locs arr hH hF hL) (fun q => absurd hq q)
        · exact lv_icmp_le hx hb hd h1 (fun _ => kk0 rfl H locs arr hH hF hL) (fun q => absurd hq q)
      next hq =>
        obtain ⟨h1, rfl, rfl, rfl, rfl⟩ := brf_inv hn
        cases cc <;> simp only [hc, decide_eq_true_eq, Classical.not_not] at hq
        · exact lv_icmp_eq hx hb hd h1 (fun q => absurd q hq) (fun _ => kk0 rfl H locs arr hH hF hL)
        · exact lv_icmp_ne hx hb hd h1 (fun q => absurd hq q) (fun _ => kk0 rfl H locs arr hH hF hL)
        · exact lv_icmp_lt hx hb hd h1 (fun q => absurd q hq) (fun _ => kk0 rfl H locs arr hH hF hL)
        · exact lv_icmp_ge hx hb hd h1 (fun q => absurd q hq) (fun _ => kk0 rfl H locs arr hH hF hL)
        · exact lv_icmp_gt hx hb hd h1 (fun q => absurd q hq) (fun _ => kk0 rfl H locs arr hH hF hL)
        · exact lv_icmp_le hx hb hd h1 (fun q => absurd q hq) (fun _ => kk0 rfl H locs arr hH hF hL)
    next => cases hn
  case ifnull o =>
    have := il_1 hl (by intros; simp); subst this
    dsimp only [nxd] at hn
    split at hn
    next r =>
      obtain ⟨h1, rfl, rfl, rfl⟩ := jmp_inv hn
      exact lv_ifnullN hx hb hd h1 (kk0 rfl H locs arr hH hF hL)
    next x r =>
      dsimp only [rg] at hn
      cases hn
      exact lv_ifnull hx hb hd (kk0 rfl H locs arr hH hF hL)
    next => cases hn
  case tableswitch dd lo hi offs =>
    dsimp only [nxd, tsw] at hn
    split at hn
    next x r =>
      split at hn
      next hq =>
        obtain ⟨h1, rfl, rfl, rfl⟩ := jmp_inv hn
        exact lv_tableOut hx hb hd hq h1 (kk0 rfl H locs arr hH hF hL)
      next hq =>
        split at hn
        next o ho =>
          obtain ⟨h1, rfl, rfl, rfl⟩ := jmp_inv hn
          exact lv_tableIn hx hb hd (fun q => hq (Or.inl q)) (fun q => hq (Or.inr q)) ho h1 (kk0 rfl H locs arr hH hF hL)
        next => cases hn
    next => cases hn
  case getfield x =>
    have := il_1 hl (by intros; simp); subst this
    dsimp only [nxd, gtf, rg] at hn
    split at hn
    next c0 f pl r rest hlk =>
      split at hn
      next ht => cases hn; exact s_gtf cx hH hd hlk ht (kk0 rfl H locs arr hH hF hL)
      next => cases hn
    next => cases hn
  case putfield x =>
    have := il_1 hl (by intros; simp); subst this
    dsimp only [nxd, ptf, rg] at hn
    split at hn
    next c0 f pl v r rest hlk =>
      split at hn
      next ht => cases hn; exact s_ptf cx hH hF hd hlk ht.1 ht.2.1 ht.2.2 (fun H1 locs1 a1 a2 => kk0 (putf_1 A r f v).1 H1 locs1 arr a1 a2 hL)
      next => cases hn
    next => cases hn
  case arraylength =>
    have := il_1 hl (by intros; simp); subst this
    dsimp only [nxd, alen, rg] at hn
    split at hn
    next r rest =>
      split at hn
      next ht => cases hn; exact s_alen cx hH hF hd ht (kk0 rfl H locs arr hH hF hL)
      next => cases hn
    next => cases hn
  case iaload =>
    have := il_1 hl (by intros; simp); subst this
    dsimp only [nxd, ald, rg] at hn
    split at hn
    next i r rest =>
      split at hn
      next ht => cases hn; exact s_iald cx hH hF hd (ht.1.imp id (fun q => q.2)) ht.2.1 ht.2.2 (kk0 rfl H locs arr hH hF hL)
      next => cases hn
    next => cases hn
  case caload =>
    have := il_1 hl (by intros; simp); subst this
    dsimp only [nxd, ald, rg] at hn
    split at hn
    next i r rest =>
      split at hn
      next ht => cases hn; exact s_cald cx hH hd (ht.1.elim id (fun q => by omega)) ht.2.1 ht.2.2 (kk0 rfl H locs arr hH hF hL)
      next => cases hn
    next => cases hn
  case iastore =>
    have := il_1 hl (by intros; simp); subst this
    dsimp only [nxd, ast, rg] at hn
    split at hn
    next x i r rest =>
      split at hn
      next ht => cases hn; exact s_iast cx hH hF hd ht.1 ht.2.1 ht.2.2 (fun H1 locs1 a1 a2 => kk0 rfl H1 locs1 arr a1 a2 hL)
      next => cases hn
    next => cases hn
  case castore =>
    have := il_1 hl (by intros; simp); subst this
    dsimp only [nxd, ast, rg] at hn
    split at hn
    next x i r rest =>
      split at hn
      next ht => cases hn; exact s_cast cx hH hF hd ht.1 ht.2.1 ht.2.2 (fun H1 locs1 a1 a2 => kk0 rfl H1 locs1 arr a1 a2 hL)
      next => cases hn
    next => cases hn
  case aaload =>
    have := il_1 hl (by intros; simp); subst this
    dsimp only [nxd, aldR, rg] at hn
    split at hn
    next i r rest =>
      split at hn
      next ht => cases hn; exact s_aald cx hH hd ht.1 ht.2.1 ht.2.2 (kk0 rfl H locs arr hH hF hL)
      next => cases hn
    next => cases hn
  case aastore =>
    have := il_1 hl (by intros; simp); subst this
    dsimp only [nxd, astR, rg] at hn
    split at hn
    next v i r rest =>
      split at hn
      next ht => cases hn; exact s_aast cx hH hF hd ht.1 ht.2.1 ht.2.2.1 ht.2.2.2 (fun H1 locs1 a1 a2 => kk0 rfl H1 locs1 arr a1 a2 hL)
      next => cases hn
    next => cases hn
  case new x =>
    have := il_1 hl (by intros; simp); subst this
    dsimp only [nxd, newO, rg] at hn
    split at hn
    next c0 pl hlk =>
      split at hn
      next ht =>
        cases hn
        have e1 : (nw A (c0, 0) (xN c0)).1.1 - A.1.1 = 1 := by show A.1.1 + 1 - A.1.1 = 1; omega
        have e2 : (nw A (c0, 0) (xN c0)).1.2 - A.1.2 = xN c0 := by show A.1.2 + xN c0 - A.1.2 = xN c0; omega
        rw [e1, e2] at kk
        rw [e1] at hcel
        rw [e2] at hslo
        exact s_newO cx hH hF hd hlk ht hcel hslo (fun H1 a1 a2 => kk H1 locs arr a1 a2 hL)
      next => cases hn
    next => cases hn
  case newarray at0 =>
    have := il_1 hl (by intros; simp); subst this
    have key : ∀ (t : Nat), newP (10 + t) pc L st A = some (.inl (pc1, L1, st1, A1)) → t < 3 → newarray.typeOf at0 = aty t → Cond.arrayClass (aty t) ∈ gW → defaultValue (aty t) = .int 0 → componentBytes (aty t) ≤ 4 → W p l e R s m args below meth c H locs cells slots Q (F0 m pc arr (st.map (cvv B b))) := by
      intro t hn ht3 hty hw hdf hcb
      obtain ⟨n, rest, rfl, ht, hq⟩ := newP_inv hn
      cases hq
      have e1 : (nw A (10 + t, n.toNatClampNeg) n.toNatClampNeg).1.1 - A.1.1 = 1 := by show A.1.1 + 1 - A.1.1 = 1; omega
      have e2 : (nw A (10 + t, n.toNatClampNeg) n.toNatClampNeg).1.2 - A.1.2 = n.toNatClampNeg := by show A.1.2 + n.toNatClampNeg - A.1.2 = n.toNatClampNeg; omega
      rw [e1, e2] at kk
      rw [e1] at hcel
      rw [e2] at hslo
      exact s_newP cx hH hF ht3 hty hw hdf hcb hd ht.1 ht.2.1 ht.2.2 hcel hslo (fun H1 a1 a2 => kk H1 locs arr a1 a2 hL)
    cases at0 <;> dsimp only [nxd] at hn <;> first | (cases hn; done) | skip
    case int => exact key 0 hn (by omega) rfl xn_int rfl (by decide)
    case char => exact key 1 hn (by omega) rfl xn_char rfl (by decide)
  case anewarray x =>
    have := il_1 hl (by intros; simp); subst this
    dsimp only [nxd, newQ, rg] at hn
    split at hn
    next pl n rest hlk =>
      split at hn
      next ht =>
        cases hn
        have e1 : (nw A (13, n.toNatClampNeg) n.toNatClampNeg).1.1 - A.1.1 = 1 := by show A.1.1 + 1 - A.1.1 = 1; omega
        have e2 : (nw A (13, n.toNatClampNeg) n.toNatClampNeg).1.2 - A.1.2 = n.toNatClampNeg := by show A.1.2 + n.toNatClampNeg - A.1.2 = n.toNatClampNeg; omega
        rw [e1, e2] at kk
        rw [e1] at hcel
        rw [e2] at hslo
        exact s_newQ cx hH hF hd hlk ht.1 ht.2.1 ht.2.2 hcel hslo (fun H1 a1 a2 => kk H1 locs arr a1 a2 hL)
      next => cases hn
    next => cases hn
  case invokestatic x =>
    have := il_1 hl (by intros; simp); subst this
    dsimp only [nxd, ivS] at hn
    split at hn
    · dsimp only [rc] at hn; split at hn <;> cases hn
    · dsimp only [rc] at hn; split at hn <;> cases hn
    next pl pl2 hlk =>
      dsimp only [cpy, rg] at hn
      split at hn
      next n dp a sp a0 rest =>
        split at hn
        next ht =>
          cases hn
          obtain ⟨t1, t2, t3, t4, t5, t6, t7, t8⟩ := ht
          exact s_cpy cx hH hF hL.1.1 hR hd hlk t1 t2 t3 t4 t5 t6 t7 t8 (fun H1 locs1 a1 a2 => kk0 rfl H1 locs1 arr a1 a2 hL)
        next => cases hn
      next => cases hn
    · cases hn
  case invokevirtual x =>
    dsimp only [nxd, ivV, rc] at hn
    (repeat' (split at hn)) <;> cases hn
  case invokespecial x =>
    have := il_1 hl (by intros; simp); subst this
    dsimp only [nxd, ivI] at hn
    split at hn
    · dsimp only [rc] at hn; (repeat' (split at hn)) <;> cases hn
    · dsimp only [rc] at hn; (repeat' (split at hn)) <;> cases hn
    next pl pl2 hlk =>
      rcases st with _ | ⟨_ | ((_ | r0) | _), rest⟩ <;> dsimp only at hn <;> first | (cases hn; done) | skip
      split at hn
      next ht =>
        have hsum : ((rest.map (cvv B b)).map (fun v => v.category)).sum ≤ 4 := Nat.le_trans (cat_sum B b rest) (by omega)
        dsimp only [rg] at hn
        cases hn
        exact W.objInit hx hb hown (hts _ (xI_5 hlk)) (hts _ xo_inst) (hts _ xo_code) rfl (by show arr.size = _; rw [hL.1.1, cx.2.2.2.1]) rfl hd hR.1 (by show 2 * 0 + _ + 12 ≤ _; omega) (kk0 rfl H locs arr hH hF hL)
      next => cases hn
    · cases hn
  case ireturn =>
    dsimp only [nxd, rr] at hn
    (repeat' (split at hn)) <;> cases hn
  case return_ =>
    dsimp only [nxd, rr] at hn
    (repeat' (split at hn)) <;> cases hn
  case lreturn =>
    dsimp only [nxd, rr] at hn
    (repeat' (split at hn)) <;> cases hn
  all_goals (dsimp only [nxd] at hn; cases hn)
end STEP
