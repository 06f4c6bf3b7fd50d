theorem okb {k : Nat} (h : mR k = some .boolean) {q : Prop} {dq : Decidable q} : okr k (@bI q dq) = true := by
  unfold okr
  rw [h]
  cases dq <;> rfl
section PB
variable {d k pc L : Nat} {mu : Nat → Nat → Int32} {p : Nat → Nat} {L0 st : List AV}
theorem p_tg {r c : Nat} {t : Nat × Nat} (h : TT L r = t) (hc : t.1 = c) : ((HH L mu p).2.1 r).1 = c := by
  rw [hh_t, h]
  exact hc
theorem p_getR {x c f pl r q : Nat} (hd : decode (mB k) pc = .ok (.getfield x, 3)) (hl : xF.lookup (mO k, x) = some (c, f, pl)) (h : (TT L r).1 = c) (hP : isP (xt c f) = false) (hq : RR p r f = some q) : zsem d k pc L0 (.inr (.inl (some r)) :: st) (HH L mu p) = zsem d k (pc + 3) L0 (.inr (.inl (some q)) :: st) (HH L mu p) := by
  rw [q_get (A := HH L mu p) hd hl h]
  unfold fv
  rw [hP, hh_r, hq]
  rfl
theorem p_alen {r n : Nat} (hd : decode (mB k) pc = .ok (.arraylength, 1)) (h : TT L r = (10, n)) (hn : n < 2147483648) : zsem d k pc L0 (.inr (.inl (some r)) :: st) (HH L mu p) = zsem d k (pc + 1) L0 (.inl (nI n) :: st) (HH L mu p) := by
  rw [q_alen (A := HH L mu p) hd (Or.inl (by rw [hh_t, h])), hh_t, h]
theorem p_alenc {r n : Nat} (hd : decode (mB k) pc = .ok (.arraylength, 1)) (h : TT L r = (11, n)) (hn : n < 2147483648) : zsem d k pc L0 (.inr (.inl (some r)) :: st) (HH L mu p) = zsem d k (pc + 1) L0 (.inl (nI n) :: st) (HH L mu p) := by
  rw [q_alen (A := HH L mu p) hd (Or.inr (Or.inl (by rw [hh_t, h]))), hh_t, h]
theorem ixb {j n : Nat} (hj : j < n) (hn : n < 2147483648) : (0 : Int32) ≤ nI j ∧ (nI j).toNatClampNeg = j := ⟨nI_pos' (by omega), nI_clamp (by omega)⟩
theorem p_iald {r j n : Nat} (hd : decode (mB k) pc = .ok (.iaload, 1)) (h : TT L r = (10, n)) (hj : j < n) (hn : n < 2147483648) : zsem d k pc L0 (.inl (nI j) :: .inr (.inl (some r)) :: st) (HH L mu p) = zsem d k (pc + 1) L0 (.inl (mu r j) :: st) (HH L mu p) := by
  obtain ⟨h0, h1⟩ := ixb hj hn
  rw [q_iald (A := HH L mu p) hd (by rw [hh_t, h]) h0 (by rw [hh_t, h, h1]; exact hj), hh_m, h1]
theorem p_ald20 {j : Nat} (hd : decode (mB k) pc = .ok (.iaload, 1)) (hj : j < L) (hL : L < 2147483648) : zsem d k pc L0 (.inl (nI j) :: .inr (.inl (some SC)) :: st) (HH L mu p) = zsem d k (pc + 1) L0 (.inl (mu SC j) :: st) (HH L mu p) := by
  obtain ⟨h0, h1⟩ := ixb hj hL
  rw [q_ald20 (A := HH L mu p) hd (by rw [hh_t, tt_sc]) h0 (by rw [hh_t, tt_sc, h1]; exact hj), hh_m, h1]
theorem p_alen20 (hd : decode (mB k) pc = .ok (.arraylength, 1)) : zsem d k pc L0 (.inr (.inl (some SC)) :: st) (HH L mu p) = zsem d k (pc + 1) L0 (.inl (nI L) :: st) (HH L mu p) := by
  rw [q_alen (A := HH L mu p) hd (Or.inr (Or.inr (by rw [hh_t, tt_sc]))), hh_t, tt_sc]
theorem p_cald {r j n : Nat} (hd : decode (mB k) pc = .ok (.caload, 1)) (h : TT L r = (11, n)) (hj : j < n) (hn : n < 2147483648) : zsem d k pc L0 (.inl (nI j) :: .inr (.inl (some r)) :: st) (HH L mu p) = zsem d k (pc + 1) L0 (.inl (mu r j) :: st) (HH L mu p) := by
  obtain ⟨h0, h1⟩ := ixb hj hn
  rw [q_cald (A := HH L mu p) hd (by rw [hh_t, h]) h0 (by rw [hh_t, h, h1]; exact hj), hh_m, h1]
theorem p_iast {r j n : Nat} {x : Int32} (hd : decode (mB k) pc = .ok (.iastore, 1)) (h : TT L r = (10, n)) (hj : j < n) (hn : n < 2147483648) : zsem d k pc L0 (.inl x :: .inl (nI j) :: .inr (.inl (some r)) :: st) (HH L mu p) = zsem d k (pc + 1) L0 st (HH L (u2 mu r j x) p) := by
  obtain ⟨h0, h1⟩ := ixb hj hn
  rw [q_iast (A := HH L mu p) hd (by rw [hh_t, h]) h0 (by rw [hh_t, h, h1]; exact hj), h1, hh_sI]
theorem p_cast {r j n : Nat} {x : Int32} (hd : decode (mB k) pc = .ok (.castore, 1)) (h : TT L r = (11, n)) (hj : j < n) (hn : n < 2147483648) : zsem d k pc L0 (.inl x :: .inl (nI j) :: .inr (.inl (some r)) :: st) (HH L mu p) = zsem d k (pc + 1) L0 st (HH L (u2 mu r j (vp_nar .char x)) p) := by
  obtain ⟨h0, h1⟩ := ixb hj hn
  rw [q_cast (A := HH L mu p) hd (by rw [hh_t, h]) h0 (by rw [hh_t, h, h1]; exact hj), h1, hh_sI]
theorem p_aald {j : Nat} (hd : decode (mB k) pc = .ok (.aaload, 1)) (hj : j < 4) : zsem d k pc L0 (.inl (nI j) :: .inr (.inl (some 28)) :: st) (HH L mu p) = zsem d k (pc + 1) L0 (.inr (.inl (some (p j))) :: st) (HH L mu p) := by
  obtain ⟨h0, h1⟩ := ixb (n := 4) hj (by omega)
  rw [q_aald (A := HH L mu p) hd (by rw [hh_t, tt_28]) h0 (by rw [hh_t, tt_28, h1]; exact hj), h1, hh_r, rr_h p j hj]
theorem RR_up (p : Nat → Nat) (j v : Nat) (hj : j < 4) : u2 (RR p) 28 j (some v) = RR (va_up p j v) := by
  funext a i
  unfold u2 RR va_up
  by_cases ha : a = 28
  · subst ha
    simp only [if_true]
    by_cases hi : i = j
    · subst hi
      simp [hj]
    · simp [hi]
  · simp [ha]
theorem p_aast {j v : Nat} (hd : decode (mB k) pc = .ok (.aastore, 1)) (hj : j < 4) (hr : isRk v) : zsem d k pc L0 (.inr (.inl (some v)) :: .inl (nI j) :: .inr (.inl (some 28)) :: st) (HH L mu p) = zsem d k (pc + 1) L0 st (HH L mu (va_up p j v)) := by
  obtain ⟨h0, h1⟩ := ixb (n := 4) hj (by omega)
  rw [q_aast (A := HH L mu p) hd (by rw [hh_t, tt_28]) (by rw [hh_t, rk_t L v hr]) h0 (by rw [hh_t, tt_28, h1]; exact hj), h1]
  have e : sR (HH L mu p) 28 j (some v) = HH L mu (va_up p j v) := by
    unfold sR HH
    rw [← RR_up p j v hj]
  rw [e]
theorem p_cpy {x pl pl2 a a0 n : Nat} (hd : decode (mB k) pc = .ok (.invokestatic x, 3)) (hl : xI.lookup (mO k, x) = some (6, pl, pl2)) (hs : st.length ≤ 2) (h2 : TT L a = (10, n)) (h4 : TT L a0 = (10, n)) (hn : n < 2147483648) :
    zsem d k pc L0 (.inl (nI n) :: .inl (nI 0) :: .inr (.inl (some a)) :: .inl (nI 0) :: .inr (.inl (some a0)) :: st) (HH L mu p) = zsem d k (pc + 3) L0 st (HH L (cpm mu a0 a n) p) := by
  have e0 : (nI 0).toNatClampNeg = 0 := by decide
  have e1 : (nI n).toNatClampNeg = n := nI_clamp (by omega)
  rw [q_cpy (A := HH L mu p) hd hl hs (by rw [hh_t, h2]) (by rw [hh_t, h4]) (by decide) (by decide) (nI_pos' (by omega)) (by rw [hh_t, h4, e0, e1]; omega) (by rw [hh_t, h2, e0, e1]; omega), e0, e1, hh_cp]
theorem q_tsw {len : Nat} {dd lo hi o : Int} {offs : Array Int} {t : Nat} {x : Int32} {A : AH} (hd : decode (mB k) pc = .ok (.tableswitch dd lo hi offs, len)) (h1 : ¬ x.toInt < lo) (h2 : ¬ hi < x.toInt) (h3 : offs[(x.toInt - lo).toNat]? = some o) (ht : (pc : Int) + o = (t : Int)) : zsem d k pc L0 (.inl x :: st) A = zsem d k t L0 st A := by
  refine zs_go hd rfl ?_ ⟨Nat.le_refl _, Nat.le_refl _⟩
  dsimp only [nxd, tsw]
  rw [if_neg (by intro h; exact h.elim h1 h2), h3]
  dsimp only
  rw [jmp_of ht]
  rfl
theorem q_tswd {len : Nat} {dd lo hi : Int} {offs : Array Int} {t : Nat} {x : Int32} {A : AH} (hd : decode (mB k) pc = .ok (.tableswitch dd lo hi offs, len)) (h1 : x.toInt < lo ∨ hi < x.toInt) (ht : (pc : Int) + dd = (t : Int)) : zsem d k pc L0 (.inl x :: st) A = zsem d k t L0 st A := by
  refine zs_go hd rfl ?_ ⟨Nat.le_refl _, Nat.le_refl _⟩
  dsimp only [nxd, tsw]
  rw [if_pos h1, jmp_of ht]
  rfl
end PB
