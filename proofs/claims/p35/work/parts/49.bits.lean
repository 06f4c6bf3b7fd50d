/-! bits -/
def bal (f : Nat → Bool) : Nat → Nat → Bool
  | 0, b => f b
  | n + 1, b => bal f n (2 * b) && bal f n (2 * b + 1)
theorem bal_ok (f : Nat → Bool) : ∀ n b, bal f n b = true → ∀ m, b * 2 ^ n ≤ m → m < (b + 1) * 2 ^ n → f m = true := by
  intro n
  induction n with
  | zero =>
    intro b h m h1 h2
    have : m = b := by omega
    subst this
    exact h
  | succ n ih =>
    intro b h m h1 h2
    simp only [bal, Bool.and_eq_true] at h
    have e : 2 ^ (n + 1) = 2 * 2 ^ n := by rw [Nat.pow_succ]; omega
    rw [e] at h1 h2
    by_cases hm : m < (2 * b + 1) * 2 ^ n
    · refine ih _ h.1 m ?_ hm
      have : 2 * b * 2 ^ n = b * (2 * 2 ^ n) := by rw [Nat.mul_comm 2 b, Nat.mul_assoc]
      omega
    · refine ih _ h.2 m (by omega) ?_
      have : (2 * b + 1 + 1) * 2 ^ n = (b + 1) * (2 * 2 ^ n) := by rw [← Nat.mul_assoc, Nat.add_mul b 1 2]; congr 1; omega
      omega
theorem bal12 (f : Nat → Bool) (h : bal f 12 0 = true) (m : Nat) (hm : m < 4096) : f m = true := bal_ok f 12 0 h m (by omega) (by omega)
def ushF (x s : Int32) : Int32 := (x.toUInt32 >>> (s.toUInt32 &&& Int32.toUInt32 31)).toInt32
def bcF1 (x : Int32) : Int32 := x - (ushF x (nI 1) &&& nI 1431655765)
def bcF2 (x : Int32) : Int32 := (x &&& nI 858993459) + (ushF x (nI 2) &&& nI 858993459)
def bcF3 (x : Int32) : Int32 := (x + ushF x (nI 4)) &&& nI 252645135
def bcF4 (x : Int32) : Int32 := x + ushF x (nI 8)
def bcF5 (x : Int32) : Int32 := x + ushF x (nI 16)
def bcF (x : Int32) : Int32 := bcF5 (bcF4 (bcF3 (bcF2 (bcF1 x)))) &&& nI 63
theorem z_bitCount (d L : Nat) (mu : RV) (p : Nat → Nat) (x : Int32) : zsem d 65 0 [.inl x] [] (HH L mu p) = some (some (.inl (bcF x)), HH L mu p) := by
  simp (disch := first | omega | assumption) only [h65_0, h65_1, h65_2, h65_3, h65_4, h65_7, h65_8, h65_9, h65_10, h65_11, h65_14, h65_15, h65_16, h65_17, h65_18, h65_21, h65_22, h65_23, h65_24, h65_25, h65_26, h65_27, h65_28, h65_29, h65_32, h65_33, h65_34, h65_35, h65_36, h65_38, h65_39, h65_40, h65_41, h65_42, h65_43, h65_45, h65_46, h65_47, h65_48, h65_49, h65_51, h65_52, Option.bind_some, Option.toList_some, Option.toList_none, List.cons_append, List.nil_append, nI_ltc, nI_lec, nI_eqc, nI_ne5, n5_ne, n5_lt, bI_0, bI_1, nI_add, pk_mul, if_pos, if_neg, ite_not, if_true, if_false, not_true_eq_false, not_false_eq_true, true_and, false_and, and_true, and_false, Nat.reduceAdd, Nat.reduceMul]
  rfl
def pop : Nat → Nat → Nat
  | 0, _ => 0
  | n + 1, m => m % 2 + pop n (m / 2)
theorem bc_ok (m : Nat) (h : m < 4096) : bcF (nI m) = nI (pop 12 m) :=
  eq_of_beq (bal12 (fun m => bcF (nI m) == nI (pop 12 m)) (by decide +kernel) m h)
theorem or_ok (c : Nat) (h : c < 4096) (hc : 0 < c) : nI (c - 2 ^ Nat.log2 c) ||| (nI 1 <<< (nI (Nat.log2 c) &&& 31)) = nI c := by
  have := bal12 (fun c => c == 0 || nI (c - 2 ^ Nat.log2 c) ||| (nI 1 <<< (nI (Nat.log2 c) &&& 31)) == nI c) (by decide +kernel) c h
  rw [Bool.or_eq_true] at this
  rcases this with q | q
  · have := eq_of_beq q; omega
  · exact eq_of_beq q
theorem or_bit (m j : Nat) (hj : j < 12) (hm : m < 2 ^ j) : nI m ||| (nI 1 <<< (nI j &&& 31)) = nI (m + 2 ^ j) := by
  have h2 : 2 ^ j ≤ 2 ^ 11 := Nat.pow_le_pow_right (by omega) (by omega)
  have h0 : 0 < 2 ^ j := Nat.pow_pos (by omega)
  have hl : Nat.log2 (m + 2 ^ j) = j := by
    rw [Nat.log2_eq_iff (by omega), Nat.pow_succ]
    omega
  have := or_ok (m + 2 ^ j) (by omega) (by omega)
  rw [hl, show m + 2 ^ j - 2 ^ j = m by omega] at this
  exact this
theorem bit_at (j : Nat) (hj : j < 12) (m : Nat) (hm : m < 4096) : (nI m >>> (nI j &&& 31)) &&& nI 1 = nI (m / 2 ^ j % 2) := by
  have h : ∀ c, c < 65536 → ((nI (c % 4096) >>> (nI (c / 4096) &&& 31)) &&& nI 1 == nI (c % 4096 / 2 ^ (c / 4096) % 2)) = true := fun c hc => bal_ok (fun c => (nI (c % 4096) >>> (nI (c / 4096) &&& 31)) &&& nI 1 == nI (c % 4096 / 2 ^ (c / 4096) % 2)) 16 0 (by decide +kernel) c (by omega) (by omega)
  have h2 := eq_of_beq (h (j * 4096 + m) (by omega))
  rwa [show (j * 4096 + m) % 4096 = m by omega, show (j * 4096 + m) / 4096 = j by omega] at h2
