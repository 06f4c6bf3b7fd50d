/-! the law's loop -/
theorem and31 (x : Int32) : ∃ j, j < 32 ∧ x &&& nI 31 = nI j := by
  refine ⟨(x.toBitVec &&& 31#32).toNat, ?_, ?_⟩
  · rw [BitVec.toNat_and]
    exact Nat.lt_of_le_of_lt Nat.and_le_right (by decide)
  · apply Int32.toBitVec_inj.1
    rw [Int32.toBitVec_and]
    show x.toBitVec &&& 31#32 = BitVec.ofInt 32 (((x.toBitVec &&& 31#32).toNat : Nat) : Int)
    rw [BitVec.ofInt_natCast, BitVec.ofNat_toNat]
    simp
/-- the script's row stays -/
def Sc (A A1 : AH) : Prop := A1.2.1 SC = A.2.1 SC ∧ A1.2.2.1 SC = A.2.2.1 SC
theorem Sc_r (A : AH) : Sc A A := ⟨rfl, rfl⟩
theorem Sc_t {A B C : AH} (h1 : Sc A B) (h2 : Sc B C) : Sc A C := ⟨h2.1.trans h1.1, h2.2.trans h1.2⟩
theorem Sc_sI {A : AH} {r i : Nat} {x : Int32} (h : ¬SC = r) : Sc A (sI A r i x) := ⟨rfl, u2_row h⟩
theorem Sc_sR {A : AH} {r i : Nat} {x : Option Nat} : Sc A (sR A r i x) := ⟨rfl, rfl⟩
theorem Sc_nw {A : AH} {t : Nat × Nat} {w : Nat} (h : A.1.1 + 1 < SC) : Sc A (nw A t w) := by
  have h2 : ¬SC = A.1.1 := by omega
  exact ⟨if_neg h2, by funext i; exact if_neg h2⟩
theorem Sc_cp {A : AH} {a0 a x y n : Nat} (h : ¬SC = a) : Sc A (cpA A a0 a x y n) := ⟨rfl, by funext i; exact if_neg h⟩
theorem xF_lt : ∀ e, e ∈ xF → e.2.1 < 10 := by decide +kernel
theorem lk_mem {α β : Type} [BEq α] [LawfulBEq α] {a : α} {b : β} : ∀ {l : List (α × β)}, l.lookup a = some b → (a, b) ∈ l := by
  intro l
  induction l with
  | nil => intro h; cases h
  | cons x l ih =>
    intro h
    obtain ⟨x1, x2⟩ := x
    by_cases q : a = x1
    · subst q
      rw [List.lookup_cons_self] at h
      cases h
      exact List.mem_cons_self
    · rw [List.lookup_cons, beq_eq_false_iff_ne.mpr q] at h
      exact List.mem_cons_of_mem _ (ih h)
theorem nxd_sc {k pc q : Nat} {i : Instr} {L st L1 st1 : List AV} {A A1 : AH} (hn : nxd k pc i L st A = some (.inl (q, L1, st1, A1))) (ht : (A.2.1 SC).1 = 20) : Sc A A1 := by
  have tg : ∀ {r t : Nat}, (A.2.1 r).1 = t → t < 20 → ¬SC = r := fun e1 e2 e3 => by rw [← e3, ht] at e1; omega
  unfold nxd at hn
  split at hn <;> (try unfold ldI at hn) <;> (try unfold ldR at hn) <;> (try unfold stI at hn) <;> (try unfold stR at hn) <;> (try unfold b2 at hn) <;> (try unfold tsw at hn) <;> (try unfold gtf at hn) <;> (try unfold ptf at hn) <;> (try unfold alen at hn) <;> (try unfold ald at hn) <;> (try unfold ast at hn) <;> (try unfold aldR at hn) <;> (try unfold astR at hn) <;> (try unfold newO at hn) <;> (try unfold newP at hn) <;> (try unfold newQ at hn) <;> (try unfold ivS at hn) <;> (try unfold ivV at hn) <;> (try unfold ivI at hn) <;> (try unfold cpy at hn) <;> (try unfold jmp at hn) <;> (try unfold brf at hn) <;> (try unfold rg at hn) <;> (try unfold rr at hn) <;> (try unfold rc at hn) <;> (repeat' split at hn) <;> first
    | (cases hn; done)
    | (cases hn; exact Sc_r _)
    | (next h => cases hn; exact Sc_nw (by omega))
    | (next h => cases hn; exact Sc_sI (tg h.1 (by omega)))
    | (cases hn; exact Sc_sR)
    | (next h => cases hn; exact Sc_cp (tg h.2.1 (by omega)))
    | (next h1 h => cases hn; unfold putf; split; exact Sc_sI (tg h.1 (Nat.lt_of_lt_of_le (xF_lt _ (lk_mem (by assumption))) (by omega))); exact Sc_sR)
