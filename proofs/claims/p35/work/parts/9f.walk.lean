/-! numbering: reference -/
section
variable (d L : Nat) (p : Nat → Nat)
def lev (R : RV) (n b : Nat) : Prop := ∀ j, j < 12 → R 2 j = nI 2 → bn R j = b → dq R j + n = 4
theorem lev_N {R R' : RV} (h : SameN R R') {n b : Nat} (hl : lev R n b) : lev R' n b := by
  intro j hj h2 hb
  have e2 := h 2 (by omega) (by omega)
  have e3 := h 3 (by omega) (by omega)
  have hd : dq R' j = dq R j := by
    unfold dq
    rw [dpt_cong e2 e3, bn_cong e3]
  rw [hd]
  rw [e2] at h2
  rw [bn_cong e3] at hb
  exact hl j hj h2 hb
end
