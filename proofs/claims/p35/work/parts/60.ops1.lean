/-! unplaced, text, gap -/
section
variable (d L : Nat) (mu : RV) (p : Nat → Nat)
theorem Rel.A : Rel mu p → InvA (rk mu 1) := fun h => h.2.2.1.2.1
theorem chr_ok (x : Nat) (hx : x < 128) : vp_nar .char ((nI x).toUInt32 % 65536).toInt32 = nI x :=
  eq_of_beq (bal_ok (fun x => vp_nar .char ((nI x).toUInt32 % 65536).toInt32 == nI x) 7 0 (by decide +kernel) x (by omega) (by omega))
end
