/-! what the tables' places say, decided once -/
def x1 (i : Nat) : Cond := (tables_1[i]?).getD .tt
def xb (i : Nat) : Cond := (lw_tbl[i]?).getD .tt
theorem x1_mem {i : Nat} {w : Cond} (h : tables_1[i]? = some w) : w ∈ lw_tbl := List.mem_append_right _ (List.mem_of_getElem? h)
theorem xb_mem {i : Nat} {w : Cond} (h : lw_tbl[i]? = some w) : w ∈ lw_tbl := List.mem_of_getElem? h
/-- the good words -/
def gW : List Cond := lw_tbl.filter goodWord
theorem gW_of {w : Cond} (h : w ∈ lw_tbl) (g : goodWord w = true) : w ∈ gW := List.mem_filter.mpr ⟨h, g⟩
theorem gW_in {w : Cond} (h : w ∈ gW) : w ∈ lw_tbl := (List.mem_filter.mp h).1
theorem gW_good {w : Cond} (h : w ∈ gW) : goodWord w = true := (List.mem_filter.mp h).2
theorem xlay_ok : ∀ i, i < 38 → tables_1[xlay.getD i 0]? = some ((([0, 1, 2, 3, 4] : List Nat).flatMap fun c => (List.range (xN c)).map (u_lay (xC c) (xT c))).getD i .tt) := by decide +kernel
theorem xlay_good : ((([0, 1, 2, 3, 4] : List Nat).flatMap fun c => (List.range (xN c)).map (u_lay (xC c) (xT c)))).all goodWord = true := by decide +kernel
theorem xlay_len : (([0, 1, 2, 3, 4] : List Nat).flatMap fun c => (List.range (xN c)).map (u_lay (xC c) (xT c))).length = 38 := by decide +kernel
theorem xt_ok : ∀ c, c < 5 → ∀ k, k < xN c → parseFieldDescriptor (xT c k).2.2.1 = some (xt c k) := by decide +kernel
theorem xn_ok : ∀ c, c < 5 → ∀ a, a < xN c → ∀ b, b < xN c → a ≠ b → (xT c a).2.1 ≠ (xT c b).2.1 := by decide +kernel
theorem xF_ok : xF.all (fun q => decide (tables_1[q.2.2.2]? = some (.fieldLink (xC q.1.1) q.1.2 (xC q.2.1) (xT q.2.1 q.2.2.1).2.1 (xT q.2.1 q.2.2.1).2.2.1)) && goodWord (.fieldLink (xC q.1.1) q.1.2 (xC q.2.1) (xT q.2.1 q.2.2.1).2.1 (xT q.2.1 q.2.2.1).2.2.1) && decide (q.2.1 < 5) && decide (q.2.2.1 < xN q.2.1) && decide ((xT q.2.1 q.2.2.1).1 = xC q.2.1)) = true := by decide +kernel
theorem xK_ok : xK.all (fun q => decide (tables_1[q.2.2]? = some (.classLink (xC q.1.1) q.1.2 (xC q.2.1))) && goodWord (.classLink (xC q.1.1) q.1.2 (xC q.2.1)) && decide (q.2.1 < 5)) = true := by decide +kernel
theorem xV_ok : xV.all (fun q => decide (tables_1[q.2.2]? = some (.constant (xC q.1.1) q.1.2 q.2.1)) && goodWord (.constant (xC q.1.1) q.1.2 q.2.1)) = true := by decide +kernel
theorem xVL_ok : xVL.all (fun q => decide (tables_1[q.2.2]? = some (.constantLong (xC q.1.1) q.1.2 q.2.1)) && goodWord (.constantLong (xC q.1.1) q.1.2 q.2.1)) = true := by decide +kernel
theorem xc_0 : tables_1[16]? = some (.code (mY 0) (mB 0) (mL 0) (mR 0)) := by decide +kernel
theorem xc_1 : tables_1[19]? = some (.code (mY 1) (mB 1) (mL 1) (mR 1)) := by decide +kernel
theorem xc_2 : tables_1[24]? = some (.code (mY 2) (mB 2) (mL 2) (mR 2)) := by decide +kernel
theorem xc_3 : tables_1[29]? = some (.code (mY 3) (mB 3) (mL 3) (mR 3)) := by decide +kernel
theorem xc_4 : tables_1[32]? = some (.code (mY 4) (mB 4) (mL 4) (mR 4)) := by decide +kernel
theorem xc_5 : tables_1[101]? = some (.code (mY 5) (mB 5) (mL 5) (mR 5)) := by decide +kernel
theorem xc_6 : tables_1[117]? = some (.code (mY 6) (mB 6) (mL 6) (mR 6)) := by decide +kernel
theorem xc_7 : tables_1[147]? = some (.code (mY 7) (mB 7) (mL 7) (mR 7)) := by decide +kernel
theorem xc_8 : tables_1[205]? = some (.code (mY 8) (mB 8) (mL 8) (mR 8)) := by decide +kernel
theorem xc_9 : tables_1[209]? = some (.code (mY 9) (mB 9) (mL 9) (mR 9)) := by decide +kernel
theorem xc_10 : tables_1[213]? = some (.code (mY 10) (mB 10) (mL 10) (mR 10)) := by decide +kernel
theorem xc_11 : tables_1[217]? = some (.code (mY 11) (mB 11) (mL 11) (mR 11)) := by decide +kernel
theorem xc_12 : tables_1[220]? = some (.code (mY 12) (mB 12) (mL 12) (mR 12)) := by decide +kernel
theorem xc_13 : tables_1[224]? = some (.code (mY 13) (mB 13) (mL 13) (mR 13)) := by decide +kernel
theorem xc_14 : tables_1[228]? = some (.code (mY 14) (mB 14) (mL 14) (mR 14)) := by decide +kernel
theorem xc_15 : tables_1[232]? = some (.code (mY 15) (mB 15) (mL 15) (mR 15)) := by decide +kernel
theorem xc_16 : tables_1[236]? = some (.code (mY 16) (mB 16) (mL 16) (mR 16)) := by decide +kernel
theorem xc_17 : tables_1[240]? = some (.code (mY 17) (mB 17) (mL 17) (mR 17)) := by decide +kernel
theorem xc_18 : tables_1[244]? = some (.code (mY 18) (mB 18) (mL 18) (mR 18)) := by decide +kernel
theorem xc_19 : tables_1[251]? = some (.code (mY 19) (mB 19) (mL 19) (mR 19)) := by decide +kernel
theorem xc_20 : tables_1[255]? = some (.code (mY 20) (mB 20) (mL 20) (mR 20)) := by decide +kernel
theorem xc_21 : tables_1[259]? = some (.code (mY 21) (mB 21) (mL 21) (mR 21)) := by decide +kernel
theorem xc_22 : tables_1[263]? = some (.code (mY 22) (mB 22) (mL 22) (mR 22)) := by decide +kernel
theorem xc_23 : tables_1[266]? = some (.code (mY 23) (mB 23) (mL 23) (mR 23)) := by decide +kernel
theorem xc_24 : tables_1[271]? = some (.code (mY 24) (mB 24) (mL 24) (mR 24)) := by decide +kernel
theorem xc_25 : tables_1[275]? = some (.code (mY 25) (mB 25) (mL 25) (mR 25)) := by decide +kernel
theorem xc_26 : tables_1[278]? = some (.code (mY 26) (mB 26) (mL 26) (mR 26)) := by decide +kernel
theorem xc_27 : tables_1[282]? = some (.code (mY 27) (mB 27) (mL 27) (mR 27)) := by decide +kernel
theorem xc_28 : tables_1[286]? = some (.code (mY 28) (mB 28) (mL 28) (mR 28)) := by decide +kernel
theorem xc_29 : tables_1[290]? = some (.code (mY 29) (mB 29) (mL 29) (mR 29)) := by decide +kernel
theorem xc_30 : tables_1[294]? = some (.code (mY 30) (mB 30) (mL 30) (mR 30)) := by decide +kernel
theorem xc_31 : tables_1[298]? = some (.code (mY 31) (mB 31) (mL 31) (mR 31)) := by decide +kernel
theorem xc_32 : tables_1[301]? = some (.code (mY 32) (mB 32) (mL 32) (mR 32)) := by decide +kernel
theorem xc_33 : tables_1[305]? = some (.code (mY 33) (mB 33) (mL 33) (mR 33)) := by decide +kernel
theorem xc_34 : tables_1[310]? = some (.code (mY 34) (mB 34) (mL 34) (mR 34)) := by decide +kernel
theorem xc_35 : tables_1[314]? = some (.code (mY 35) (mB 35) (mL 35) (mR 35)) := by decide +kernel
theorem xc_36 : tables_1[318]? = some (.code (mY 36) (mB 36) (mL 36) (mR 36)) := by decide +kernel
theorem xc_37 : tables_1[321]? = some (.code (mY 37) (mB 37) (mL 37) (mR 37)) := by decide +kernel
theorem xc_38 : tables_1[325]? = some (.code (mY 38) (mB 38) (mL 38) (mR 38)) := by decide +kernel
theorem xc_39 : tables_1[328]? = some (.code (mY 39) (mB 39) (mL 39) (mR 39)) := by decide +kernel
theorem xc_40 : tables_1[331]? = some (.code (mY 40) (mB 40) (mL 40) (mR 40)) := by decide +kernel
theorem xc_41 : tables_1[334]? = some (.code (mY 41) (mB 41) (mL 41) (mR 41)) := by decide +kernel
theorem xc_42 : tables_1[338]? = some (.code (mY 42) (mB 42) (mL 42) (mR 42)) := by decide +kernel
theorem xc_43 : tables_1[341]? = some (.code (mY 43) (mB 43) (mL 43) (mR 43)) := by decide +kernel
theorem xc_44 : tables_1[344]? = some (.code (mY 44) (mB 44) (mL 44) (mR 44)) := by decide +kernel
theorem xc_45 : tables_1[348]? = some (.code (mY 45) (mB 45) (mL 45) (mR 45)) := by decide +kernel
theorem xc_46 : tables_1[352]? = some (.code (mY 46) (mB 46) (mL 46) (mR 46)) := by decide +kernel
theorem xc_47 : tables_1[356]? = some (.code (mY 47) (mB 47) (mL 47) (mR 47)) := by decide +kernel
theorem xc_48 : tables_1[359]? = some (.code (mY 48) (mB 48) (mL 48) (mR 48)) := by decide +kernel
theorem xc_49 : tables_1[362]? = some (.code (mY 49) (mB 49) (mL 49) (mR 49)) := by decide +kernel
theorem xc_50 : tables_1[366]? = some (.code (mY 50) (mB 50) (mL 50) (mR 50)) := by decide +kernel
theorem xc_51 : tables_1[370]? = some (.code (mY 51) (mB 51) (mL 51) (mR 51)) := by decide +kernel
theorem xc_52 : tables_1[373]? = some (.code (mY 52) (mB 52) (mL 52) (mR 52)) := by decide +kernel
theorem xc_53 : tables_1[377]? = some (.code (mY 53) (mB 53) (mL 53) (mR 53)) := by decide +kernel
theorem xc_54 : tables_1[381]? = some (.code (mY 54) (mB 54) (mL 54) (mR 54)) := by decide +kernel
theorem xc_55 : tables_1[384]? = some (.code (mY 55) (mB 55) (mL 55) (mR 55)) := by decide +kernel
theorem xc_56 : tables_1[387]? = some (.code (mY 56) (mB 56) (mL 56) (mR 56)) := by decide +kernel
theorem xc_57 : tables_1[393]? = some (.code (mY 57) (mB 57) (mL 57) (mR 57)) := by decide +kernel
theorem xc_58 : tables_1[399]? = some (.code (mY 58) (mB 58) (mL 58) (mR 58)) := by decide +kernel
theorem xc_59 : tables_1[402]? = some (.code (mY 59) (mB 59) (mL 59) (mR 59)) := by decide +kernel
theorem xc_60 : tables_1[406]? = some (.code (mY 60) (mB 60) (mL 60) (mR 60)) := by decide +kernel
theorem xc_61 : tables_1[409]? = some (.code (mY 61) (mB 61) (mL 61) (mR 61)) := by decide +kernel
theorem xc_62 : tables_1[412]? = some (.code (mY 62) (mB 62) (mL 62) (mR 62)) := by decide +kernel
theorem xc_63 : tables_1[415]? = some (.code (mY 63) (mB 63) (mL 63) (mR 63)) := by decide +kernel
theorem xc_64 : tables_1[418]? = some (.code (mY 64) (mB 64) (mL 64) (mR 64)) := by decide +kernel
theorem xc_65 : tables_1[421]? = some (.code (mY 65) (mB 65) (mL 65) (mR 65)) := by decide +kernel
theorem xc_66 : tables_1[427]? = some (.code (mY 66) (mB 66) (mL 66) (mR 66)) := by decide +kernel
theorem xc_67 : tables_1[430]? = some (.code (mY 67) (mB 67) (mL 67) (mR 67)) := by decide +kernel
theorem xc_68 : tables_1[433]? = some (.code (mY 68) (mB 68) (mL 68) (mR 68)) := by decide +kernel
theorem xc_69 : tables_1[436]? = some (.code (mY 69) (mB 69) (mL 69) (mR 69)) := by decide +kernel
theorem xc_70 : tables_1[440]? = some (.code (mY 70) (mB 70) (mL 70) (mR 70)) := by decide +kernel
theorem xc_71 : tables_1[444]? = some (.code (mY 71) (mB 71) (mL 71) (mR 71)) := by decide +kernel
theorem xc_72 : tables_1[450]? = some (.code (mY 72) (mB 72) (mL 72) (mR 72)) := by decide +kernel
theorem xc_73 : tables_1[454]? = some (.code (mY 73) (mB 73) (mL 73) (mR 73)) := by decide +kernel
theorem xc_74 : tables_1[461]? = some (.code (mY 74) (mB 74) (mL 74) (mR 74)) := by decide +kernel
theorem xc_75 : tables_1[466]? = some (.code (mY 75) (mB 75) (mL 75) (mR 75)) := by decide +kernel
theorem xc_76 : tables_1[475]? = some (.code (mY 76) (mB 76) (mL 76) (mR 76)) := by decide +kernel
theorem xc_77 : tables_1[478]? = some (.code (mY 77) (mB 77) (mL 77) (mR 77)) := by decide +kernel
theorem xc_78 : tables_1[482]? = some (.code (mY 78) (mB 78) (mL 78) (mR 78)) := by decide +kernel
theorem xc_79 : tables_1[486]? = some (.code (mY 79) (mB 79) (mL 79) (mR 79)) := by decide +kernel
theorem xc_80 : tables_1[489]? = some (.code (mY 80) (mB 80) (mL 80) (mR 80)) := by decide +kernel
theorem xc_81 : tables_1[497]? = some (.code (mY 81) (mB 81) (mL 81) (mR 81)) := by decide +kernel
theorem xc_82 : tables_1[501]? = some (.code (mY 82) (mB 82) (mL 82) (mR 82)) := by decide +kernel
theorem xc_83 : tables_1[505]? = some (.code (mY 83) (mB 83) (mL 83) (mR 83)) := by decide +kernel
theorem xc_84 : tables_1[510]? = some (.code (mY 84) (mB 84) (mL 84) (mR 84)) := by decide +kernel
theorem xc_85 : tables_1[513]? = some (.code (mY 85) (mB 85) (mL 85) (mR 85)) := by decide +kernel
theorem xc_86 : tables_1[518]? = some (.code (mY 86) (mB 86) (mL 86) (mR 86)) := by decide +kernel
theorem xc_87 : tables_1[522]? = some (.code (mY 87) (mB 87) (mL 87) (mR 87)) := by decide +kernel
theorem xc_88 : tables_1[527]? = some (.code (mY 88) (mB 88) (mL 88) (mR 88)) := by decide +kernel
theorem xc_89 : tables_1[530]? = some (.code (mY 89) (mB 89) (mL 89) (mR 89)) := by decide +kernel
theorem xc_90 : tables_1[534]? = some (.code (mY 90) (mB 90) (mL 90) (mR 90)) := by decide +kernel
theorem xc_91 : tables_1[538]? = some (.code (mY 91) (mB 91) (mL 91) (mR 91)) := by decide +kernel
theorem xc_92 : tables_1[543]? = some (.code (mY 92) (mB 92) (mL 92) (mR 92)) := by decide +kernel
theorem xc_93 : tables_1[547]? = some (.code (mY 93) (mB 93) (mL 93) (mR 93)) := by decide +kernel
theorem xc_94 : tables_1[552]? = some (.code (mY 94) (mB 94) (mL 94) (mR 94)) := by decide +kernel
theorem xc_95 : tables_1[556]? = some (.code (mY 95) (mB 95) (mL 95) (mR 95)) := by decide +kernel
theorem xc_96 : tables_1[560]? = some (.code (mY 96) (mB 96) (mL 96) (mR 96)) := by decide +kernel
theorem xc_97 : tables_1[564]? = some (.code (mY 97) (mB 97) (mL 97) (mR 97)) := by decide +kernel
theorem xc_98 : tables_1[568]? = some (.code (mY 98) (mB 98) (mL 98) (mR 98)) := by decide +kernel
theorem xc_99 : tables_1[573]? = some (.code (mY 99) (mB 99) (mL 99) (mR 99)) := by decide +kernel
theorem xc_100 : tables_1[579]? = some (.code (mY 100) (mB 100) (mL 100) (mR 100)) := by decide +kernel
theorem xc_101 : tables_1[583]? = some (.code (mY 101) (mB 101) (mL 101) (mR 101)) := by decide +kernel
theorem xc_102 : tables_1[587]? = some (.code (mY 102) (mB 102) (mL 102) (mR 102)) := by decide +kernel
theorem xc_103 : tables_1[591]? = some (.code (mY 103) (mB 103) (mL 103) (mR 103)) := by decide +kernel
theorem xc_104 : tables_1[597]? = some (.code (mY 104) (mB 104) (mL 104) (mR 104)) := by decide +kernel
theorem xc_105 : tables_1[601]? = some (.code (mY 105) (mB 105) (mL 105) (mR 105)) := by decide +kernel
theorem xc_106 : tables_1[604]? = some (.code (mY 106) (mB 106) (mL 106) (mR 106)) := by decide +kernel
theorem xc_107 : tables_1[607]? = some (.code (mY 107) (mB 107) (mL 107) (mR 107)) := by decide +kernel
theorem xc_108 : tables_1[610]? = some (.code (mY 108) (mB 108) (mL 108) (mR 108)) := by decide +kernel
def xcP (k : Nat) : Prop := Cond.code (mY k) (mB k) (mL k) (mR k) ∈ tables_1
theorem xcB_0 (h : ∀ k, k < 0 → xcP k) : ∀ k, k < 16 → xcP k := by
  have h : ∀ k, k < 1 → xcP k := lt_s h (List.mem_of_getElem? xc_0)
  have h : ∀ k, k < 2 → xcP k := lt_s h (List.mem_of_getElem? xc_1)
  have h : ∀ k, k < 3 → xcP k := lt_s h (List.mem_of_getElem? xc_2)
  have h : ∀ k, k < 4 → xcP k := lt_s h (List.mem_of_getElem? xc_3)
  have h : ∀ k, k < 5 → xcP k := lt_s h (List.mem_of_getElem? xc_4)
  have h : ∀ k, k < 6 → xcP k := lt_s h (List.mem_of_getElem? xc_5)
  have h : ∀ k, k < 7 → xcP k := lt_s h (List.mem_of_getElem? xc_6)
  have h : ∀ k, k < 8 → xcP k := lt_s h (List.mem_of_getElem? xc_7)
  have h : ∀ k, k < 9 → xcP k := lt_s h (List.mem_of_getElem? xc_8)
  have h : ∀ k, k < 10 → xcP k := lt_s h (List.mem_of_getElem? xc_9)
  have h : ∀ k, k < 11 → xcP k := lt_s h (List.mem_of_getElem? xc_10)
  have h : ∀ k, k < 12 → xcP k := lt_s h (List.mem_of_getElem? xc_11)
  have h : ∀ k, k < 13 → xcP k := lt_s h (List.mem_of_getElem? xc_12)
  have h : ∀ k, k < 14 → xcP k := lt_s h (List.mem_of_getElem? xc_13)
  have h : ∀ k, k < 15 → xcP k := lt_s h (List.mem_of_getElem? xc_14)
  have h : ∀ k, k < 16 → xcP k := lt_s h (List.mem_of_getElem? xc_15)
  exact h
theorem xcB_16 (h : ∀ k, k < 16 → xcP k) : ∀ k, k < 32 → xcP k := by
  have h : ∀ k, k < 17 → xcP k := lt_s h (List.mem_of_getElem? xc_16)
  have h : ∀ k, k < 18 → xcP k := lt_s h (List.mem_of_getElem? xc_17)
  have h : ∀ k, k < 19 → xcP k := lt_s h (List.mem_of_getElem? xc_18)
  have h : ∀ k, k < 20 → xcP k := lt_s h (List.mem_of_getElem? xc_19)
  have h : ∀ k, k < 21 → xcP k := lt_s h (List.mem_of_getElem? xc_20)
  have h : ∀ k, k < 22 → xcP k := lt_s h (List.mem_of_getElem? xc_21)
  have h : ∀ k, k < 23 → xcP k := lt_s h (List.mem_of_getElem? xc_22)
  have h : ∀ k, k < 24 → xcP k := lt_s h (List.mem_of_getElem? xc_23)
  have h : ∀ k, k < 25 → xcP k := lt_s h (List.mem_of_getElem? xc_24)
  have h : ∀ k, k < 26 → xcP k := lt_s h (List.mem_of_getElem? xc_25)
  have h : ∀ k, k < 27 → xcP k := lt_s h (List.mem_of_getElem? xc_26)
  have h : ∀ k, k < 28 → xcP k := lt_s h (List.mem_of_getElem? xc_27)
  have h : ∀ k, k < 29 → xcP k := lt_s h (List.mem_of_getElem? xc_28)
  have h : ∀ k, k < 30 → xcP k := lt_s h (List.mem_of_getElem? xc_29)
  have h : ∀ k, k < 31 → xcP k := lt_s h (List.mem_of_getElem? xc_30)
  have h : ∀ k, k < 32 → xcP k := lt_s h (List.mem_of_getElem? xc_31)
  exact h
theorem xcB_32 (h : ∀ k, k < 32 → xcP k) : ∀ k, k < 48 → xcP k := by
  have h : ∀ k, k < 33 → xcP k := lt_s h (List.mem_of_getElem? xc_32)
  have h : ∀ k, k < 34 → xcP k := lt_s h (List.mem_of_getElem? xc_33)
  have h : ∀ k, k < 35 → xcP k := lt_s h (List.mem_of_getElem? xc_34)
  have h : ∀ k, k < 36 → xcP k := lt_s h (List.mem_of_getElem? xc_35)
  have h : ∀ k, k < 37 → xcP k := lt_s h (List.mem_of_getElem? xc_36)
  have h : ∀ k, k < 38 → xcP k := lt_s h (List.mem_of_getElem? xc_37)
  have h : ∀ k, k < 39 → xcP k := lt_s h (List.mem_of_getElem? xc_38)
  have h : ∀ k, k < 40 → xcP k := lt_s h (List.mem_of_getElem? xc_39)
  have h : ∀ k, k < 41 → xcP k := lt_s h (List.mem_of_getElem? xc_40)
  have h : ∀ k, k < 42 → xcP k := lt_s h (List.mem_of_getElem? xc_41)
  have h : ∀ k, k < 43 → xcP k := lt_s h (List.mem_of_getElem? xc_42)
  have h : ∀ k, k < 44 → xcP k := lt_s h (List.mem_of_getElem? xc_43)
  have h : ∀ k, k < 45 → xcP k := lt_s h (List.mem_of_getElem? xc_44)
  have h : ∀ k, k < 46 → xcP k := lt_s h (List.mem_of_getElem? xc_45)
  have h : ∀ k, k < 47 → xcP k := lt_s h (List.mem_of_getElem? xc_46)
  have h : ∀ k, k < 48 → xcP k := lt_s h (List.mem_of_getElem? xc_47)
  exact h
theorem xcB_48 (h : ∀ k, k < 48 → xcP k) : ∀ k, k < 64 → xcP k := by
  have h : ∀ k, k < 49 → xcP k := lt_s h (List.mem_of_getElem? xc_48)
  have h : ∀ k, k < 50 → xcP k := lt_s h (List.mem_of_getElem? xc_49)
  have h : ∀ k, k < 51 → xcP k := lt_s h (List.mem_of_getElem? xc_50)
  have h : ∀ k, k < 52 → xcP k := lt_s h (List.mem_of_getElem? xc_51)
  have h : ∀ k, k < 53 → xcP k := lt_s h (List.mem_of_getElem? xc_52)
  have h : ∀ k, k < 54 → xcP k := lt_s h (List.mem_of_getElem? xc_53)
  have h : ∀ k, k < 55 → xcP k := lt_s h (List.mem_of_getElem? xc_54)
  have h : ∀ k, k < 56 → xcP k := lt_s h (List.mem_of_getElem? xc_55)
  have h : ∀ k, k < 57 → xcP k := lt_s h (List.mem_of_getElem? xc_56)
  have h : ∀ k, k < 58 → xcP k := lt_s h (List.mem_of_getElem? xc_57)
  have h : ∀ k, k < 59 → xcP k := lt_s h (List.mem_of_getElem? xc_58)
  have h : ∀ k, k < 60 → xcP k := lt_s h (List.mem_of_getElem? xc_59)
  have h : ∀ k, k < 61 → xcP k := lt_s h (List.mem_of_getElem? xc_60)
  have h : ∀ k, k < 62 → xcP k := lt_s h (List.mem_of_getElem? xc_61)
  have h : ∀ k, k < 63 → xcP k := lt_s h (List.mem_of_getElem? xc_62)
  have h : ∀ k, k < 64 → xcP k := lt_s h (List.mem_of_getElem? xc_63)
  exact h
theorem xcB_64 (h : ∀ k, k < 64 → xcP k) : ∀ k, k < 80 → xcP k := by
  have h : ∀ k, k < 65 → xcP k := lt_s h (List.mem_of_getElem? xc_64)
  have h : ∀ k, k < 66 → xcP k := lt_s h (List.mem_of_getElem? xc_65)
  have h : ∀ k, k < 67 → xcP k := lt_s h (List.mem_of_getElem? xc_66)
  have h : ∀ k, k < 68 → xcP k := lt_s h (List.mem_of_getElem? xc_67)
  have h : ∀ k, k < 69 → xcP k := lt_s h (List.mem_of_getElem? xc_68)
  have h : ∀ k, k < 70 → xcP k := lt_s h (List.mem_of_getElem? xc_69)
  have h : ∀ k, k < 71 → xcP k := lt_s h (List.mem_of_getElem? xc_70)
  have h : ∀ k, k < 72 → xcP k := lt_s h (List.mem_of_getElem? xc_71)
  have h : ∀ k, k < 73 → xcP k := lt_s h (List.mem_of_getElem? xc_72)
  have h : ∀ k, k < 74 → xcP k := lt_s h (List.mem_of_getElem? xc_73)
  have h : ∀ k, k < 75 → xcP k := lt_s h (List.mem_of_getElem? xc_74)
  have h : ∀ k, k < 76 → xcP k := lt_s h (List.mem_of_getElem? xc_75)
  have h : ∀ k, k < 77 → xcP k := lt_s h (List.mem_of_getElem? xc_76)
  have h : ∀ k, k < 78 → xcP k := lt_s h (List.mem_of_getElem? xc_77)
  have h : ∀ k, k < 79 → xcP k := lt_s h (List.mem_of_getElem? xc_78)
  have h : ∀ k, k < 80 → xcP k := lt_s h (List.mem_of_getElem? xc_79)
  exact h
theorem xcB_80 (h : ∀ k, k < 80 → xcP k) : ∀ k, k < 96 → xcP k := by
  have h : ∀ k, k < 81 → xcP k := lt_s h (List.mem_of_getElem? xc_80)
  have h : ∀ k, k < 82 → xcP k := lt_s h (List.mem_of_getElem? xc_81)
  have h : ∀ k, k < 83 → xcP k := lt_s h (List.mem_of_getElem? xc_82)
  have h : ∀ k, k < 84 → xcP k := lt_s h (List.mem_of_getElem? xc_83)
  have h : ∀ k, k < 85 → xcP k := lt_s h (List.mem_of_getElem? xc_84)
  have h : ∀ k, k < 86 → xcP k := lt_s h (List.mem_of_getElem? xc_85)
  have h : ∀ k, k < 87 → xcP k := lt_s h (List.mem_of_getElem? xc_86)
  have h : ∀ k, k < 88 → xcP k := lt_s h (List.mem_of_getElem? xc_87)
  have h : ∀ k, k < 89 → xcP k := lt_s h (List.mem_of_getElem? xc_88)
  have h : ∀ k, k < 90 → xcP k := lt_s h (List.mem_of_getElem? xc_89)
  have h : ∀ k, k < 91 → xcP k := lt_s h (List.mem_of_getElem? xc_90)
  have h : ∀ k, k < 92 → xcP k := lt_s h (List.mem_of_getElem? xc_91)
  have h : ∀ k, k < 93 → xcP k := lt_s h (List.mem_of_getElem? xc_92)
  have h : ∀ k, k < 94 → xcP k := lt_s h (List.mem_of_getElem? xc_93)
  have h : ∀ k, k < 95 → xcP k := lt_s h (List.mem_of_getElem? xc_94)
  have h : ∀ k, k < 96 → xcP k := lt_s h (List.mem_of_getElem? xc_95)
  exact h
theorem xcB_96 (h : ∀ k, k < 96 → xcP k) : ∀ k, k < 109 → xcP k := by
  have h : ∀ k, k < 97 → xcP k := lt_s h (List.mem_of_getElem? xc_96)
  have h : ∀ k, k < 98 → xcP k := lt_s h (List.mem_of_getElem? xc_97)
  have h : ∀ k, k < 99 → xcP k := lt_s h (List.mem_of_getElem? xc_98)
  have h : ∀ k, k < 100 → xcP k := lt_s h (List.mem_of_getElem? xc_99)
  have h : ∀ k, k < 101 → xcP k := lt_s h (List.mem_of_getElem? xc_100)
  have h : ∀ k, k < 102 → xcP k := lt_s h (List.mem_of_getElem? xc_101)
  have h : ∀ k, k < 103 → xcP k := lt_s h (List.mem_of_getElem? xc_102)
  have h : ∀ k, k < 104 → xcP k := lt_s h (List.mem_of_getElem? xc_103)
  have h : ∀ k, k < 105 → xcP k := lt_s h (List.mem_of_getElem? xc_104)
  have h : ∀ k, k < 106 → xcP k := lt_s h (List.mem_of_getElem? xc_105)
  have h : ∀ k, k < 107 → xcP k := lt_s h (List.mem_of_getElem? xc_106)
  have h : ∀ k, k < 108 → xcP k := lt_s h (List.mem_of_getElem? xc_107)
  have h : ∀ k, k < 109 → xcP k := lt_s h (List.mem_of_getElem? xc_108)
  exact h
theorem xcode_ok : ∀ k, k < 109 → xcP k := (xcB_96 (xcB_80 (xcB_64 (xcB_48 (xcB_32 (xcB_16 (xcB_0 lt_0)))))))
theorem xinst_ok : ∀ c, c < 5 → tables_1[xinst.getD c 0]? = some (.instantiable (xC c) (xN c)) := by decide +kernel
theorem xini_ok : ∀ c, c < 5 → tables_1[xini.getD c 0]? = some (.initialized (xC c)) := by decide +kernel
