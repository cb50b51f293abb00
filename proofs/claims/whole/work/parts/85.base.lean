/-! facts of the lists -/
theorem xf_rule_0 : ∀ z ∈ xRules, 0 ≤ z := by decide +kernel
theorem xf_rule_1 : ∀ z ∈ xRules, xob 155 z 7 = true := by decide +kernel
theorem xf_rule_2 : ∀ z ∈ xRules, xis 155 z 7 6 0 = true := by decide +kernel
theorem xf_rule_3 : ∀ z ∈ xRules, xis 155 z 7 7 3 = true := by decide +kernel
theorem xf_rule_4 : ∀ z ∈ xRules, xis 155 z 7 5 0 = true := by decide +kernel
theorem xf_rule_5 : ∀ z ∈ xRules, xis 155 z 7 1 0 = true := by decide +kernel
theorem xf_rule_6 : ∀ z ∈ xRules, xis 155 z 7 0 ((z + 1).toNat + 10) = true := by decide +kernel
theorem xf_rule_7 : ∀ z ∈ xRules, 0 ≤ z + 1 := by decide +kernel
theorem xf_rule_8 : ∀ z ∈ xRules, xia 155 (z + 1) 1 40 = true := by decide +kernel
theorem xf_rule_9 : ∀ z ∈ xRules, xis 155 z 7 2 ((z + 2).toNat + 10) = true := by decide +kernel
theorem xf_rule_10 : ∀ z ∈ xRules, 0 ≤ z + 2 := by decide +kernel
theorem xf_rule_11 : ∀ z ∈ xRules, xia 155 (z + 2) 1 40 = true := by decide +kernel
theorem xf_town_12 : ∀ z ∈ xTowns, 0 ≤ z := by decide +kernel
theorem xf_town_13 : ∀ z ∈ xTowns, xis 155 z 9 0 0 = true := by decide +kernel
theorem xf_town_14 : ∀ z ∈ xTowns, xis 155 z 9 1 0 = true := by decide +kernel
theorem xf_town_15 : ∀ z ∈ xTowns, xis 155 z 9 2 0 = true := by decide +kernel
theorem xf_town_16 : ∀ z ∈ xTowns, xis 155 z 9 3 0 = true := by decide +kernel
theorem xf_town_17 : ∀ z ∈ xTowns, xis 155 z 9 4 0 = true := by decide +kernel
theorem xf_town_18 : ∀ z ∈ xTowns, xis 155 z 9 5 0 = true := by decide +kernel
theorem xf_town_19 : ∀ z ∈ xTowns, xis 155 z 9 6 ((z + 1).toNat + 10) = true := by decide +kernel
theorem xf_town_20 : ∀ z ∈ xTowns, 0 ≤ z + 1 := by decide +kernel
theorem xf_town_21 : ∀ z ∈ xTowns, xia 155 (z + 1) 1 8 = true := by decide +kernel
theorem xf_town_22 : ∀ z ∈ xTowns, xis 155 z 9 7 ((z + 2).toNat + 10) = true := by decide +kernel
theorem xf_town_23 : ∀ z ∈ xTowns, 0 ≤ z + 2 := by decide +kernel
theorem xf_town_24 : ∀ z ∈ xTowns, xia 155 (z + 2) 1 8 = true := by decide +kernel
theorem xf_town_25 : ∀ z ∈ xTowns, xis 155 z 9 8 ((z + 3).toNat + 10) = true := by decide +kernel
theorem xf_town_26 : ∀ z ∈ xTowns, 0 ≤ z + 3 := by decide +kernel
theorem xf_town_27 : ∀ z ∈ xTowns, xia 155 (z + 3) 1 8 = true := by decide +kernel
theorem xf_dig_28 : ∀ z ∈ xDigs, 0 ≤ z := by decide +kernel
theorem xf_dig_29 : ∀ z ∈ xDigs, xis 155 z 1 1 0 = true := by decide +kernel
theorem xf_dig_30 : ∀ z ∈ xDigs, xis 155 z 1 0 ((z + 1).toNat + 10) = true := by decide +kernel
theorem xf_dig_31 : ∀ z ∈ xDigs, 0 ≤ z + 1 := by decide +kernel
theorem xf_dig_32 : ∀ z ∈ xDigs, xia 155 (z + 1) 1 20 = true := by decide +kernel
theorem xf_town_33 : ∀ z ∈ xTowns, xob 155 z 9 = true := by decide +kernel
theorem xf_dig_34 : ∀ z ∈ xDigs, xob 155 z 1 = true := by decide +kernel
theorem xf_rule_35 : ∀ z ∈ xRules, xis 155 z 7 4 0 = true := by decide +kernel
theorem xf_rule_36 : ∀ z ∈ xRules, xis 155 z 7 3 ((z + 3).toNat + 10) = true := by decide +kernel
theorem xf_rule_37 : ∀ z ∈ xRules, 0 ≤ z + 3 := by decide +kernel
theorem xf_rule_38 : ∀ z ∈ xRules, xia 155 (z + 3) 4 40 = true := by decide +kernel
theorem xf_now_39 : ∀ z ∈ xNows, 0 ≤ z := by decide +kernel
theorem xf_now_40 : ∀ z ∈ xNows, xia 155 z 1 40 = true := by decide +kernel
theorem xf_code_41 : ∀ z ∈ xCodes, 0 ≤ z := by decide +kernel
theorem xf_code_42 : ∀ z ∈ xCodes, xia 155 z 1 80 = true := by decide +kernel
def xBitName : MethodName := ⟨"java/lang/Integer", "bitCount", "(I)I"⟩
def xFillIName : MethodName := ⟨"java/util/Arrays", "fill", "([II)V"⟩
def xFillLName : MethodName := ⟨"java/util/Arrays", "fill", "([JJ)V"⟩
section XL
variable {d bc bs : Nat} {Y : xMD} {pc : Nat} {L S : List xV} {n : Nat} {σ σ1 : xW} {K : List xV → Nat → xW → Prop}
theorem g_bitc {a : Int} {i : Nat} (hd : decode Y.2.1 pc = .ok (.invokestatic i, 3)) (hm : Cond.methodLink Y.1.cls i xBitName ∈ xTB) (hdd : 1 ≤ d) (hrest : decide ((S.map (fun v => if v.1 = 1 then 2 else 1)).sum ≤ 8) = true) (k : xG d bc bs Y (pc + 3) L (vI (xbc a) :: S) n σ K) : xG d bc bs Y pc L (vI a :: S) n σ K := sorry
theorem h_fillI {a x : Int} {i : Nat} (len : Nat) (hd : decode Y.2.1 pc = .ok (.invokestatic i, 3)) (hm : Cond.methodLink Y.1.cls i xFillIName ∈ xTB) (hs : xia 155 a 1 len = true) (hlen : len ≤ 2147483647) (hdd : 1 ≤ d) (hrest : decide ((S.map (fun v => if v.1 = 1 then 2 else 1)).sum ≤ 8) = true) (he : xfl σ a len x = σ1) (kk : xG d bc bs Y (pc + 3) L S 155 σ1 K) : xG d bc bs Y pc L (vI x :: vR a :: S) 155 σ K := sorry
theorem h_fillL {a x : Int} {i : Nat} (len : Nat) (hd : decode Y.2.1 pc = .ok (.invokestatic i, 3)) (hm : Cond.methodLink Y.1.cls i xFillLName ∈ xTB) (hs : xia 155 a 2 len = true) (hlen : len ≤ 2147483647) (hdd : 1 ≤ d) (hrest : decide ((S.map (fun v => if v.1 = 1 then 2 else 1)).sum ≤ 8) = true) (he : xfl σ a len x = σ1) (kk : xG d bc bs Y (pc + 3) L S 155 σ1 K) : xG d bc bs Y pc L (vL x :: vR a :: S) 155 σ K := sorry
end XL
theorem bc_X10_294 : Cond.methodLink RX10 294 xBitName ∈ xTB := x_tb (tb4 86 (by decide +kernel)) rfl
theorem bc_X11_310 : Cond.methodLink RX11 310 xBitName ∈ xTB := x_tb (tb7 128 (by decide +kernel)) rfl
theorem fl_X10_470 : Cond.methodLink RX10 470 xFillIName ∈ xTB := x_tb (tb4 184 (by decide +kernel)) rfl
theorem fl_X10_354 : Cond.methodLink RX10 354 xFillLName ∈ xTB := x_tb (tb4 207 (by decide +kernel)) rfl
