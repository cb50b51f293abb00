/-! facts of the lists -/
theorem xf_rule_0 : ∀ z ∈ xRules, 0 ≤ z := by decide +kernel
theorem xf_rule_1 : ∀ z ∈ xRules, xob 155 z 7 = true := by decide +kernel
theorem xf_rule_2 : ∀ z ∈ xRules, xis 155 z 7 6 0 = true := by decide +kernel
theorem xf_rule_3 : ∀ z ∈ xRules, xis 155 z 7 7 3 = true := by decide +kernel
theorem xf_rule_4 : ∀ z ∈ xRules, xis 155 z 7 5 0 = true := by decide +kernel
theorem xf_rule_5 : ∀ z ∈ xRules, xis 155 z 7 1 0 = true := by decide +kernel
theorem xf_rule_6 : ∀ z ∈ xRules, xis 155 z 7 0 ((z + 1).toNat + 10) = true := by decide +kernel
theorem xf_rule_7 : ∀ z ∈ xRules, 0 ≤ z + 1 := by decide +kernel
theorem xf_rule_8 : ∀ z ∈ xRules, xia 155 (z + 1) 1 40 = true := by decide +kernel
theorem xf_rule_9 : ∀ z ∈ xRules, xis 155 z 7 2 ((z + 2).toNat + 10) = true := by decide +kernel
theorem xf_rule_10 : ∀ z ∈ xRules, 0 ≤ z + 2 := by decide +kernel
theorem xf_rule_11 : ∀ z ∈ xRules, xia 155 (z + 2) 1 40 = true := by decide +kernel
theorem xf_town_12 : ∀ z ∈ xTowns, 0 ≤ z := by decide +kernel
theorem xf_town_13 : ∀ z ∈ xTowns, xis 155 z 9 0 0 = true := by decide +kernel
theorem xf_town_14 : ∀ z ∈ xTowns, xis 155 z 9 1 0 = true := by decide +kernel
theorem xf_town_15 : ∀ z ∈ xTowns, xis 155 z 9 2 0 = true := by decide +kernel
theorem xf_town_16 : ∀ z ∈ xTowns, xis 155 z 9 3 0 = true := by decide +kernel
theorem xf_town_17 : ∀ z ∈ xTowns, xis 155 z 9 4 0 = true := by decide +kernel
theorem xf_town_18 : ∀ z ∈ xTowns, xis 155 z 9 5 0 = true := by decide +kernel
theorem xf_town_19 : ∀ z ∈ xTowns, xis 155 z 9 6 ((z + 1).toNat + 10) = true := by decide +kernel
theorem xf_town_20 : ∀ z ∈ xTowns, 0 ≤ z + 1 := by decide +kernel
theorem xf_town_21 : ∀ z ∈ xTowns, xia 155 (z + 1) 1 8 = true := by decide +kernel
theorem xf_town_22 : ∀ z ∈ xTowns, xis 155 z 9 7 ((z + 2).toNat + 10) = true := by decide +kernel
theorem xf_town_23 : ∀ z ∈ xTowns, 0 ≤ z + 2 := by decide +kernel
theorem xf_town_24 : ∀ z ∈ xTowns, xia 155 (z + 2) 1 8 = true := by decide +kernel
theorem xf_town_25 : ∀ z ∈ xTowns, xis 155 z 9 8 ((z + 3).toNat + 10) = true := by decide +kernel
theorem xf_town_26 : ∀ z ∈ xTowns, 0 ≤ z + 3 := by decide +kernel
theorem xf_town_27 : ∀ z ∈ xTowns, xia 155 (z + 3) 1 8 = true := by decide +kernel
theorem xf_dig_28 : ∀ z ∈ xDigs, 0 ≤ z := by decide +kernel
theorem xf_dig_29 : ∀ z ∈ xDigs, xis 155 z 1 1 0 = true := by decide +kernel
theorem xf_dig_30 : ∀ z ∈ xDigs, xis 155 z 1 0 ((z + 1).toNat + 10) = true := by decide +kernel
theorem xf_dig_31 : ∀ z ∈ xDigs, 0 ≤ z + 1 := by decide +kernel
theorem xf_dig_32 : ∀ z ∈ xDigs, xia 155 (z + 1) 1 20 = true := by decide +kernel
theorem xf_town_33 : ∀ z ∈ xTowns, xob 155 z 9 = true := by decide +kernel
theorem xf_dig_34 : ∀ z ∈ xDigs, xob 155 z 1 = true := by decide +kernel
theorem xf_rule_35 : ∀ z ∈ xRules, xis 155 z 7 4 0 = true := by decide +kernel
theorem xf_rule_36 : ∀ z ∈ xRules, xis 155 z 7 3 ((z + 3).toNat + 10) = true := by decide +kernel
theorem xf_rule_37 : ∀ z ∈ xRules, 0 ≤ z + 3 := by decide +kernel
theorem xf_rule_38 : ∀ z ∈ xRules, xia 155 (z + 3) 4 40 = true := by decide +kernel
theorem xf_now_39 : ∀ z ∈ xNows, 0 ≤ z := by decide +kernel
theorem xf_now_40 : ∀ z ∈ xNows, xia 155 z 1 40 = true := by decide +kernel
theorem xf_code_41 : ∀ z ∈ xCodes, 0 ≤ z := by decide +kernel
theorem xf_code_42 : ∀ z ∈ xCodes, xia 155 z 1 80 = true := by decide +kernel
def xBitName : MethodName := ⟨"java/lang/Integer", "bitCount", "(I)I"⟩
def xFillIName : MethodName := ⟨"java/util/Arrays", "fill", "([II)V"⟩
def xFillLName : MethodName := ⟨"java/util/Arrays", "fill", "([JJ)V"⟩
abbrev yBit : xMD := (xBitName, prog_20_method_49_code, 1, some .int)
abbrev yFillI : xMD := (xFillIName, prog_30_method_103_code, 4, none)
abbrev yFillL : xMD := (xFillLName, prog_30_method_101_code, 5, none)
theorem dBit_0 : decode prog_20_method_49_code 0 = .ok (.iload_n 0, 1) := by decide +kernel
theorem dBit_1 : decode prog_20_method_49_code 1 = .ok (.iload_n 0, 1) := by decide +kernel
theorem dBit_2 : decode prog_20_method_49_code 2 = .ok (.iconst 1, 1) := by decide +kernel
theorem dBit_3 : decode prog_20_method_49_code 3 = .ok (.iushr, 1) := by decide +kernel
theorem dBit_4 : decode prog_20_method_49_code 4 = .ok (.ldc_w 265, 3) := by decide +kernel
theorem dBit_7 : decode prog_20_method_49_code 7 = .ok (.iand, 1) := by decide +kernel
theorem dBit_8 : decode prog_20_method_49_code 8 = .ok (.isub, 1) := by decide +kernel
theorem dBit_9 : decode prog_20_method_49_code 9 = .ok (.istore_n 0, 1) := by decide +kernel
theorem dBit_10 : decode prog_20_method_49_code 10 = .ok (.iload_n 0, 1) := by decide +kernel
theorem dBit_11 : decode prog_20_method_49_code 11 = .ok (.ldc_w 266, 3) := by decide +kernel
theorem dBit_14 : decode prog_20_method_49_code 14 = .ok (.iand, 1) := by decide +kernel
theorem dBit_15 : decode prog_20_method_49_code 15 = .ok (.iload_n 0, 1) := by decide +kernel
theorem dBit_16 : decode prog_20_method_49_code 16 = .ok (.iconst 2, 1) := by decide +kernel
theorem dBit_17 : decode prog_20_method_49_code 17 = .ok (.iushr, 1) := by decide +kernel
theorem dBit_18 : decode prog_20_method_49_code 18 = .ok (.ldc_w 266, 3) := by decide +kernel
theorem dBit_21 : decode prog_20_method_49_code 21 = .ok (.iand, 1) := by decide +kernel
theorem dBit_22 : decode prog_20_method_49_code 22 = .ok (.iadd, 1) := by decide +kernel
theorem dBit_23 : decode prog_20_method_49_code 23 = .ok (.istore_n 0, 1) := by decide +kernel
theorem dBit_24 : decode prog_20_method_49_code 24 = .ok (.iload_n 0, 1) := by decide +kernel
theorem dBit_25 : decode prog_20_method_49_code 25 = .ok (.iload_n 0, 1) := by decide +kernel
theorem dBit_26 : decode prog_20_method_49_code 26 = .ok (.iconst 4, 1) := by decide +kernel
theorem dBit_27 : decode prog_20_method_49_code 27 = .ok (.iushr, 1) := by decide +kernel
theorem dBit_28 : decode prog_20_method_49_code 28 = .ok (.iadd, 1) := by decide +kernel
theorem dBit_29 : decode prog_20_method_49_code 29 = .ok (.ldc_w 267, 3) := by decide +kernel
theorem dBit_32 : decode prog_20_method_49_code 32 = .ok (.iand, 1) := by decide +kernel
theorem dBit_33 : decode prog_20_method_49_code 33 = .ok (.istore_n 0, 1) := by decide +kernel
theorem dBit_34 : decode prog_20_method_49_code 34 = .ok (.iload_n 0, 1) := by decide +kernel
theorem dBit_35 : decode prog_20_method_49_code 35 = .ok (.iload_n 0, 1) := by decide +kernel
theorem dBit_36 : decode prog_20_method_49_code 36 = .ok (.bipush 8, 2) := by decide +kernel
theorem dBit_38 : decode prog_20_method_49_code 38 = .ok (.iushr, 1) := by decide +kernel
theorem dBit_39 : decode prog_20_method_49_code 39 = .ok (.iadd, 1) := by decide +kernel
theorem dBit_40 : decode prog_20_method_49_code 40 = .ok (.istore_n 0, 1) := by decide +kernel
theorem dBit_41 : decode prog_20_method_49_code 41 = .ok (.iload_n 0, 1) := by decide +kernel
theorem dBit_42 : decode prog_20_method_49_code 42 = .ok (.iload_n 0, 1) := by decide +kernel
theorem dBit_43 : decode prog_20_method_49_code 43 = .ok (.bipush 16, 2) := by decide +kernel
theorem dBit_45 : decode prog_20_method_49_code 45 = .ok (.iushr, 1) := by decide +kernel
theorem dBit_46 : decode prog_20_method_49_code 46 = .ok (.iadd, 1) := by decide +kernel
theorem dBit_47 : decode prog_20_method_49_code 47 = .ok (.istore_n 0, 1) := by decide +kernel
theorem dBit_48 : decode prog_20_method_49_code 48 = .ok (.iload_n 0, 1) := by decide +kernel
theorem dBit_49 : decode prog_20_method_49_code 49 = .ok (.bipush 63, 2) := by decide +kernel
theorem dBit_51 : decode prog_20_method_49_code 51 = .ok (.iand, 1) := by decide +kernel
theorem dBit_52 : decode prog_20_method_49_code 52 = .ok (.ireturn, 1) := by decide +kernel
theorem dFillI_0 : decode prog_30_method_103_code 0 = .ok (.iconst 0, 1) := by decide +kernel
theorem dFillI_1 : decode prog_30_method_103_code 1 = .ok (.istore_n 2, 1) := by decide +kernel
theorem dFillI_2 : decode prog_30_method_103_code 2 = .ok (.aload_n 0, 1) := by decide +kernel
theorem dFillI_3 : decode prog_30_method_103_code 3 = .ok (.arraylength, 1) := by decide +kernel
theorem dFillI_4 : decode prog_30_method_103_code 4 = .ok (.istore_n 3, 1) := by decide +kernel
theorem dFillI_5 : decode prog_30_method_103_code 5 = .ok (.iload_n 2, 1) := by decide +kernel
theorem dFillI_6 : decode prog_30_method_103_code 6 = .ok (.iload_n 3, 1) := by decide +kernel
theorem dFillI_7 : decode prog_30_method_103_code 7 = .ok (.if_icmp .ge 13, 3) := by decide +kernel
theorem dFillI_10 : decode prog_30_method_103_code 10 = .ok (.aload_n 0, 1) := by decide +kernel
theorem dFillI_11 : decode prog_30_method_103_code 11 = .ok (.iload_n 2, 1) := by decide +kernel
theorem dFillI_12 : decode prog_30_method_103_code 12 = .ok (.iload_n 1, 1) := by decide +kernel
theorem dFillI_13 : decode prog_30_method_103_code 13 = .ok (.iastore, 1) := by decide +kernel
theorem dFillI_14 : decode prog_30_method_103_code 14 = .ok (.iinc 2 1, 3) := by decide +kernel
theorem dFillI_17 : decode prog_30_method_103_code 17 = .ok (.goto (-12), 3) := by decide +kernel
theorem dFillI_20 : decode prog_30_method_103_code 20 = .ok (.return_, 1) := by decide +kernel
theorem dFillL_0 : decode prog_30_method_101_code 0 = .ok (.iconst 0, 1) := by decide +kernel
theorem dFillL_1 : decode prog_30_method_101_code 1 = .ok (.istore_n 3, 1) := by decide +kernel
theorem dFillL_2 : decode prog_30_method_101_code 2 = .ok (.aload_n 0, 1) := by decide +kernel
theorem dFillL_3 : decode prog_30_method_101_code 3 = .ok (.arraylength, 1) := by decide +kernel
theorem dFillL_4 : decode prog_30_method_101_code 4 = .ok (.istore 4, 2) := by decide +kernel
theorem dFillL_6 : decode prog_30_method_101_code 6 = .ok (.iload_n 3, 1) := by decide +kernel
theorem dFillL_7 : decode prog_30_method_101_code 7 = .ok (.iload 4, 2) := by decide +kernel
theorem dFillL_9 : decode prog_30_method_101_code 9 = .ok (.if_icmp .ge 13, 3) := by decide +kernel
theorem dFillL_12 : decode prog_30_method_101_code 12 = .ok (.aload_n 0, 1) := by decide +kernel
theorem dFillL_13 : decode prog_30_method_101_code 13 = .ok (.iload_n 3, 1) := by decide +kernel
theorem dFillL_14 : decode prog_30_method_101_code 14 = .ok (.lload_n 1, 1) := by decide +kernel
theorem dFillL_15 : decode prog_30_method_101_code 15 = .ok (.lastore, 1) := by decide +kernel
theorem dFillL_16 : decode prog_30_method_101_code 16 = .ok (.iinc 3 1, 3) := by decide +kernel
theorem dFillL_19 : decode prog_30_method_101_code 19 = .ok (.goto (-13), 3) := by decide +kernel
theorem dFillL_22 : decode prog_30_method_101_code 22 = .ok (.return_, 1) := by decide +kernel
theorem kBit_265 : Cond.constant "java/lang/Integer" 265 1431655765 ∈ xTB := x_tb (tb4 92 (by decide +kernel)) rfl
theorem kBit_266 : Cond.constant "java/lang/Integer" 266 858993459 ∈ xTB := x_tb (tb4 93 (by decide +kernel)) rfl
theorem kBit_267 : Cond.constant "java/lang/Integer" 267 252645135 ∈ xTB := x_tb (tb4 94 (by decide +kernel)) rfl
theorem w_bit : xMY yBit 1 ∧ Cond.static yBit.1 ∈ xTB := ⟨⟨x_tb (tb1 25 (by decide +kernel)) rfl, x_tb (tb4 91 (by decide +kernel)) rfl, by decide +kernel, by decide⟩, x_tb (tb4 90 (by decide +kernel)) rfl⟩
theorem w_fillI : xMY yFillI 2 ∧ Cond.static yFillI.1 ∈ xTB := ⟨⟨x_tb (tb1 18 (by decide +kernel)) rfl, x_tb (tb4 189 (by decide +kernel)) rfl, by decide +kernel, by decide⟩, x_tb (tb4 188 (by decide +kernel)) rfl⟩
theorem w_fillL : xMY yFillL 2 ∧ Cond.static yFillL.1 ∈ xTB := ⟨⟨x_tb (tb1 18 (by decide +kernel)) rfl, x_tb (tb4 216 (by decide +kernel)) rfl, by decide +kernel, by decide⟩, x_tb (tb4 215 (by decide +kernel)) rfl⟩
theorem s_bit {a : Int} {n : Nat} {σ : xW} : xC 0 0 0 yBit [vI a] n σ (fun r n' σ' => r = [vI (xbc a)] ∧ n' = n ∧ σ' = σ) := by
  refine xC.of [vI a] (by decide +kernel) (Nat.le_of_ble_eq_true rfl) rfl ?_
  refine g_iln dBit_0 rfl rfl ?_
  refine g_iln dBit_1 rfl rfl ?_
  refine g_ic dBit_2 ?_
  refine g_iushr dBit_3 ?_
  refine g_ldcw (w := 1431655765) dBit_4 kBit_265 (by decide) ?_
  refine g_iand dBit_7 ?_
  refine g_isub dBit_8 ?_
  refine g_istn_0 dBit_9 (by decide) ?_
  refine g_iln dBit_10 rfl rfl ?_
  refine g_ldcw (w := 858993459) dBit_11 kBit_266 (by decide) ?_
  refine g_iand dBit_14 ?_
  refine g_iln dBit_15 rfl rfl ?_
  refine g_ic dBit_16 ?_
  refine g_iushr dBit_17 ?_
  refine g_ldcw (w := 858993459) dBit_18 kBit_266 (by decide) ?_
  refine g_iand dBit_21 ?_
  refine g_iadd dBit_22 ?_
  refine g_istn_0 dBit_23 (by decide) ?_
  refine g_iln dBit_24 rfl rfl ?_
  refine g_iln dBit_25 rfl rfl ?_
  refine g_ic dBit_26 ?_
  refine g_iushr dBit_27 ?_
  refine g_iadd dBit_28 ?_
  refine g_ldcw (w := 252645135) dBit_29 kBit_267 (by decide) ?_
  refine g_iand dBit_32 ?_
  refine g_istn_0 dBit_33 (by decide) ?_
  refine g_iln dBit_34 rfl rfl ?_
  refine g_iln dBit_35 rfl rfl ?_
  refine g_bi dBit_36 (by decide) ?_
  refine g_iushr dBit_38 ?_
  refine g_iadd dBit_39 ?_
  refine g_istn_0 dBit_40 (by decide) ?_
  refine g_iln dBit_41 rfl rfl ?_
  refine g_iln dBit_42 rfl rfl ?_
  refine g_bi dBit_43 (by decide) ?_
  refine g_iushr dBit_45 ?_
  refine g_iadd dBit_46 ?_
  refine g_istn_0 dBit_47 (by decide) ?_
  refine g_iln dBit_48 rfl rfl ?_
  refine g_bi dBit_49 (by decide) ?_
  refine g_iand dBit_51 ?_
  refine g_same (S' := [vI (xbc a)]) (fun E => ?_) (g_retI rfl dBit_52 ⟨rfl, rfl, rfl⟩)
  show [Value.int (Int32.ofInt (xbc a))] = [Value.int (Int32.ofInt _)]
  congr 2
  have e1 : Int32.ofInt 1 = 1 := rfl
  have e2 : Int32.ofInt 2 = 2 := rfl
  have e4 : Int32.ofInt 4 = 4 := rfl
  have e8 : Int32.ofInt 8 = 8 := rfl
  have e16 : Int32.ofInt 16 = 16 := rfl
  have e63 : Int32.ofInt 63 = 63 := rfl
  have f1 : Int32.ofInt 1431655765 = 1431655765 := rfl
  have f2 : Int32.ofInt 858993459 = 858993459 := rfl
  have f3 : Int32.ofInt 252645135 = 252645135 := rfl
  simp only [vI, xbc, xbcN, xand, xushr, Int32.ofInt_sub, Int32.ofInt_add, Int32.ofInt_toInt, e1, e2, e4, e8, e16, e63, f1, f2, f3]
theorem xfl_0 {σ : xW} {a x : Int} : xfl σ a 0 x = σ := by funext c j; unfold xfl; rw [if_neg (by omega)]
theorem xfl_s {σ : xW} {a x : Int} {j : Nat} : xu (xfl σ a j x) a j x = xfl σ a (j + 1) x := by
  funext c k
  unfold xu xfl
  by_cases h : c = a ∧ k = (j : Int)
  · rw [if_pos h, if_pos (by omega)]
  · rw [if_neg h]
    by_cases h2 : c = a ∧ 0 ≤ k ∧ k < (j : Int)
    · rw [if_pos h2, if_pos (by omega)]
    · rw [if_neg h2, if_neg (by omega)]
theorem fillI_loop {a x : Int} {len : Nat} {σ : xW} (hs : xia 155 a 1 len = true) (hlen : len ≤ 2147483647) (ha : 0 ≤ a) : ∀ (k j : Nat), j + k = len → xG 0 0 0 yFillI 5 [vR a, vI x, vI (j : Int), vI (len : Int)] [] 155 (xfl σ a j x) (xR0 (xfl σ a len x)) := by
  intro k
  induction k with
  | zero =>
    intro j hj
    refine g_iln dFillI_5 rfl rfl (g_iln dFillI_6 rfl rfl (g_cge dFillI_7 (tgt := 20) rfl ⟨by omega, by omega⟩ ⟨by omega, by omega⟩ (fun _ => ?_) (fun h => absurd h (by omega))))
    rw [show j = len by omega]
    exact g_retV rfl dFillI_20 ⟨rfl, rfl, rfl⟩
  | succ k ih =>
    intro j hj
    refine g_iln dFillI_5 rfl rfl (g_iln dFillI_6 rfl rfl (g_cge dFillI_7 (tgt := 20) rfl ⟨by omega, by omega⟩ ⟨by omega, by omega⟩ (fun h => absurd h (by omega)) (fun _ => ?_)))
    refine g_aln dFillI_10 rfl rfl ha (g_iln dFillI_11 rfl rfl (g_iln dFillI_12 rfl rfl (g_iast len dFillI_13 hs ⟨by omega, by omega⟩ hlen ?_)))
    rw [xfl_s]
    exact g_inc_2 dFillI_14 (by decide) rfl (g_goto dFillI_17 (tgt := 5) rfl (ih (j + 1) (by omega)))
theorem s_fillI {a x : Int} {len : Nat} {σ : xW} (hs : xia 155 a 1 len = true) (hlen : len ≤ 2147483647) : xC 0 0 0 yFillI [vR a, vI x] 155 σ (xR0 (xfl σ a len x)) := by
  have ha := (xia_spec hs).1
  refine xC.of [vR a, vI x, vX, vX] (by decide +kernel) (Nat.le_of_ble_eq_true rfl) rfl ?_
  refine g_ic dFillI_0 (g_istn_2 dFillI_1 (by decide) rfl (g_aln dFillI_2 rfl rfl ha (g_alen 1 len dFillI_3 hs (Or.inl rfl) (g_istn_3 dFillI_4 (by decide) rfl ?_))))
  have := fillI_loop (x := x) (σ := σ) hs hlen ha len 0 (by omega)
  rw [xfl_0] at this
  exact this
theorem fillL_loop {a x : Int} {len : Nat} {σ : xW} (hs : xia 155 a 2 len = true) (hlen : len ≤ 2147483647) (ha : 0 ≤ a) : ∀ (k j : Nat), j + k = len → xG 0 0 0 yFillL 6 [vR a, vL x, vX, vI (j : Int), vI (len : Int)] [] 155 (xfl σ a j x) (xR0 (xfl σ a len x)) := by
  intro k
  induction k with
  | zero =>
    intro j hj
    refine g_iln dFillL_6 rfl rfl (g_il dFillL_7 rfl (g_cge dFillL_9 (tgt := 22) rfl ⟨by omega, by omega⟩ ⟨by omega, by omega⟩ (fun _ => ?_) (fun h => absurd h (by omega))))
    rw [show j = len by omega]
    exact g_retV rfl dFillL_22 ⟨rfl, rfl, rfl⟩
  | succ k ih =>
    intro j hj
    refine g_iln dFillL_6 rfl rfl (g_il dFillL_7 rfl (g_cge dFillL_9 (tgt := 22) rfl ⟨by omega, by omega⟩ ⟨by omega, by omega⟩ (fun h => absurd h (by omega)) (fun _ => ?_)))
    refine g_aln dFillL_12 rfl rfl ha (g_iln dFillL_13 rfl rfl (g_lln dFillL_14 rfl rfl (g_last len dFillL_15 hs ⟨by omega, by omega⟩ hlen ?_)))
    rw [xfl_s]
    exact g_inc_3 dFillL_16 (by decide) rfl (g_goto dFillL_19 (tgt := 6) rfl (ih (j + 1) (by omega)))
theorem s_fillL {a x : Int} {len : Nat} {σ : xW} (hs : xia 155 a 2 len = true) (hlen : len ≤ 2147483647) : xC 0 0 0 yFillL [vR a, vL x] 155 σ (xR0 (xfl σ a len x)) := by
  have ha := (xia_spec hs).1
  refine xC.of [vR a, vL x, vX, vX, vX] (by decide +kernel) (Nat.le_of_ble_eq_true rfl) rfl ?_
  refine g_ic dFillL_0 (g_istn_3 dFillL_1 (by decide) rfl (g_aln dFillL_2 rfl rfl ha (g_alen 2 len dFillL_3 hs (Or.inr rfl) (g_ist_4 dFillL_4 (by decide) rfl ?_))))
  have := fillL_loop (x := x) (σ := σ) hs hlen ha len 0 (by omega)
  rw [xfl_0] at this
  exact this
section XL
variable {d bc bs : Nat} {Y : xMD} {pc : Nat} {L S : List xV} {n : Nat} {σ σ1 : xW} {K : List xV → Nat → xW → Prop}
theorem g_bitc {a : Int} {i : Nat} (hd : decode Y.2.1 pc = .ok (.invokestatic i, 3)) (hm : Cond.methodLink Y.1.cls i xBitName ∈ xTB) (hdd : 1 ≤ d) (hrest : decide ((S.map (fun v => if v.1 = 1 then 2 else 1)).sum ≤ 8) = true) (k : xG d bc bs Y (pc + 3) L (vI (xbc a) :: S) n σ K) : xG d bc bs Y pc L (vI a :: S) n σ K :=
  g_callS (as := [vI a]) (d' := 0) (b1 := 0) (b2 := 0) (Y' := yBit) hd ⟨Or.inl hm, w_bit.1, w_bit.2⟩ s_bit rfl hdd (of_decide_eq_true hrest) (fun r n' σ' _ hK => by obtain ⟨rfl, rfl, rfl⟩ := hK; exact k)
theorem h_fillI {a x : Int} {i : Nat} (len : Nat) (hd : decode Y.2.1 pc = .ok (.invokestatic i, 3)) (hm : Cond.methodLink Y.1.cls i xFillIName ∈ xTB) (hs : xia 155 a 1 len = true) (hlen : len ≤ 2147483647) (hdd : 1 ≤ d) (hrest : decide ((S.map (fun v => if v.1 = 1 then 2 else 1)).sum ≤ 8) = true) (he : xfl σ a len x = σ1) (kk : xG d bc bs Y (pc + 3) L S 155 σ1 K) : xG d bc bs Y pc L (vI x :: vR a :: S) 155 σ K :=
  g_callS (as := [vR a, vI x]) (d' := 0) (b1 := 0) (b2 := 0) (Y' := yFillI) hd ⟨Or.inl hm, w_fillI.1, w_fillI.2⟩ (s_fillI hs hlen) rfl hdd (of_decide_eq_true hrest) (fun r n' σ' _ hK => by obtain ⟨rfl, rfl, rfl⟩ := hK; rw [he]; exact kk)
theorem h_fillL {a x : Int} {i : Nat} (len : Nat) (hd : decode Y.2.1 pc = .ok (.invokestatic i, 3)) (hm : Cond.methodLink Y.1.cls i xFillLName ∈ xTB) (hs : xia 155 a 2 len = true) (hlen : len ≤ 2147483647) (hdd : 1 ≤ d) (hrest : decide ((S.map (fun v => if v.1 = 1 then 2 else 1)).sum ≤ 8) = true) (he : xfl σ a len x = σ1) (kk : xG d bc bs Y (pc + 3) L S 155 σ1 K) : xG d bc bs Y pc L (vL x :: vR a :: S) 155 σ K :=
  g_callS (as := [vR a, vL x]) (d' := 0) (b1 := 0) (b2 := 0) (Y' := yFillL) hd ⟨Or.inl hm, w_fillL.1, w_fillL.2⟩ (s_fillL hs hlen) rfl hdd (of_decide_eq_true hrest) (fun r n' σ' _ hK => by obtain ⟨rfl, rfl, rfl⟩ := hK; rw [he]; exact kk)
end XL
theorem bc_X10_294 : Cond.methodLink RX10 294 xBitName ∈ xTB := x_tb (tb4 89 (by decide +kernel)) rfl
theorem bc_X11_310 : Cond.methodLink RX11 310 xBitName ∈ xTB := x_tb (tb7 135 (by decide +kernel)) rfl
theorem fl_X10_470 : Cond.methodLink RX10 470 xFillIName ∈ xTB := x_tb (tb4 187 (by decide +kernel)) rfl
theorem fl_X10_354 : Cond.methodLink RX10 354 xFillLName ∈ xTB := x_tb (tb4 214 (by decide +kernel)) rfl
