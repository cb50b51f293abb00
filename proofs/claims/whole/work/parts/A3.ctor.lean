theorem dX9_init_0 : decode cX9_init 0 = .ok (.aload_n 0, 1) := by decide +kernel
theorem dX9_init_1 : decode cX9_init 1 = .ok (.invokespecial 3, 3) := by decide +kernel
theorem dX9_init_4 : decode cX9_init 4 = .ok (.aload_n 0, 1) := by decide +kernel
theorem dX9_init_5 : decode cX9_init 5 = .ok (.iconst 0, 1) := by decide +kernel
theorem dX9_init_6 : decode cX9_init 6 = .ok (.putfield 9, 3) := by decide +kernel
theorem dX9_init_9 : decode cX9_init 9 = .ok (.aload_n 0, 1) := by decide +kernel
theorem dX9_init_10 : decode cX9_init 10 = .ok (.bipush 99, 2) := by decide +kernel
theorem dX9_init_12 : decode cX9_init 12 = .ok (.putfield 15, 3) := by decide +kernel
theorem dX9_init_15 : decode cX9_init 15 = .ok (.aload_n 0, 1) := by decide +kernel
theorem dX9_init_16 : decode cX9_init 16 = .ok (.bipush 20, 2) := by decide +kernel
theorem dX9_init_18 : decode cX9_init 18 = .ok (.putfield 18, 3) := by decide +kernel
theorem dX9_init_21 : decode cX9_init 21 = .ok (.aload_n 0, 1) := by decide +kernel
theorem dX9_init_22 : decode cX9_init 22 = .ok (.iconst 0, 1) := by decide +kernel
theorem dX9_init_23 : decode cX9_init 23 = .ok (.putfield 21, 3) := by decide +kernel
theorem dX9_init_26 : decode cX9_init 26 = .ok (.aload_n 0, 1) := by decide +kernel
theorem dX9_init_27 : decode cX9_init 27 = .ok (.iconst 0, 1) := by decide +kernel
theorem dX9_init_28 : decode cX9_init 28 = .ok (.putfield 24, 3) := by decide +kernel
theorem dX9_init_31 : decode cX9_init 31 = .ok (.aload_n 0, 1) := by decide +kernel
theorem dX9_init_32 : decode cX9_init 32 = .ok (.iconst 0, 1) := by decide +kernel
theorem dX9_init_33 : decode cX9_init 33 = .ok (.putfield 27, 3) := by decide +kernel
theorem dX9_init_36 : decode cX9_init 36 = .ok (.aload_n 0, 1) := by decide +kernel
theorem dX9_init_37 : decode cX9_init 37 = .ok (.bipush 8, 2) := by decide +kernel
theorem dX9_init_39 : decode cX9_init 39 = .ok (.newarray .int, 2) := by decide +kernel
theorem dX9_init_41 : decode cX9_init 41 = .ok (.putfield 30, 3) := by decide +kernel
theorem dX9_init_44 : decode cX9_init 44 = .ok (.aload_n 0, 1) := by decide +kernel
theorem dX9_init_45 : decode cX9_init 45 = .ok (.bipush 8, 2) := by decide +kernel
theorem dX9_init_47 : decode cX9_init 47 = .ok (.newarray .int, 2) := by decide +kernel
theorem dX9_init_49 : decode cX9_init 49 = .ok (.putfield 34, 3) := by decide +kernel
theorem dX9_init_52 : decode cX9_init 52 = .ok (.aload_n 0, 1) := by decide +kernel
theorem dX9_init_53 : decode cX9_init 53 = .ok (.bipush 8, 2) := by decide +kernel
theorem dX9_init_55 : decode cX9_init 55 = .ok (.newarray .int, 2) := by decide +kernel
theorem dX9_init_57 : decode cX9_init 57 = .ok (.putfield 37, 3) := by decide +kernel
theorem dX9_init_60 : decode cX9_init 60 = .ok (.return_, 1) := by decide +kernel
theorem ob_X9_3 : Cond.methodLink RX9 3 Lib.objectInit ∈ xTB := x_tb (tb1 126 (by decide +kernel)) rfl
def w_X9_17 (σ : xW) : xW := xu (xnz (xu (xnz (xu (xnz (xu (xu (xu (xu (xu (xu σ 17 0 0) 17 1 99) 17 2 20) 17 3 0) 17 4 0) 17 5 0) 18) 17 6 18) 19) 17 7 19) 20) 17 8 20
theorem k_X9_17 {σ : xW} : xCN 1 3 24 mX9_init [vR 17] 18 σ (fun r n' σ' => r = [] ∧ n' = 21 ∧ σ' = w_X9_17 σ) := by
  refine xCN.of [vR 17] (by decide +kernel) (Nat.le_of_ble_eq_true rfl) rfl ?_
  refine n_aln dX9_init_0 rfl rfl (by decide) ?_
  refine n_obj (by decide) dX9_init_1 ob_X9_3 (by decide) rfl ?_
  refine n_aln dX9_init_4 rfl rfl (by decide) ?_
  refine n_ic dX9_init_5 ?_
  refine m_put (x := 0) (t := 0) dX9_init_6 fl_X9_9 rfl rfl (fun _ => ⟨rfl, rfl⟩) (fun h => nomatch h) rfl ?_
  refine n_aln dX9_init_9 rfl rfl (by decide) ?_
  refine n_bi dX9_init_10 (by decide) ?_
  refine m_put (x := 99) (t := 0) dX9_init_12 fl_X9_15 rfl rfl (fun _ => ⟨rfl, rfl⟩) (fun h => nomatch h) rfl ?_
  refine n_aln dX9_init_15 rfl rfl (by decide) ?_
  refine n_bi dX9_init_16 (by decide) ?_
  refine m_put (x := 20) (t := 0) dX9_init_18 fl_X9_18 rfl rfl (fun _ => ⟨rfl, rfl⟩) (fun h => nomatch h) rfl ?_
  refine n_aln dX9_init_21 rfl rfl (by decide) ?_
  refine n_ic dX9_init_22 ?_
  refine m_put (x := 0) (t := 0) dX9_init_23 fl_X9_21 rfl rfl (fun _ => ⟨rfl, rfl⟩) (fun h => nomatch h) rfl ?_
  refine n_aln dX9_init_26 rfl rfl (by decide) ?_
  refine n_ic dX9_init_27 ?_
  refine m_put (x := 0) (t := 0) dX9_init_28 fl_X9_24 rfl rfl (fun _ => ⟨rfl, rfl⟩) (fun h => nomatch h) rfl ?_
  refine n_aln dX9_init_31 rfl rfl (by decide) ?_
  refine n_ic dX9_init_32 ?_
  refine m_put (x := 0) (t := 0) dX9_init_33 fl_X9_27 rfl rfl (fun _ => ⟨rfl, rfl⟩) (fun h => nomatch h) rfl ?_
  refine n_aln dX9_init_36 rfl rfl (by decide) ?_
  refine n_bi dX9_init_37 (by decide) ?_
  refine m_newa (bc := 2) (bs := 16) (len := 8) (n1 := 19) dX9_init_39 rfl ac_1 rfl rfl rfl rfl (by decide) rfl rfl ?_
  refine m_put (x := 18) (t := 28) dX9_init_41 fl_X9_30 rfl rfl (fun _ => ⟨rfl, rfl⟩) (fun _ => ⟨rfl, rfl, _, _, _, rfl, x_tb (tb1 139 (by decide +kernel)) rfl⟩) rfl ?_
  refine n_aln dX9_init_44 rfl rfl (by decide) ?_
  refine n_bi dX9_init_45 (by decide) ?_
  refine m_newa (bc := 1) (bs := 8) (len := 8) (n1 := 20) dX9_init_47 rfl ac_1 rfl rfl rfl rfl (by decide) rfl rfl ?_
  refine m_put (x := 19) (t := 29) dX9_init_49 fl_X9_34 rfl rfl (fun _ => ⟨rfl, rfl⟩) (fun _ => ⟨rfl, rfl, _, _, _, rfl, x_tb (tb1 141 (by decide +kernel)) rfl⟩) rfl ?_
  refine n_aln dX9_init_52 rfl rfl (by decide) ?_
  refine n_bi dX9_init_53 (by decide) ?_
  refine m_newa (bc := 0) (bs := 0) (len := 8) (n1 := 21) dX9_init_55 rfl ac_1 rfl rfl rfl rfl (by decide) rfl rfl ?_
  refine m_put (x := 20) (t := 30) dX9_init_57 fl_X9_37 rfl rfl (fun _ => ⟨rfl, rfl⟩) (fun _ => ⟨rfl, rfl, _, _, _, rfl, x_tb (tb1 143 (by decide +kernel)) rfl⟩) rfl ?_
  exact n_ret (r := []) dX9_init_60 trivial ⟨rfl, rfl, rfl⟩ rfl
def w_X9_23 (σ : xW) : xW := xu (xnz (xu (xnz (xu (xnz (xu (xu (xu (xu (xu (xu σ 23 0 0) 23 1 99) 23 2 20) 23 3 0) 23 4 0) 23 5 0) 24) 23 6 24) 25) 23 7 25) 26) 23 8 26
theorem k_X9_23 {σ : xW} : xCN 1 3 24 mX9_init [vR 23] 24 σ (fun r n' σ' => r = [] ∧ n' = 27 ∧ σ' = w_X9_23 σ) := by
  refine xCN.of [vR 23] (by decide +kernel) (Nat.le_of_ble_eq_true rfl) rfl ?_
  refine n_aln dX9_init_0 rfl rfl (by decide) ?_
  refine n_obj (by decide) dX9_init_1 ob_X9_3 (by decide) rfl ?_
  refine n_aln dX9_init_4 rfl rfl (by decide) ?_
  refine n_ic dX9_init_5 ?_
  refine m_put (x := 0) (t := 0) dX9_init_6 fl_X9_9 rfl rfl (fun _ => ⟨rfl, rfl⟩) (fun h => nomatch h) rfl ?_
  refine n_aln dX9_init_9 rfl rfl (by decide) ?_
  refine n_bi dX9_init_10 (by decide) ?_
  refine m_put (x := 99) (t := 0) dX9_init_12 fl_X9_15 rfl rfl (fun _ => ⟨rfl, rfl⟩) (fun h => nomatch h) rfl ?_
  refine n_aln dX9_init_15 rfl rfl (by decide) ?_
  refine n_bi dX9_init_16 (by decide) ?_
  refine m_put (x := 20) (t := 0) dX9_init_18 fl_X9_18 rfl rfl (fun _ => ⟨rfl, rfl⟩) (fun h => nomatch h) rfl ?_
  refine n_aln dX9_init_21 rfl rfl (by decide) ?_
  refine n_ic dX9_init_22 ?_
  refine m_put (x := 0) (t := 0) dX9_init_23 fl_X9_21 rfl rfl (fun _ => ⟨rfl, rfl⟩) (fun h => nomatch h) rfl ?_
  refine n_aln dX9_init_26 rfl rfl (by decide) ?_
  refine n_ic dX9_init_27 ?_
  refine m_put (x := 0) (t := 0) dX9_init_28 fl_X9_24 rfl rfl (fun _ => ⟨rfl, rfl⟩) (fun h => nomatch h) rfl ?_
  refine n_aln dX9_init_31 rfl rfl (by decide) ?_
  refine n_ic dX9_init_32 ?_
  refine m_put (x := 0) (t := 0) dX9_init_33 fl_X9_27 rfl rfl (fun _ => ⟨rfl, rfl⟩) (fun h => nomatch h) rfl ?_
  refine n_aln dX9_init_36 rfl rfl (by decide) ?_
  refine n_bi dX9_init_37 (by decide) ?_
  refine m_newa (bc := 2) (bs := 16) (len := 8) (n1 := 25) dX9_init_39 rfl ac_1 rfl rfl rfl rfl (by decide) rfl rfl ?_
  refine m_put (x := 24) (t := 34) dX9_init_41 fl_X9_30 rfl rfl (fun _ => ⟨rfl, rfl⟩) (fun _ => ⟨rfl, rfl, _, _, _, rfl, x_tb (tb1 139 (by decide +kernel)) rfl⟩) rfl ?_
  refine n_aln dX9_init_44 rfl rfl (by decide) ?_
  refine n_bi dX9_init_45 (by decide) ?_
  refine m_newa (bc := 1) (bs := 8) (len := 8) (n1 := 26) dX9_init_47 rfl ac_1 rfl rfl rfl rfl (by decide) rfl rfl ?_
  refine m_put (x := 25) (t := 35) dX9_init_49 fl_X9_34 rfl rfl (fun _ => ⟨rfl, rfl⟩) (fun _ => ⟨rfl, rfl, _, _, _, rfl, x_tb (tb1 141 (by decide +kernel)) rfl⟩) rfl ?_
  refine n_aln dX9_init_52 rfl rfl (by decide) ?_
  refine n_bi dX9_init_53 (by decide) ?_
  refine m_newa (bc := 0) (bs := 0) (len := 8) (n1 := 27) dX9_init_55 rfl ac_1 rfl rfl rfl rfl (by decide) rfl rfl ?_
  refine m_put (x := 26) (t := 36) dX9_init_57 fl_X9_37 rfl rfl (fun _ => ⟨rfl, rfl⟩) (fun _ => ⟨rfl, rfl, _, _, _, rfl, x_tb (tb1 143 (by decide +kernel)) rfl⟩) rfl ?_
  exact n_ret (r := []) dX9_init_60 trivial ⟨rfl, rfl, rfl⟩ rfl
def w_X9_27 (σ : xW) : xW := xu (xnz (xu (xnz (xu (xnz (xu (xu (xu (xu (xu (xu σ 27 0 0) 27 1 99) 27 2 20) 27 3 0) 27 4 0) 27 5 0) 28) 27 6 28) 29) 27 7 29) 30) 27 8 30
theorem k_X9_27 {σ : xW} : xCN 1 3 24 mX9_init [vR 27] 28 σ (fun r n' σ' => r = [] ∧ n' = 31 ∧ σ' = w_X9_27 σ) := by
  refine xCN.of [vR 27] (by decide +kernel) (Nat.le_of_ble_eq_true rfl) rfl ?_
  refine n_aln dX9_init_0 rfl rfl (by decide) ?_
  refine n_obj (by decide) dX9_init_1 ob_X9_3 (by decide) rfl ?_
  refine n_aln dX9_init_4 rfl rfl (by decide) ?_
  refine n_ic dX9_init_5 ?_
  refine m_put (x := 0) (t := 0) dX9_init_6 fl_X9_9 rfl rfl (fun _ => ⟨rfl, rfl⟩) (fun h => nomatch h) rfl ?_
  refine n_aln dX9_init_9 rfl rfl (by decide) ?_
  refine n_bi dX9_init_10 (by decide) ?_
  refine m_put (x := 99) (t := 0) dX9_init_12 fl_X9_15 rfl rfl (fun _ => ⟨rfl, rfl⟩) (fun h => nomatch h) rfl ?_
  refine n_aln dX9_init_15 rfl rfl (by decide) ?_
  refine n_bi dX9_init_16 (by decide) ?_
  refine m_put (x := 20) (t := 0) dX9_init_18 fl_X9_18 rfl rfl (fun _ => ⟨rfl, rfl⟩) (fun h => nomatch h) rfl ?_
  refine n_aln dX9_init_21 rfl rfl (by decide) ?_
  refine n_ic dX9_init_22 ?_
  refine m_put (x := 0) (t := 0) dX9_init_23 fl_X9_21 rfl rfl (fun _ => ⟨rfl, rfl⟩) (fun h => nomatch h) rfl ?_
  refine n_aln dX9_init_26 rfl rfl (by decide) ?_
  refine n_ic dX9_init_27 ?_
  refine m_put (x := 0) (t := 0) dX9_init_28 fl_X9_24 rfl rfl (fun _ => ⟨rfl, rfl⟩) (fun h => nomatch h) rfl ?_
  refine n_aln dX9_init_31 rfl rfl (by decide) ?_
  refine n_ic dX9_init_32 ?_
  refine m_put (x := 0) (t := 0) dX9_init_33 fl_X9_27 rfl rfl (fun _ => ⟨rfl, rfl⟩) (fun h => nomatch h) rfl ?_
  refine n_aln dX9_init_36 rfl rfl (by decide) ?_
  refine n_bi dX9_init_37 (by decide) ?_
  refine m_newa (bc := 2) (bs := 16) (len := 8) (n1 := 29) dX9_init_39 rfl ac_1 rfl rfl rfl rfl (by decide) rfl rfl ?_
  refine m_put (x := 28) (t := 38) dX9_init_41 fl_X9_30 rfl rfl (fun _ => ⟨rfl, rfl⟩) (fun _ => ⟨rfl, rfl, _, _, _, rfl, x_tb (tb1 139 (by decide +kernel)) rfl⟩) rfl ?_
  refine n_aln dX9_init_44 rfl rfl (by decide) ?_
  refine n_bi dX9_init_45 (by decide) ?_
  refine m_newa (bc := 1) (bs := 8) (len := 8) (n1 := 30) dX9_init_47 rfl ac_1 rfl rfl rfl rfl (by decide) rfl rfl ?_
  refine m_put (x := 29) (t := 39) dX9_init_49 fl_X9_34 rfl rfl (fun _ => ⟨rfl, rfl⟩) (fun _ => ⟨rfl, rfl, _, _, _, rfl, x_tb (tb1 141 (by decide +kernel)) rfl⟩) rfl ?_
  refine n_aln dX9_init_52 rfl rfl (by decide) ?_
  refine n_bi dX9_init_53 (by decide) ?_
  refine m_newa (bc := 0) (bs := 0) (len := 8) (n1 := 31) dX9_init_55 rfl ac_1 rfl rfl rfl rfl (by decide) rfl rfl ?_
  refine m_put (x := 30) (t := 40) dX9_init_57 fl_X9_37 rfl rfl (fun _ => ⟨rfl, rfl⟩) (fun _ => ⟨rfl, rfl, _, _, _, rfl, x_tb (tb1 143 (by decide +kernel)) rfl⟩) rfl ?_
  exact n_ret (r := []) dX9_init_60 trivial ⟨rfl, rfl, rfl⟩ rfl
def w_X9_31 (σ : xW) : xW := xu (xnz (xu (xnz (xu (xnz (xu (xu (xu (xu (xu (xu σ 31 0 0) 31 1 99) 31 2 20) 31 3 0) 31 4 0) 31 5 0) 32) 31 6 32) 33) 31 7 33) 34) 31 8 34
theorem k_X9_31 {σ : xW} : xCN 1 3 24 mX9_init [vR 31] 32 σ (fun r n' σ' => r = [] ∧ n' = 35 ∧ σ' = w_X9_31 σ) := by
  refine xCN.of [vR 31] (by decide +kernel) (Nat.le_of_ble_eq_true rfl) rfl ?_
  refine n_aln dX9_init_0 rfl rfl (by decide) ?_
  refine n_obj (by decide) dX9_init_1 ob_X9_3 (by decide) rfl ?_
  refine n_aln dX9_init_4 rfl rfl (by decide) ?_
  refine n_ic dX9_init_5 ?_
  refine m_put (x := 0) (t := 0) dX9_init_6 fl_X9_9 rfl rfl (fun _ => ⟨rfl, rfl⟩) (fun h => nomatch h) rfl ?_
  refine n_aln dX9_init_9 rfl rfl (by decide) ?_
  refine n_bi dX9_init_10 (by decide) ?_
  refine m_put (x := 99) (t := 0) dX9_init_12 fl_X9_15 rfl rfl (fun _ => ⟨rfl, rfl⟩) (fun h => nomatch h) rfl ?_
  refine n_aln dX9_init_15 rfl rfl (by decide) ?_
  refine n_bi dX9_init_16 (by decide) ?_
  refine m_put (x := 20) (t := 0) dX9_init_18 fl_X9_18 rfl rfl (fun _ => ⟨rfl, rfl⟩) (fun h => nomatch h) rfl ?_
  refine n_aln dX9_init_21 rfl rfl (by decide) ?_
  refine n_ic dX9_init_22 ?_
  refine m_put (x := 0) (t := 0) dX9_init_23 fl_X9_21 rfl rfl (fun _ => ⟨rfl, rfl⟩) (fun h => nomatch h) rfl ?_
  refine n_aln dX9_init_26 rfl rfl (by decide) ?_
  refine n_ic dX9_init_27 ?_
  refine m_put (x := 0) (t := 0) dX9_init_28 fl_X9_24 rfl rfl (fun _ => ⟨rfl, rfl⟩) (fun h => nomatch h) rfl ?_
  refine n_aln dX9_init_31 rfl rfl (by decide) ?_
  refine n_ic dX9_init_32 ?_
  refine m_put (x := 0) (t := 0) dX9_init_33 fl_X9_27 rfl rfl (fun _ => ⟨rfl, rfl⟩) (fun h => nomatch h) rfl ?_
  refine n_aln dX9_init_36 rfl rfl (by decide) ?_
  refine n_bi dX9_init_37 (by decide) ?_
  refine m_newa (bc := 2) (bs := 16) (len := 8) (n1 := 33) dX9_init_39 rfl ac_1 rfl rfl rfl rfl (by decide) rfl rfl ?_
  refine m_put (x := 32) (t := 42) dX9_init_41 fl_X9_30 rfl rfl (fun _ => ⟨rfl, rfl⟩) (fun _ => ⟨rfl, rfl, _, _, _, rfl, x_tb (tb1 139 (by decide +kernel)) rfl⟩) rfl ?_
  refine n_aln dX9_init_44 rfl rfl (by decide) ?_
  refine n_bi dX9_init_45 (by decide) ?_
  refine m_newa (bc := 1) (bs := 8) (len := 8) (n1 := 34) dX9_init_47 rfl ac_1 rfl rfl rfl rfl (by decide) rfl rfl ?_
  refine m_put (x := 33) (t := 43) dX9_init_49 fl_X9_34 rfl rfl (fun _ => ⟨rfl, rfl⟩) (fun _ => ⟨rfl, rfl, _, _, _, rfl, x_tb (tb1 141 (by decide +kernel)) rfl⟩) rfl ?_
  refine n_aln dX9_init_52 rfl rfl (by decide) ?_
  refine n_bi dX9_init_53 (by decide) ?_
  refine m_newa (bc := 0) (bs := 0) (len := 8) (n1 := 35) dX9_init_55 rfl ac_1 rfl rfl rfl rfl (by decide) rfl rfl ?_
  refine m_put (x := 34) (t := 44) dX9_init_57 fl_X9_37 rfl rfl (fun _ => ⟨rfl, rfl⟩) (fun _ => ⟨rfl, rfl, _, _, _, rfl, x_tb (tb1 143 (by decide +kernel)) rfl⟩) rfl ?_
  exact n_ret (r := []) dX9_init_60 trivial ⟨rfl, rfl, rfl⟩ rfl
def w_X9_35 (σ : xW) : xW := xu (xnz (xu (xnz (xu (xnz (xu (xu (xu (xu (xu (xu σ 35 0 0) 35 1 99) 35 2 20) 35 3 0) 35 4 0) 35 5 0) 36) 35 6 36) 37) 35 7 37) 38) 35 8 38
theorem k_X9_35 {σ : xW} : xCN 1 3 24 mX9_init [vR 35] 36 σ (fun r n' σ' => r = [] ∧ n' = 39 ∧ σ' = w_X9_35 σ) := by
  refine xCN.of [vR 35] (by decide +kernel) (Nat.le_of_ble_eq_true rfl) rfl ?_
  refine n_aln dX9_init_0 rfl rfl (by decide) ?_
  refine n_obj (by decide) dX9_init_1 ob_X9_3 (by decide) rfl ?_
  refine n_aln dX9_init_4 rfl rfl (by decide) ?_
  refine n_ic dX9_init_5 ?_
  refine m_put (x := 0) (t := 0) dX9_init_6 fl_X9_9 rfl rfl (fun _ => ⟨rfl, rfl⟩) (fun h => nomatch h) rfl ?_
  refine n_aln dX9_init_9 rfl rfl (by decide) ?_
  refine n_bi dX9_init_10 (by decide) ?_
  refine m_put (x := 99) (t := 0) dX9_init_12 fl_X9_15 rfl rfl (fun _ => ⟨rfl, rfl⟩) (fun h => nomatch h) rfl ?_
  refine n_aln dX9_init_15 rfl rfl (by decide) ?_
  refine n_bi dX9_init_16 (by decide) ?_
  refine m_put (x := 20) (t := 0) dX9_init_18 fl_X9_18 rfl rfl (fun _ => ⟨rfl, rfl⟩) (fun h => nomatch h) rfl ?_
  refine n_aln dX9_init_21 rfl rfl (by decide) ?_
  refine n_ic dX9_init_22 ?_
  refine m_put (x := 0) (t := 0) dX9_init_23 fl_X9_21 rfl rfl (fun _ => ⟨rfl, rfl⟩) (fun h => nomatch h) rfl ?_
  refine n_aln dX9_init_26 rfl rfl (by decide) ?_
  refine n_ic dX9_init_27 ?_
  refine m_put (x := 0) (t := 0) dX9_init_28 fl_X9_24 rfl rfl (fun _ => ⟨rfl, rfl⟩) (fun h => nomatch h) rfl ?_
  refine n_aln dX9_init_31 rfl rfl (by decide) ?_
  refine n_ic dX9_init_32 ?_
  refine m_put (x := 0) (t := 0) dX9_init_33 fl_X9_27 rfl rfl (fun _ => ⟨rfl, rfl⟩) (fun h => nomatch h) rfl ?_
  refine n_aln dX9_init_36 rfl rfl (by decide) ?_
  refine n_bi dX9_init_37 (by decide) ?_
  refine m_newa (bc := 2) (bs := 16) (len := 8) (n1 := 37) dX9_init_39 rfl ac_1 rfl rfl rfl rfl (by decide) rfl rfl ?_
  refine m_put (x := 36) (t := 46) dX9_init_41 fl_X9_30 rfl rfl (fun _ => ⟨rfl, rfl⟩) (fun _ => ⟨rfl, rfl, _, _, _, rfl, x_tb (tb1 139 (by decide +kernel)) rfl⟩) rfl ?_
  refine n_aln dX9_init_44 rfl rfl (by decide) ?_
  refine n_bi dX9_init_45 (by decide) ?_
  refine m_newa (bc := 1) (bs := 8) (len := 8) (n1 := 38) dX9_init_47 rfl ac_1 rfl rfl rfl rfl (by decide) rfl rfl ?_
  refine m_put (x := 37) (t := 47) dX9_init_49 fl_X9_34 rfl rfl (fun _ => ⟨rfl, rfl⟩) (fun _ => ⟨rfl, rfl, _, _, _, rfl, x_tb (tb1 141 (by decide +kernel)) rfl⟩) rfl ?_
  refine n_aln dX9_init_52 rfl rfl (by decide) ?_
  refine n_bi dX9_init_53 (by decide) ?_
  refine m_newa (bc := 0) (bs := 0) (len := 8) (n1 := 39) dX9_init_55 rfl ac_1 rfl rfl rfl rfl (by decide) rfl rfl ?_
  refine m_put (x := 38) (t := 48) dX9_init_57 fl_X9_37 rfl rfl (fun _ => ⟨rfl, rfl⟩) (fun _ => ⟨rfl, rfl, _, _, _, rfl, x_tb (tb1 143 (by decide +kernel)) rfl⟩) rfl ?_
  exact n_ret (r := []) dX9_init_60 trivial ⟨rfl, rfl, rfl⟩ rfl
def w_X9_39 (σ : xW) : xW := xu (xnz (xu (xnz (xu (xnz (xu (xu (xu (xu (xu (xu σ 39 0 0) 39 1 99) 39 2 20) 39 3 0) 39 4 0) 39 5 0) 40) 39 6 40) 41) 39 7 41) 42) 39 8 42
theorem k_X9_39 {σ : xW} : xCN 1 3 24 mX9_init [vR 39] 40 σ (fun r n' σ' => r = [] ∧ n' = 43 ∧ σ' = w_X9_39 σ) := by
  refine xCN.of [vR 39] (by decide +kernel) (Nat.le_of_ble_eq_true rfl) rfl ?_
  refine n_aln dX9_init_0 rfl rfl (by decide) ?_
  refine n_obj (by decide) dX9_init_1 ob_X9_3 (by decide) rfl ?_
  refine n_aln dX9_init_4 rfl rfl (by decide) ?_
  refine n_ic dX9_init_5 ?_
  refine m_put (x := 0) (t := 0) dX9_init_6 fl_X9_9 rfl rfl (fun _ => ⟨rfl, rfl⟩) (fun h => nomatch h) rfl ?_
  refine n_aln dX9_init_9 rfl rfl (by decide) ?_
  refine n_bi dX9_init_10 (by decide) ?_
  refine m_put (x := 99) (t := 0) dX9_init_12 fl_X9_15 rfl rfl (fun _ => ⟨rfl, rfl⟩) (fun h => nomatch h) rfl ?_
  refine n_aln dX9_init_15 rfl rfl (by decide) ?_
  refine n_bi dX9_init_16 (by decide) ?_
  refine m_put (x := 20) (t := 0) dX9_init_18 fl_X9_18 rfl rfl (fun _ => ⟨rfl, rfl⟩) (fun h => nomatch h) rfl ?_
  refine n_aln dX9_init_21 rfl rfl (by decide) ?_
  refine n_ic dX9_init_22 ?_
  refine m_put (x := 0) (t := 0) dX9_init_23 fl_X9_21 rfl rfl (fun _ => ⟨rfl, rfl⟩) (fun h => nomatch h) rfl ?_
  refine n_aln dX9_init_26 rfl rfl (by decide) ?_
  refine n_ic dX9_init_27 ?_
  refine m_put (x := 0) (t := 0) dX9_init_28 fl_X9_24 rfl rfl (fun _ => ⟨rfl, rfl⟩) (fun h => nomatch h) rfl ?_
  refine n_aln dX9_init_31 rfl rfl (by decide) ?_
  refine n_ic dX9_init_32 ?_
  refine m_put (x := 0) (t := 0) dX9_init_33 fl_X9_27 rfl rfl (fun _ => ⟨rfl, rfl⟩) (fun h => nomatch h) rfl ?_
  refine n_aln dX9_init_36 rfl rfl (by decide) ?_
  refine n_bi dX9_init_37 (by decide) ?_
  refine m_newa (bc := 2) (bs := 16) (len := 8) (n1 := 41) dX9_init_39 rfl ac_1 rfl rfl rfl rfl (by decide) rfl rfl ?_
  refine m_put (x := 40) (t := 50) dX9_init_41 fl_X9_30 rfl rfl (fun _ => ⟨rfl, rfl⟩) (fun _ => ⟨rfl, rfl, _, _, _, rfl, x_tb (tb1 139 (by decide +kernel)) rfl⟩) rfl ?_
  refine n_aln dX9_init_44 rfl rfl (by decide) ?_
  refine n_bi dX9_init_45 (by decide) ?_
  refine m_newa (bc := 1) (bs := 8) (len := 8) (n1 := 42) dX9_init_47 rfl ac_1 rfl rfl rfl rfl (by decide) rfl rfl ?_
  refine m_put (x := 41) (t := 51) dX9_init_49 fl_X9_34 rfl rfl (fun _ => ⟨rfl, rfl⟩) (fun _ => ⟨rfl, rfl, _, _, _, rfl, x_tb (tb1 141 (by decide +kernel)) rfl⟩) rfl ?_
  refine n_aln dX9_init_52 rfl rfl (by decide) ?_
  refine n_bi dX9_init_53 (by decide) ?_
  refine m_newa (bc := 0) (bs := 0) (len := 8) (n1 := 43) dX9_init_55 rfl ac_1 rfl rfl rfl rfl (by decide) rfl rfl ?_
  refine m_put (x := 42) (t := 52) dX9_init_57 fl_X9_37 rfl rfl (fun _ => ⟨rfl, rfl⟩) (fun _ => ⟨rfl, rfl, _, _, _, rfl, x_tb (tb1 143 (by decide +kernel)) rfl⟩) rfl ?_
  exact n_ret (r := []) dX9_init_60 trivial ⟨rfl, rfl, rfl⟩ rfl
def w_X9_43 (σ : xW) : xW := xu (xnz (xu (xnz (xu (xnz (xu (xu (xu (xu (xu (xu σ 43 0 0) 43 1 99) 43 2 20) 43 3 0) 43 4 0) 43 5 0) 44) 43 6 44) 45) 43 7 45) 46) 43 8 46
theorem k_X9_43 {σ : xW} : xCN 1 3 24 mX9_init [vR 43] 44 σ (fun r n' σ' => r = [] ∧ n' = 47 ∧ σ' = w_X9_43 σ) := by
  refine xCN.of [vR 43] (by decide +kernel) (Nat.le_of_ble_eq_true rfl) rfl ?_
  refine n_aln dX9_init_0 rfl rfl (by decide) ?_
  refine n_obj (by decide) dX9_init_1 ob_X9_3 (by decide) rfl ?_
  refine n_aln dX9_init_4 rfl rfl (by decide) ?_
  refine n_ic dX9_init_5 ?_
  refine m_put (x := 0) (t := 0) dX9_init_6 fl_X9_9 rfl rfl (fun _ => ⟨rfl, rfl⟩) (fun h => nomatch h) rfl ?_
  refine n_aln dX9_init_9 rfl rfl (by decide) ?_
  refine n_bi dX9_init_10 (by decide) ?_
  refine m_put (x := 99) (t := 0) dX9_init_12 fl_X9_15 rfl rfl (fun _ => ⟨rfl, rfl⟩) (fun h => nomatch h) rfl ?_
  refine n_aln dX9_init_15 rfl rfl (by decide) ?_
  refine n_bi dX9_init_16 (by decide) ?_
  refine m_put (x := 20) (t := 0) dX9_init_18 fl_X9_18 rfl rfl (fun _ => ⟨rfl, rfl⟩) (fun h => nomatch h) rfl ?_
  refine n_aln dX9_init_21 rfl rfl (by decide) ?_
  refine n_ic dX9_init_22 ?_
  refine m_put (x := 0) (t := 0) dX9_init_23 fl_X9_21 rfl rfl (fun _ => ⟨rfl, rfl⟩) (fun h => nomatch h) rfl ?_
  refine n_aln dX9_init_26 rfl rfl (by decide) ?_
  refine n_ic dX9_init_27 ?_
  refine m_put (x := 0) (t := 0) dX9_init_28 fl_X9_24 rfl rfl (fun _ => ⟨rfl, rfl⟩) (fun h => nomatch h) rfl ?_
  refine n_aln dX9_init_31 rfl rfl (by decide) ?_
  refine n_ic dX9_init_32 ?_
  refine m_put (x := 0) (t := 0) dX9_init_33 fl_X9_27 rfl rfl (fun _ => ⟨rfl, rfl⟩) (fun h => nomatch h) rfl ?_
  refine n_aln dX9_init_36 rfl rfl (by decide) ?_
  refine n_bi dX9_init_37 (by decide) ?_
  refine m_newa (bc := 2) (bs := 16) (len := 8) (n1 := 45) dX9_init_39 rfl ac_1 rfl rfl rfl rfl (by decide) rfl rfl ?_
  refine m_put (x := 44) (t := 54) dX9_init_41 fl_X9_30 rfl rfl (fun _ => ⟨rfl, rfl⟩) (fun _ => ⟨rfl, rfl, _, _, _, rfl, x_tb (tb1 139 (by decide +kernel)) rfl⟩) rfl ?_
  refine n_aln dX9_init_44 rfl rfl (by decide) ?_
  refine n_bi dX9_init_45 (by decide) ?_
  refine m_newa (bc := 1) (bs := 8) (len := 8) (n1 := 46) dX9_init_47 rfl ac_1 rfl rfl rfl rfl (by decide) rfl rfl ?_
  refine m_put (x := 45) (t := 55) dX9_init_49 fl_X9_34 rfl rfl (fun _ => ⟨rfl, rfl⟩) (fun _ => ⟨rfl, rfl, _, _, _, rfl, x_tb (tb1 141 (by decide +kernel)) rfl⟩) rfl ?_
  refine n_aln dX9_init_52 rfl rfl (by decide) ?_
  refine n_bi dX9_init_53 (by decide) ?_
  refine m_newa (bc := 0) (bs := 0) (len := 8) (n1 := 47) dX9_init_55 rfl ac_1 rfl rfl rfl rfl (by decide) rfl rfl ?_
  refine m_put (x := 46) (t := 56) dX9_init_57 fl_X9_37 rfl rfl (fun _ => ⟨rfl, rfl⟩) (fun _ => ⟨rfl, rfl, _, _, _, rfl, x_tb (tb1 143 (by decide +kernel)) rfl⟩) rfl ?_
  exact n_ret (r := []) dX9_init_60 trivial ⟨rfl, rfl, rfl⟩ rfl
def w_X9_47 (σ : xW) : xW := xu (xnz (xu (xnz (xu (xnz (xu (xu (xu (xu (xu (xu σ 47 0 0) 47 1 99) 47 2 20) 47 3 0) 47 4 0) 47 5 0) 48) 47 6 48) 49) 47 7 49) 50) 47 8 50
theorem k_X9_47 {σ : xW} : xCN 1 3 24 mX9_init [vR 47] 48 σ (fun r n' σ' => r = [] ∧ n' = 51 ∧ σ' = w_X9_47 σ) := by
  refine xCN.of [vR 47] (by decide +kernel) (Nat.le_of_ble_eq_true rfl) rfl ?_
  refine n_aln dX9_init_0 rfl rfl (by decide) ?_
  refine n_obj (by decide) dX9_init_1 ob_X9_3 (by decide) rfl ?_
  refine n_aln dX9_init_4 rfl rfl (by decide) ?_
  refine n_ic dX9_init_5 ?_
  refine m_put (x := 0) (t := 0) dX9_init_6 fl_X9_9 rfl rfl (fun _ => ⟨rfl, rfl⟩) (fun h => nomatch h) rfl ?_
  refine n_aln dX9_init_9 rfl rfl (by decide) ?_
  refine n_bi dX9_init_10 (by decide) ?_
  refine m_put (x := 99) (t := 0) dX9_init_12 fl_X9_15 rfl rfl (fun _ => ⟨rfl, rfl⟩) (fun h => nomatch h) rfl ?_
  refine n_aln dX9_init_15 rfl rfl (by decide) ?_
  refine n_bi dX9_init_16 (by decide) ?_
  refine m_put (x := 20) (t := 0) dX9_init_18 fl_X9_18 rfl rfl (fun _ => ⟨rfl, rfl⟩) (fun h => nomatch h) rfl ?_
  refine n_aln dX9_init_21 rfl rfl (by decide) ?_
  refine n_ic dX9_init_22 ?_
  refine m_put (x := 0) (t := 0) dX9_init_23 fl_X9_21 rfl rfl (fun _ => ⟨rfl, rfl⟩) (fun h => nomatch h) rfl ?_
  refine n_aln dX9_init_26 rfl rfl (by decide) ?_
  refine n_ic dX9_init_27 ?_
  refine m_put (x := 0) (t := 0) dX9_init_28 fl_X9_24 rfl rfl (fun _ => ⟨rfl, rfl⟩) (fun h => nomatch h) rfl ?_
  refine n_aln dX9_init_31 rfl rfl (by decide) ?_
  refine n_ic dX9_init_32 ?_
  refine m_put (x := 0) (t := 0) dX9_init_33 fl_X9_27 rfl rfl (fun _ => ⟨rfl, rfl⟩) (fun h => nomatch h) rfl ?_
  refine n_aln dX9_init_36 rfl rfl (by decide) ?_
  refine n_bi dX9_init_37 (by decide) ?_
  refine m_newa (bc := 2) (bs := 16) (len := 8) (n1 := 49) dX9_init_39 rfl ac_1 rfl rfl rfl rfl (by decide) rfl rfl ?_
  refine m_put (x := 48) (t := 58) dX9_init_41 fl_X9_30 rfl rfl (fun _ => ⟨rfl, rfl⟩) (fun _ => ⟨rfl, rfl, _, _, _, rfl, x_tb (tb1 139 (by decide +kernel)) rfl⟩) rfl ?_
  refine n_aln dX9_init_44 rfl rfl (by decide) ?_
  refine n_bi dX9_init_45 (by decide) ?_
  refine m_newa (bc := 1) (bs := 8) (len := 8) (n1 := 50) dX9_init_47 rfl ac_1 rfl rfl rfl rfl (by decide) rfl rfl ?_
  refine m_put (x := 49) (t := 59) dX9_init_49 fl_X9_34 rfl rfl (fun _ => ⟨rfl, rfl⟩) (fun _ => ⟨rfl, rfl, _, _, _, rfl, x_tb (tb1 141 (by decide +kernel)) rfl⟩) rfl ?_
  refine n_aln dX9_init_52 rfl rfl (by decide) ?_
  refine n_bi dX9_init_53 (by decide) ?_
  refine m_newa (bc := 0) (bs := 0) (len := 8) (n1 := 51) dX9_init_55 rfl ac_1 rfl rfl rfl rfl (by decide) rfl rfl ?_
  refine m_put (x := 50) (t := 60) dX9_init_57 fl_X9_37 rfl rfl (fun _ => ⟨rfl, rfl⟩) (fun _ => ⟨rfl, rfl, _, _, _, rfl, x_tb (tb1 143 (by decide +kernel)) rfl⟩) rfl ?_
  exact n_ret (r := []) dX9_init_60 trivial ⟨rfl, rfl, rfl⟩ rfl
def w_X9_51 (σ : xW) : xW := xu (xnz (xu (xnz (xu (xnz (xu (xu (xu (xu (xu (xu σ 51 0 0) 51 1 99) 51 2 20) 51 3 0) 51 4 0) 51 5 0) 52) 51 6 52) 53) 51 7 53) 54) 51 8 54
theorem k_X9_51 {σ : xW} : xCN 1 3 24 mX9_init [vR 51] 52 σ (fun r n' σ' => r = [] ∧ n' = 55 ∧ σ' = w_X9_51 σ) := by
  refine xCN.of [vR 51] (by decide +kernel) (Nat.le_of_ble_eq_true rfl) rfl ?_
  refine n_aln dX9_init_0 rfl rfl (by decide) ?_
  refine n_obj (by decide) dX9_init_1 ob_X9_3 (by decide) rfl ?_
  refine n_aln dX9_init_4 rfl rfl (by decide) ?_
  refine n_ic dX9_init_5 ?_
  refine m_put (x := 0) (t := 0) dX9_init_6 fl_X9_9 rfl rfl (fun _ => ⟨rfl, rfl⟩) (fun h => nomatch h) rfl ?_
  refine n_aln dX9_init_9 rfl rfl (by decide) ?_
  refine n_bi dX9_init_10 (by decide) ?_
  refine m_put (x := 99) (t := 0) dX9_init_12 fl_X9_15 rfl rfl (fun _ => ⟨rfl, rfl⟩) (fun h => nomatch h) rfl ?_
  refine n_aln dX9_init_15 rfl rfl (by decide) ?_
  refine n_bi dX9_init_16 (by decide) ?_
  refine m_put (x := 20) (t := 0) dX9_init_18 fl_X9_18 rfl rfl (fun _ => ⟨rfl, rfl⟩) (fun h => nomatch h) rfl ?_
  refine n_aln dX9_init_21 rfl rfl (by decide) ?_
  refine n_ic dX9_init_22 ?_
  refine m_put (x := 0) (t := 0) dX9_init_23 fl_X9_21 rfl rfl (fun _ => ⟨rfl, rfl⟩) (fun h => nomatch h) rfl ?_
  refine n_aln dX9_init_26 rfl rfl (by decide) ?_
  refine n_ic dX9_init_27 ?_
  refine m_put (x := 0) (t := 0) dX9_init_28 fl_X9_24 rfl rfl (fun _ => ⟨rfl, rfl⟩) (fun h => nomatch h) rfl ?_
  refine n_aln dX9_init_31 rfl rfl (by decide) ?_
  refine n_ic dX9_init_32 ?_
  refine m_put (x := 0) (t := 0) dX9_init_33 fl_X9_27 rfl rfl (fun _ => ⟨rfl, rfl⟩) (fun h => nomatch h) rfl ?_
  refine n_aln dX9_init_36 rfl rfl (by decide) ?_
  refine n_bi dX9_init_37 (by decide) ?_
  refine m_newa (bc := 2) (bs := 16) (len := 8) (n1 := 53) dX9_init_39 rfl ac_1 rfl rfl rfl rfl (by decide) rfl rfl ?_
  refine m_put (x := 52) (t := 62) dX9_init_41 fl_X9_30 rfl rfl (fun _ => ⟨rfl, rfl⟩) (fun _ => ⟨rfl, rfl, _, _, _, rfl, x_tb (tb1 139 (by decide +kernel)) rfl⟩) rfl ?_
  refine n_aln dX9_init_44 rfl rfl (by decide) ?_
  refine n_bi dX9_init_45 (by decide) ?_
  refine m_newa (bc := 1) (bs := 8) (len := 8) (n1 := 54) dX9_init_47 rfl ac_1 rfl rfl rfl rfl (by decide) rfl rfl ?_
  refine m_put (x := 53) (t := 63) dX9_init_49 fl_X9_34 rfl rfl (fun _ => ⟨rfl, rfl⟩) (fun _ => ⟨rfl, rfl, _, _, _, rfl, x_tb (tb1 141 (by decide +kernel)) rfl⟩) rfl ?_
  refine n_aln dX9_init_52 rfl rfl (by decide) ?_
  refine n_bi dX9_init_53 (by decide) ?_
  refine m_newa (bc := 0) (bs := 0) (len := 8) (n1 := 55) dX9_init_55 rfl ac_1 rfl rfl rfl rfl (by decide) rfl rfl ?_
  refine m_put (x := 54) (t := 64) dX9_init_57 fl_X9_37 rfl rfl (fun _ => ⟨rfl, rfl⟩) (fun _ => ⟨rfl, rfl, _, _, _, rfl, x_tb (tb1 143 (by decide +kernel)) rfl⟩) rfl ?_
  exact n_ret (r := []) dX9_init_60 trivial ⟨rfl, rfl, rfl⟩ rfl
def w_X9_55 (σ : xW) : xW := xu (xnz (xu (xnz (xu (xnz (xu (xu (xu (xu (xu (xu σ 55 0 0) 55 1 99) 55 2 20) 55 3 0) 55 4 0) 55 5 0) 56) 55 6 56) 57) 55 7 57) 58) 55 8 58
theorem k_X9_55 {σ : xW} : xCN 1 3 24 mX9_init [vR 55] 56 σ (fun r n' σ' => r = [] ∧ n' = 59 ∧ σ' = w_X9_55 σ) := by
  refine xCN.of [vR 55] (by decide +kernel) (Nat.le_of_ble_eq_true rfl) rfl ?_
  refine n_aln dX9_init_0 rfl rfl (by decide) ?_
  refine n_obj (by decide) dX9_init_1 ob_X9_3 (by decide) rfl ?_
  refine n_aln dX9_init_4 rfl rfl (by decide) ?_
  refine n_ic dX9_init_5 ?_
  refine m_put (x := 0) (t := 0) dX9_init_6 fl_X9_9 rfl rfl (fun _ => ⟨rfl, rfl⟩) (fun h => nomatch h) rfl ?_
  refine n_aln dX9_init_9 rfl rfl (by decide) ?_
  refine n_bi dX9_init_10 (by decide) ?_
  refine m_put (x := 99) (t := 0) dX9_init_12 fl_X9_15 rfl rfl (fun _ => ⟨rfl, rfl⟩) (fun h => nomatch h) rfl ?_
  refine n_aln dX9_init_15 rfl rfl (by decide) ?_
  refine n_bi dX9_init_16 (by decide) ?_
  refine m_put (x := 20) (t := 0) dX9_init_18 fl_X9_18 rfl rfl (fun _ => ⟨rfl, rfl⟩) (fun h => nomatch h) rfl ?_
  refine n_aln dX9_init_21 rfl rfl (by decide) ?_
  refine n_ic dX9_init_22 ?_
  refine m_put (x := 0) (t := 0) dX9_init_23 fl_X9_21 rfl rfl (fun _ => ⟨rfl, rfl⟩) (fun h => nomatch h) rfl ?_
  refine n_aln dX9_init_26 rfl rfl (by decide) ?_
  refine n_ic dX9_init_27 ?_
  refine m_put (x := 0) (t := 0) dX9_init_28 fl_X9_24 rfl rfl (fun _ => ⟨rfl, rfl⟩) (fun h => nomatch h) rfl ?_
  refine n_aln dX9_init_31 rfl rfl (by decide) ?_
  refine n_ic dX9_init_32 ?_
  refine m_put (x := 0) (t := 0) dX9_init_33 fl_X9_27 rfl rfl (fun _ => ⟨rfl, rfl⟩) (fun h => nomatch h) rfl ?_
  refine n_aln dX9_init_36 rfl rfl (by decide) ?_
  refine n_bi dX9_init_37 (by decide) ?_
  refine m_newa (bc := 2) (bs := 16) (len := 8) (n1 := 57) dX9_init_39 rfl ac_1 rfl rfl rfl rfl (by decide) rfl rfl ?_
  refine m_put (x := 56) (t := 66) dX9_init_41 fl_X9_30 rfl rfl (fun _ => ⟨rfl, rfl⟩) (fun _ => ⟨rfl, rfl, _, _, _, rfl, x_tb (tb1 139 (by decide +kernel)) rfl⟩) rfl ?_
  refine n_aln dX9_init_44 rfl rfl (by decide) ?_
  refine n_bi dX9_init_45 (by decide) ?_
  refine m_newa (bc := 1) (bs := 8) (len := 8) (n1 := 58) dX9_init_47 rfl ac_1 rfl rfl rfl rfl (by decide) rfl rfl ?_
  refine m_put (x := 57) (t := 67) dX9_init_49 fl_X9_34 rfl rfl (fun _ => ⟨rfl, rfl⟩) (fun _ => ⟨rfl, rfl, _, _, _, rfl, x_tb (tb1 141 (by decide +kernel)) rfl⟩) rfl ?_
  refine n_aln dX9_init_52 rfl rfl (by decide) ?_
  refine n_bi dX9_init_53 (by decide) ?_
  refine m_newa (bc := 0) (bs := 0) (len := 8) (n1 := 59) dX9_init_55 rfl ac_1 rfl rfl rfl rfl (by decide) rfl rfl ?_
  refine m_put (x := 58) (t := 68) dX9_init_57 fl_X9_37 rfl rfl (fun _ => ⟨rfl, rfl⟩) (fun _ => ⟨rfl, rfl, _, _, _, rfl, x_tb (tb1 143 (by decide +kernel)) rfl⟩) rfl ?_
  exact n_ret (r := []) dX9_init_60 trivial ⟨rfl, rfl, rfl⟩ rfl
def w_X9_59 (σ : xW) : xW := xu (xnz (xu (xnz (xu (xnz (xu (xu (xu (xu (xu (xu σ 59 0 0) 59 1 99) 59 2 20) 59 3 0) 59 4 0) 59 5 0) 60) 59 6 60) 61) 59 7 61) 62) 59 8 62
theorem k_X9_59 {σ : xW} : xCN 1 3 24 mX9_init [vR 59] 60 σ (fun r n' σ' => r = [] ∧ n' = 63 ∧ σ' = w_X9_59 σ) := by
  refine xCN.of [vR 59] (by decide +kernel) (Nat.le_of_ble_eq_true rfl) rfl ?_
  refine n_aln dX9_init_0 rfl rfl (by decide) ?_
  refine n_obj (by decide) dX9_init_1 ob_X9_3 (by decide) rfl ?_
  refine n_aln dX9_init_4 rfl rfl (by decide) ?_
  refine n_ic dX9_init_5 ?_
  refine m_put (x := 0) (t := 0) dX9_init_6 fl_X9_9 rfl rfl (fun _ => ⟨rfl, rfl⟩) (fun h => nomatch h) rfl ?_
  refine n_aln dX9_init_9 rfl rfl (by decide) ?_
  refine n_bi dX9_init_10 (by decide) ?_
  refine m_put (x := 99) (t := 0) dX9_init_12 fl_X9_15 rfl rfl (fun _ => ⟨rfl, rfl⟩) (fun h => nomatch h) rfl ?_
  refine n_aln dX9_init_15 rfl rfl (by decide) ?_
  refine n_bi dX9_init_16 (by decide) ?_
  refine m_put (x := 20) (t := 0) dX9_init_18 fl_X9_18 rfl rfl (fun _ => ⟨rfl, rfl⟩) (fun h => nomatch h) rfl ?_
  refine n_aln dX9_init_21 rfl rfl (by decide) ?_
  refine n_ic dX9_init_22 ?_
  refine m_put (x := 0) (t := 0) dX9_init_23 fl_X9_21 rfl rfl (fun _ => ⟨rfl, rfl⟩) (fun h => nomatch h) rfl ?_
  refine n_aln dX9_init_26 rfl rfl (by decide) ?_
  refine n_ic dX9_init_27 ?_
  refine m_put (x := 0) (t := 0) dX9_init_28 fl_X9_24 rfl rfl (fun _ => ⟨rfl, rfl⟩) (fun h => nomatch h) rfl ?_
  refine n_aln dX9_init_31 rfl rfl (by decide) ?_
  refine n_ic dX9_init_32 ?_
  refine m_put (x := 0) (t := 0) dX9_init_33 fl_X9_27 rfl rfl (fun _ => ⟨rfl, rfl⟩) (fun h => nomatch h) rfl ?_
  refine n_aln dX9_init_36 rfl rfl (by decide) ?_
  refine n_bi dX9_init_37 (by decide) ?_
  refine m_newa (bc := 2) (bs := 16) (len := 8) (n1 := 61) dX9_init_39 rfl ac_1 rfl rfl rfl rfl (by decide) rfl rfl ?_
  refine m_put (x := 60) (t := 70) dX9_init_41 fl_X9_30 rfl rfl (fun _ => ⟨rfl, rfl⟩) (fun _ => ⟨rfl, rfl, _, _, _, rfl, x_tb (tb1 139 (by decide +kernel)) rfl⟩) rfl ?_
  refine n_aln dX9_init_44 rfl rfl (by decide) ?_
  refine n_bi dX9_init_45 (by decide) ?_
  refine m_newa (bc := 1) (bs := 8) (len := 8) (n1 := 62) dX9_init_47 rfl ac_1 rfl rfl rfl rfl (by decide) rfl rfl ?_
  refine m_put (x := 61) (t := 71) dX9_init_49 fl_X9_34 rfl rfl (fun _ => ⟨rfl, rfl⟩) (fun _ => ⟨rfl, rfl, _, _, _, rfl, x_tb (tb1 141 (by decide +kernel)) rfl⟩) rfl ?_
  refine n_aln dX9_init_52 rfl rfl (by decide) ?_
  refine n_bi dX9_init_53 (by decide) ?_
  refine m_newa (bc := 0) (bs := 0) (len := 8) (n1 := 63) dX9_init_55 rfl ac_1 rfl rfl rfl rfl (by decide) rfl rfl ?_
  refine m_put (x := 62) (t := 72) dX9_init_57 fl_X9_37 rfl rfl (fun _ => ⟨rfl, rfl⟩) (fun _ => ⟨rfl, rfl, _, _, _, rfl, x_tb (tb1 143 (by decide +kernel)) rfl⟩) rfl ?_
  exact n_ret (r := []) dX9_init_60 trivial ⟨rfl, rfl, rfl⟩ rfl
def w_X9_63 (σ : xW) : xW := xu (xnz (xu (xnz (xu (xnz (xu (xu (xu (xu (xu (xu σ 63 0 0) 63 1 99) 63 2 20) 63 3 0) 63 4 0) 63 5 0) 64) 63 6 64) 65) 63 7 65) 66) 63 8 66
theorem k_X9_63 {σ : xW} : xCN 1 3 24 mX9_init [vR 63] 64 σ (fun r n' σ' => r = [] ∧ n' = 67 ∧ σ' = w_X9_63 σ) := by
  refine xCN.of [vR 63] (by decide +kernel) (Nat.le_of_ble_eq_true rfl) rfl ?_
  refine n_aln dX9_init_0 rfl rfl (by decide) ?_
  refine n_obj (by decide) dX9_init_1 ob_X9_3 (by decide) rfl ?_
  refine n_aln dX9_init_4 rfl rfl (by decide) ?_
  refine n_ic dX9_init_5 ?_
  refine m_put (x := 0) (t := 0) dX9_init_6 fl_X9_9 rfl rfl (fun _ => ⟨rfl, rfl⟩) (fun h => nomatch h) rfl ?_
  refine n_aln dX9_init_9 rfl rfl (by decide) ?_
  refine n_bi dX9_init_10 (by decide) ?_
  refine m_put (x := 99) (t := 0) dX9_init_12 fl_X9_15 rfl rfl (fun _ => ⟨rfl, rfl⟩) (fun h => nomatch h) rfl ?_
  refine n_aln dX9_init_15 rfl rfl (by decide) ?_
  refine n_bi dX9_init_16 (by decide) ?_
  refine m_put (x := 20) (t := 0) dX9_init_18 fl_X9_18 rfl rfl (fun _ => ⟨rfl, rfl⟩) (fun h => nomatch h) rfl ?_
  refine n_aln dX9_init_21 rfl rfl (by decide) ?_
  refine n_ic dX9_init_22 ?_
  refine m_put (x := 0) (t := 0) dX9_init_23 fl_X9_21 rfl rfl (fun _ => ⟨rfl, rfl⟩) (fun h => nomatch h) rfl ?_
  refine n_aln dX9_init_26 rfl rfl (by decide) ?_
  refine n_ic dX9_init_27 ?_
  refine m_put (x := 0) (t := 0) dX9_init_28 fl_X9_24 rfl rfl (fun _ => ⟨rfl, rfl⟩) (fun h => nomatch h) rfl ?_
  refine n_aln dX9_init_31 rfl rfl (by decide) ?_
  refine n_ic dX9_init_32 ?_
  refine m_put (x := 0) (t := 0) dX9_init_33 fl_X9_27 rfl rfl (fun _ => ⟨rfl, rfl⟩) (fun h => nomatch h) rfl ?_
  refine n_aln dX9_init_36 rfl rfl (by decide) ?_
  refine n_bi dX9_init_37 (by decide) ?_
  refine m_newa (bc := 2) (bs := 16) (len := 8) (n1 := 65) dX9_init_39 rfl ac_1 rfl rfl rfl rfl (by decide) rfl rfl ?_
  refine m_put (x := 64) (t := 74) dX9_init_41 fl_X9_30 rfl rfl (fun _ => ⟨rfl, rfl⟩) (fun _ => ⟨rfl, rfl, _, _, _, rfl, x_tb (tb1 139 (by decide +kernel)) rfl⟩) rfl ?_
  refine n_aln dX9_init_44 rfl rfl (by decide) ?_
  refine n_bi dX9_init_45 (by decide) ?_
  refine m_newa (bc := 1) (bs := 8) (len := 8) (n1 := 66) dX9_init_47 rfl ac_1 rfl rfl rfl rfl (by decide) rfl rfl ?_
  refine m_put (x := 65) (t := 75) dX9_init_49 fl_X9_34 rfl rfl (fun _ => ⟨rfl, rfl⟩) (fun _ => ⟨rfl, rfl, _, _, _, rfl, x_tb (tb1 141 (by decide +kernel)) rfl⟩) rfl ?_
  refine n_aln dX9_init_52 rfl rfl (by decide) ?_
  refine n_bi dX9_init_53 (by decide) ?_
  refine m_newa (bc := 0) (bs := 0) (len := 8) (n1 := 67) dX9_init_55 rfl ac_1 rfl rfl rfl rfl (by decide) rfl rfl ?_
  refine m_put (x := 66) (t := 76) dX9_init_57 fl_X9_37 rfl rfl (fun _ => ⟨rfl, rfl⟩) (fun _ => ⟨rfl, rfl, _, _, _, rfl, x_tb (tb1 143 (by decide +kernel)) rfl⟩) rfl ?_
  exact n_ret (r := []) dX9_init_60 trivial ⟨rfl, rfl, rfl⟩ rfl
def w_X9_67 (σ : xW) : xW := xu (xnz (xu (xnz (xu (xnz (xu (xu (xu (xu (xu (xu σ 67 0 0) 67 1 99) 67 2 20) 67 3 0) 67 4 0) 67 5 0) 68) 67 6 68) 69) 67 7 69) 70) 67 8 70
theorem k_X9_67 {σ : xW} : xCN 1 3 24 mX9_init [vR 67] 68 σ (fun r n' σ' => r = [] ∧ n' = 71 ∧ σ' = w_X9_67 σ) := by
  refine xCN.of [vR 67] (by decide +kernel) (Nat.le_of_ble_eq_true rfl) rfl ?_
  refine n_aln dX9_init_0 rfl rfl (by decide) ?_
  refine n_obj (by decide) dX9_init_1 ob_X9_3 (by decide) rfl ?_
  refine n_aln dX9_init_4 rfl rfl (by decide) ?_
  refine n_ic dX9_init_5 ?_
  refine m_put (x := 0) (t := 0) dX9_init_6 fl_X9_9 rfl rfl (fun _ => ⟨rfl, rfl⟩) (fun h => nomatch h) rfl ?_
  refine n_aln dX9_init_9 rfl rfl (by decide) ?_
  refine n_bi dX9_init_10 (by decide) ?_
  refine m_put (x := 99) (t := 0) dX9_init_12 fl_X9_15 rfl rfl (fun _ => ⟨rfl, rfl⟩) (fun h => nomatch h) rfl ?_
  refine n_aln dX9_init_15 rfl rfl (by decide) ?_
  refine n_bi dX9_init_16 (by decide) ?_
  refine m_put (x := 20) (t := 0) dX9_init_18 fl_X9_18 rfl rfl (fun _ => ⟨rfl, rfl⟩) (fun h => nomatch h) rfl ?_
  refine n_aln dX9_init_21 rfl rfl (by decide) ?_
  refine n_ic dX9_init_22 ?_
  refine m_put (x := 0) (t := 0) dX9_init_23 fl_X9_21 rfl rfl (fun _ => ⟨rfl, rfl⟩) (fun h => nomatch h) rfl ?_
  refine n_aln dX9_init_26 rfl rfl (by decide) ?_
  refine n_ic dX9_init_27 ?_
  refine m_put (x := 0) (t := 0) dX9_init_28 fl_X9_24 rfl rfl (fun _ => ⟨rfl, rfl⟩) (fun h => nomatch h) rfl ?_
  refine n_aln dX9_init_31 rfl rfl (by decide) ?_
  refine n_ic dX9_init_32 ?_
  refine m_put (x := 0) (t := 0) dX9_init_33 fl_X9_27 rfl rfl (fun _ => ⟨rfl, rfl⟩) (fun h => nomatch h) rfl ?_
  refine n_aln dX9_init_36 rfl rfl (by decide) ?_
  refine n_bi dX9_init_37 (by decide) ?_
  refine m_newa (bc := 2) (bs := 16) (len := 8) (n1 := 69) dX9_init_39 rfl ac_1 rfl rfl rfl rfl (by decide) rfl rfl ?_
  refine m_put (x := 68) (t := 78) dX9_init_41 fl_X9_30 rfl rfl (fun _ => ⟨rfl, rfl⟩) (fun _ => ⟨rfl, rfl, _, _, _, rfl, x_tb (tb1 139 (by decide +kernel)) rfl⟩) rfl ?_
  refine n_aln dX9_init_44 rfl rfl (by decide) ?_
  refine n_bi dX9_init_45 (by decide) ?_
  refine m_newa (bc := 1) (bs := 8) (len := 8) (n1 := 70) dX9_init_47 rfl ac_1 rfl rfl rfl rfl (by decide) rfl rfl ?_
  refine m_put (x := 69) (t := 79) dX9_init_49 fl_X9_34 rfl rfl (fun _ => ⟨rfl, rfl⟩) (fun _ => ⟨rfl, rfl, _, _, _, rfl, x_tb (tb1 141 (by decide +kernel)) rfl⟩) rfl ?_
  refine n_aln dX9_init_52 rfl rfl (by decide) ?_
  refine n_bi dX9_init_53 (by decide) ?_
  refine m_newa (bc := 0) (bs := 0) (len := 8) (n1 := 71) dX9_init_55 rfl ac_1 rfl rfl rfl rfl (by decide) rfl rfl ?_
  refine m_put (x := 70) (t := 80) dX9_init_57 fl_X9_37 rfl rfl (fun _ => ⟨rfl, rfl⟩) (fun _ => ⟨rfl, rfl, _, _, _, rfl, x_tb (tb1 143 (by decide +kernel)) rfl⟩) rfl ?_
  exact n_ret (r := []) dX9_init_60 trivial ⟨rfl, rfl, rfl⟩ rfl
def w_X9_71 (σ : xW) : xW := xu (xnz (xu (xnz (xu (xnz (xu (xu (xu (xu (xu (xu σ 71 0 0) 71 1 99) 71 2 20) 71 3 0) 71 4 0) 71 5 0) 72) 71 6 72) 73) 71 7 73) 74) 71 8 74
theorem k_X9_71 {σ : xW} : xCN 1 3 24 mX9_init [vR 71] 72 σ (fun r n' σ' => r = [] ∧ n' = 75 ∧ σ' = w_X9_71 σ) := by
  refine xCN.of [vR 71] (by decide +kernel) (Nat.le_of_ble_eq_true rfl) rfl ?_
  refine n_aln dX9_init_0 rfl rfl (by decide) ?_
  refine n_obj (by decide) dX9_init_1 ob_X9_3 (by decide) rfl ?_
  refine n_aln dX9_init_4 rfl rfl (by decide) ?_
  refine n_ic dX9_init_5 ?_
  refine m_put (x := 0) (t := 0) dX9_init_6 fl_X9_9 rfl rfl (fun _ => ⟨rfl, rfl⟩) (fun h => nomatch h) rfl ?_
  refine n_aln dX9_init_9 rfl rfl (by decide) ?_
  refine n_bi dX9_init_10 (by decide) ?_
  refine m_put (x := 99) (t := 0) dX9_init_12 fl_X9_15 rfl rfl (fun _ => ⟨rfl, rfl⟩) (fun h => nomatch h) rfl ?_
  refine n_aln dX9_init_15 rfl rfl (by decide) ?_
  refine n_bi dX9_init_16 (by decide) ?_
  refine m_put (x := 20) (t := 0) dX9_init_18 fl_X9_18 rfl rfl (fun _ => ⟨rfl, rfl⟩) (fun h => nomatch h) rfl ?_
  refine n_aln dX9_init_21 rfl rfl (by decide) ?_
  refine n_ic dX9_init_22 ?_
  refine m_put (x := 0) (t := 0) dX9_init_23 fl_X9_21 rfl rfl (fun _ => ⟨rfl, rfl⟩) (fun h => nomatch h) rfl ?_
  refine n_aln dX9_init_26 rfl rfl (by decide) ?_
  refine n_ic dX9_init_27 ?_
  refine m_put (x := 0) (t := 0) dX9_init_28 fl_X9_24 rfl rfl (fun _ => ⟨rfl, rfl⟩) (fun h => nomatch h) rfl ?_
  refine n_aln dX9_init_31 rfl rfl (by decide) ?_
  refine n_ic dX9_init_32 ?_
  refine m_put (x := 0) (t := 0) dX9_init_33 fl_X9_27 rfl rfl (fun _ => ⟨rfl, rfl⟩) (fun h => nomatch h) rfl ?_
  refine n_aln dX9_init_36 rfl rfl (by decide) ?_
  refine n_bi dX9_init_37 (by decide) ?_
  refine m_newa (bc := 2) (bs := 16) (len := 8) (n1 := 73) dX9_init_39 rfl ac_1 rfl rfl rfl rfl (by decide) rfl rfl ?_
  refine m_put (x := 72) (t := 82) dX9_init_41 fl_X9_30 rfl rfl (fun _ => ⟨rfl, rfl⟩) (fun _ => ⟨rfl, rfl, _, _, _, rfl, x_tb (tb1 139 (by decide +kernel)) rfl⟩) rfl ?_
  refine n_aln dX9_init_44 rfl rfl (by decide) ?_
  refine n_bi dX9_init_45 (by decide) ?_
  refine m_newa (bc := 1) (bs := 8) (len := 8) (n1 := 74) dX9_init_47 rfl ac_1 rfl rfl rfl rfl (by decide) rfl rfl ?_
  refine m_put (x := 73) (t := 83) dX9_init_49 fl_X9_34 rfl rfl (fun _ => ⟨rfl, rfl⟩) (fun _ => ⟨rfl, rfl, _, _, _, rfl, x_tb (tb1 141 (by decide +kernel)) rfl⟩) rfl ?_
  refine n_aln dX9_init_52 rfl rfl (by decide) ?_
  refine n_bi dX9_init_53 (by decide) ?_
  refine m_newa (bc := 0) (bs := 0) (len := 8) (n1 := 75) dX9_init_55 rfl ac_1 rfl rfl rfl rfl (by decide) rfl rfl ?_
  refine m_put (x := 74) (t := 84) dX9_init_57 fl_X9_37 rfl rfl (fun _ => ⟨rfl, rfl⟩) (fun _ => ⟨rfl, rfl, _, _, _, rfl, x_tb (tb1 143 (by decide +kernel)) rfl⟩) rfl ?_
  exact n_ret (r := []) dX9_init_60 trivial ⟨rfl, rfl, rfl⟩ rfl
def w_X9_75 (σ : xW) : xW := xu (xnz (xu (xnz (xu (xnz (xu (xu (xu (xu (xu (xu σ 75 0 0) 75 1 99) 75 2 20) 75 3 0) 75 4 0) 75 5 0) 76) 75 6 76) 77) 75 7 77) 78) 75 8 78
theorem k_X9_75 {σ : xW} : xCN 1 3 24 mX9_init [vR 75] 76 σ (fun r n' σ' => r = [] ∧ n' = 79 ∧ σ' = w_X9_75 σ) := by
  refine xCN.of [vR 75] (by decide +kernel) (Nat.le_of_ble_eq_true rfl) rfl ?_
  refine n_aln dX9_init_0 rfl rfl (by decide) ?_
  refine n_obj (by decide) dX9_init_1 ob_X9_3 (by decide) rfl ?_
  refine n_aln dX9_init_4 rfl rfl (by decide) ?_
  refine n_ic dX9_init_5 ?_
  refine m_put (x := 0) (t := 0) dX9_init_6 fl_X9_9 rfl rfl (fun _ => ⟨rfl, rfl⟩) (fun h => nomatch h) rfl ?_
  refine n_aln dX9_init_9 rfl rfl (by decide) ?_
  refine n_bi dX9_init_10 (by decide) ?_
  refine m_put (x := 99) (t := 0) dX9_init_12 fl_X9_15 rfl rfl (fun _ => ⟨rfl, rfl⟩) (fun h => nomatch h) rfl ?_
  refine n_aln dX9_init_15 rfl rfl (by decide) ?_
  refine n_bi dX9_init_16 (by decide) ?_
  refine m_put (x := 20) (t := 0) dX9_init_18 fl_X9_18 rfl rfl (fun _ => ⟨rfl, rfl⟩) (fun h => nomatch h) rfl ?_
  refine n_aln dX9_init_21 rfl rfl (by decide) ?_
  refine n_ic dX9_init_22 ?_
  refine m_put (x := 0) (t := 0) dX9_init_23 fl_X9_21 rfl rfl (fun _ => ⟨rfl, rfl⟩) (fun h => nomatch h) rfl ?_
  refine n_aln dX9_init_26 rfl rfl (by decide) ?_
  refine n_ic dX9_init_27 ?_
  refine m_put (x := 0) (t := 0) dX9_init_28 fl_X9_24 rfl rfl (fun _ => ⟨rfl, rfl⟩) (fun h => nomatch h) rfl ?_
  refine n_aln dX9_init_31 rfl rfl (by decide) ?_
  refine n_ic dX9_init_32 ?_
  refine m_put (x := 0) (t := 0) dX9_init_33 fl_X9_27 rfl rfl (fun _ => ⟨rfl, rfl⟩) (fun h => nomatch h) rfl ?_
  refine n_aln dX9_init_36 rfl rfl (by decide) ?_
  refine n_bi dX9_init_37 (by decide) ?_
  refine m_newa (bc := 2) (bs := 16) (len := 8) (n1 := 77) dX9_init_39 rfl ac_1 rfl rfl rfl rfl (by decide) rfl rfl ?_
  refine m_put (x := 76) (t := 86) dX9_init_41 fl_X9_30 rfl rfl (fun _ => ⟨rfl, rfl⟩) (fun _ => ⟨rfl, rfl, _, _, _, rfl, x_tb (tb1 139 (by decide +kernel)) rfl⟩) rfl ?_
  refine n_aln dX9_init_44 rfl rfl (by decide) ?_
  refine n_bi dX9_init_45 (by decide) ?_
  refine m_newa (bc := 1) (bs := 8) (len := 8) (n1 := 78) dX9_init_47 rfl ac_1 rfl rfl rfl rfl (by decide) rfl rfl ?_
  refine m_put (x := 77) (t := 87) dX9_init_49 fl_X9_34 rfl rfl (fun _ => ⟨rfl, rfl⟩) (fun _ => ⟨rfl, rfl, _, _, _, rfl, x_tb (tb1 141 (by decide +kernel)) rfl⟩) rfl ?_
  refine n_aln dX9_init_52 rfl rfl (by decide) ?_
  refine n_bi dX9_init_53 (by decide) ?_
  refine m_newa (bc := 0) (bs := 0) (len := 8) (n1 := 79) dX9_init_55 rfl ac_1 rfl rfl rfl rfl (by decide) rfl rfl ?_
  refine m_put (x := 78) (t := 88) dX9_init_57 fl_X9_37 rfl rfl (fun _ => ⟨rfl, rfl⟩) (fun _ => ⟨rfl, rfl, _, _, _, rfl, x_tb (tb1 143 (by decide +kernel)) rfl⟩) rfl ?_
  exact n_ret (r := []) dX9_init_60 trivial ⟨rfl, rfl, rfl⟩ rfl
def w_X9_79 (σ : xW) : xW := xu (xnz (xu (xnz (xu (xnz (xu (xu (xu (xu (xu (xu σ 79 0 0) 79 1 99) 79 2 20) 79 3 0) 79 4 0) 79 5 0) 80) 79 6 80) 81) 79 7 81) 82) 79 8 82
theorem k_X9_79 {σ : xW} : xCN 1 3 24 mX9_init [vR 79] 80 σ (fun r n' σ' => r = [] ∧ n' = 83 ∧ σ' = w_X9_79 σ) := by
  refine xCN.of [vR 79] (by decide +kernel) (Nat.le_of_ble_eq_true rfl) rfl ?_
  refine n_aln dX9_init_0 rfl rfl (by decide) ?_
  refine n_obj (by decide) dX9_init_1 ob_X9_3 (by decide) rfl ?_
  refine n_aln dX9_init_4 rfl rfl (by decide) ?_
  refine n_ic dX9_init_5 ?_
  refine m_put (x := 0) (t := 0) dX9_init_6 fl_X9_9 rfl rfl (fun _ => ⟨rfl, rfl⟩) (fun h => nomatch h) rfl ?_
  refine n_aln dX9_init_9 rfl rfl (by decide) ?_
  refine n_bi dX9_init_10 (by decide) ?_
  refine m_put (x := 99) (t := 0) dX9_init_12 fl_X9_15 rfl rfl (fun _ => ⟨rfl, rfl⟩) (fun h => nomatch h) rfl ?_
  refine n_aln dX9_init_15 rfl rfl (by decide) ?_
  refine n_bi dX9_init_16 (by decide) ?_
  refine m_put (x := 20) (t := 0) dX9_init_18 fl_X9_18 rfl rfl (fun _ => ⟨rfl, rfl⟩) (fun h => nomatch h) rfl ?_
  refine n_aln dX9_init_21 rfl rfl (by decide) ?_
  refine n_ic dX9_init_22 ?_
  refine m_put (x := 0) (t := 0) dX9_init_23 fl_X9_21 rfl rfl (fun _ => ⟨rfl, rfl⟩) (fun h => nomatch h) rfl ?_
  refine n_aln dX9_init_26 rfl rfl (by decide) ?_
  refine n_ic dX9_init_27 ?_
  refine m_put (x := 0) (t := 0) dX9_init_28 fl_X9_24 rfl rfl (fun _ => ⟨rfl, rfl⟩) (fun h => nomatch h) rfl ?_
  refine n_aln dX9_init_31 rfl rfl (by decide) ?_
  refine n_ic dX9_init_32 ?_
  refine m_put (x := 0) (t := 0) dX9_init_33 fl_X9_27 rfl rfl (fun _ => ⟨rfl, rfl⟩) (fun h => nomatch h) rfl ?_
  refine n_aln dX9_init_36 rfl rfl (by decide) ?_
  refine n_bi dX9_init_37 (by decide) ?_
  refine m_newa (bc := 2) (bs := 16) (len := 8) (n1 := 81) dX9_init_39 rfl ac_1 rfl rfl rfl rfl (by decide) rfl rfl ?_
  refine m_put (x := 80) (t := 90) dX9_init_41 fl_X9_30 rfl rfl (fun _ => ⟨rfl, rfl⟩) (fun _ => ⟨rfl, rfl, _, _, _, rfl, x_tb (tb1 139 (by decide +kernel)) rfl⟩) rfl ?_
  refine n_aln dX9_init_44 rfl rfl (by decide) ?_
  refine n_bi dX9_init_45 (by decide) ?_
  refine m_newa (bc := 1) (bs := 8) (len := 8) (n1 := 82) dX9_init_47 rfl ac_1 rfl rfl rfl rfl (by decide) rfl rfl ?_
  refine m_put (x := 81) (t := 91) dX9_init_49 fl_X9_34 rfl rfl (fun _ => ⟨rfl, rfl⟩) (fun _ => ⟨rfl, rfl, _, _, _, rfl, x_tb (tb1 141 (by decide +kernel)) rfl⟩) rfl ?_
  refine n_aln dX9_init_52 rfl rfl (by decide) ?_
  refine n_bi dX9_init_53 (by decide) ?_
  refine m_newa (bc := 0) (bs := 0) (len := 8) (n1 := 83) dX9_init_55 rfl ac_1 rfl rfl rfl rfl (by decide) rfl rfl ?_
  refine m_put (x := 82) (t := 92) dX9_init_57 fl_X9_37 rfl rfl (fun _ => ⟨rfl, rfl⟩) (fun _ => ⟨rfl, rfl, _, _, _, rfl, x_tb (tb1 143 (by decide +kernel)) rfl⟩) rfl ?_
  exact n_ret (r := []) dX9_init_60 trivial ⟨rfl, rfl, rfl⟩ rfl
def w_X9_83 (σ : xW) : xW := xu (xnz (xu (xnz (xu (xnz (xu (xu (xu (xu (xu (xu σ 83 0 0) 83 1 99) 83 2 20) 83 3 0) 83 4 0) 83 5 0) 84) 83 6 84) 85) 83 7 85) 86) 83 8 86
theorem k_X9_83 {σ : xW} : xCN 1 3 24 mX9_init [vR 83] 84 σ (fun r n' σ' => r = [] ∧ n' = 87 ∧ σ' = w_X9_83 σ) := by
  refine xCN.of [vR 83] (by decide +kernel) (Nat.le_of_ble_eq_true rfl) rfl ?_
  refine n_aln dX9_init_0 rfl rfl (by decide) ?_
  refine n_obj (by decide) dX9_init_1 ob_X9_3 (by decide) rfl ?_
  refine n_aln dX9_init_4 rfl rfl (by decide) ?_
  refine n_ic dX9_init_5 ?_
  refine m_put (x := 0) (t := 0) dX9_init_6 fl_X9_9 rfl rfl (fun _ => ⟨rfl, rfl⟩) (fun h => nomatch h) rfl ?_
  refine n_aln dX9_init_9 rfl rfl (by decide) ?_
  refine n_bi dX9_init_10 (by decide) ?_
  refine m_put (x := 99) (t := 0) dX9_init_12 fl_X9_15 rfl rfl (fun _ => ⟨rfl, rfl⟩) (fun h => nomatch h) rfl ?_
  refine n_aln dX9_init_15 rfl rfl (by decide) ?_
  refine n_bi dX9_init_16 (by decide) ?_
  refine m_put (x := 20) (t := 0) dX9_init_18 fl_X9_18 rfl rfl (fun _ => ⟨rfl, rfl⟩) (fun h => nomatch h) rfl ?_
  refine n_aln dX9_init_21 rfl rfl (by decide) ?_
  refine n_ic dX9_init_22 ?_
  refine m_put (x := 0) (t := 0) dX9_init_23 fl_X9_21 rfl rfl (fun _ => ⟨rfl, rfl⟩) (fun h => nomatch h) rfl ?_
  refine n_aln dX9_init_26 rfl rfl (by decide) ?_
  refine n_ic dX9_init_27 ?_
  refine m_put (x := 0) (t := 0) dX9_init_28 fl_X9_24 rfl rfl (fun _ => ⟨rfl, rfl⟩) (fun h => nomatch h) rfl ?_
  refine n_aln dX9_init_31 rfl rfl (by decide) ?_
  refine n_ic dX9_init_32 ?_
  refine m_put (x := 0) (t := 0) dX9_init_33 fl_X9_27 rfl rfl (fun _ => ⟨rfl, rfl⟩) (fun h => nomatch h) rfl ?_
  refine n_aln dX9_init_36 rfl rfl (by decide) ?_
  refine n_bi dX9_init_37 (by decide) ?_
  refine m_newa (bc := 2) (bs := 16) (len := 8) (n1 := 85) dX9_init_39 rfl ac_1 rfl rfl rfl rfl (by decide) rfl rfl ?_
  refine m_put (x := 84) (t := 94) dX9_init_41 fl_X9_30 rfl rfl (fun _ => ⟨rfl, rfl⟩) (fun _ => ⟨rfl, rfl, _, _, _, rfl, x_tb (tb1 139 (by decide +kernel)) rfl⟩) rfl ?_
  refine n_aln dX9_init_44 rfl rfl (by decide) ?_
  refine n_bi dX9_init_45 (by decide) ?_
  refine m_newa (bc := 1) (bs := 8) (len := 8) (n1 := 86) dX9_init_47 rfl ac_1 rfl rfl rfl rfl (by decide) rfl rfl ?_
  refine m_put (x := 85) (t := 95) dX9_init_49 fl_X9_34 rfl rfl (fun _ => ⟨rfl, rfl⟩) (fun _ => ⟨rfl, rfl, _, _, _, rfl, x_tb (tb1 141 (by decide +kernel)) rfl⟩) rfl ?_
  refine n_aln dX9_init_52 rfl rfl (by decide) ?_
  refine n_bi dX9_init_53 (by decide) ?_
  refine m_newa (bc := 0) (bs := 0) (len := 8) (n1 := 87) dX9_init_55 rfl ac_1 rfl rfl rfl rfl (by decide) rfl rfl ?_
  refine m_put (x := 86) (t := 96) dX9_init_57 fl_X9_37 rfl rfl (fun _ => ⟨rfl, rfl⟩) (fun _ => ⟨rfl, rfl, _, _, _, rfl, x_tb (tb1 143 (by decide +kernel)) rfl⟩) rfl ?_
  exact n_ret (r := []) dX9_init_60 trivial ⟨rfl, rfl, rfl⟩ rfl
def w_X9_109 (σ : xW) : xW := xu (xnz (xu (xnz (xu (xnz (xu (xu (xu (xu (xu (xu σ 109 0 0) 109 1 99) 109 2 20) 109 3 0) 109 4 0) 109 5 0) 110) 109 6 110) 111) 109 7 111) 112) 109 8 112
theorem k_X9_109 {σ : xW} : xCN 1 3 24 mX9_init [vR 109] 110 σ (fun r n' σ' => r = [] ∧ n' = 113 ∧ σ' = w_X9_109 σ) := by
  refine xCN.of [vR 109] (by decide +kernel) (Nat.le_of_ble_eq_true rfl) rfl ?_
  refine n_aln dX9_init_0 rfl rfl (by decide) ?_
  refine n_obj (by decide) dX9_init_1 ob_X9_3 (by decide) rfl ?_
  refine n_aln dX9_init_4 rfl rfl (by decide) ?_
  refine n_ic dX9_init_5 ?_
  refine m_put (x := 0) (t := 0) dX9_init_6 fl_X9_9 rfl rfl (fun _ => ⟨rfl, rfl⟩) (fun h => nomatch h) rfl ?_
  refine n_aln dX9_init_9 rfl rfl (by decide) ?_
  refine n_bi dX9_init_10 (by decide) ?_
  refine m_put (x := 99) (t := 0) dX9_init_12 fl_X9_15 rfl rfl (fun _ => ⟨rfl, rfl⟩) (fun h => nomatch h) rfl ?_
  refine n_aln dX9_init_15 rfl rfl (by decide) ?_
  refine n_bi dX9_init_16 (by decide) ?_
  refine m_put (x := 20) (t := 0) dX9_init_18 fl_X9_18 rfl rfl (fun _ => ⟨rfl, rfl⟩) (fun h => nomatch h) rfl ?_
  refine n_aln dX9_init_21 rfl rfl (by decide) ?_
  refine n_ic dX9_init_22 ?_
  refine m_put (x := 0) (t := 0) dX9_init_23 fl_X9_21 rfl rfl (fun _ => ⟨rfl, rfl⟩) (fun h => nomatch h) rfl ?_
  refine n_aln dX9_init_26 rfl rfl (by decide) ?_
  refine n_ic dX9_init_27 ?_
  refine m_put (x := 0) (t := 0) dX9_init_28 fl_X9_24 rfl rfl (fun _ => ⟨rfl, rfl⟩) (fun h => nomatch h) rfl ?_
  refine n_aln dX9_init_31 rfl rfl (by decide) ?_
  refine n_ic dX9_init_32 ?_
  refine m_put (x := 0) (t := 0) dX9_init_33 fl_X9_27 rfl rfl (fun _ => ⟨rfl, rfl⟩) (fun h => nomatch h) rfl ?_
  refine n_aln dX9_init_36 rfl rfl (by decide) ?_
  refine n_bi dX9_init_37 (by decide) ?_
  refine m_newa (bc := 2) (bs := 16) (len := 8) (n1 := 111) dX9_init_39 rfl ac_1 rfl rfl rfl rfl (by decide) rfl rfl ?_
  refine m_put (x := 110) (t := 120) dX9_init_41 fl_X9_30 rfl rfl (fun _ => ⟨rfl, rfl⟩) (fun _ => ⟨rfl, rfl, _, _, _, rfl, x_tb (tb1 139 (by decide +kernel)) rfl⟩) rfl ?_
  refine n_aln dX9_init_44 rfl rfl (by decide) ?_
  refine n_bi dX9_init_45 (by decide) ?_
  refine m_newa (bc := 1) (bs := 8) (len := 8) (n1 := 112) dX9_init_47 rfl ac_1 rfl rfl rfl rfl (by decide) rfl rfl ?_
  refine m_put (x := 111) (t := 121) dX9_init_49 fl_X9_34 rfl rfl (fun _ => ⟨rfl, rfl⟩) (fun _ => ⟨rfl, rfl, _, _, _, rfl, x_tb (tb1 141 (by decide +kernel)) rfl⟩) rfl ?_
  refine n_aln dX9_init_52 rfl rfl (by decide) ?_
  refine n_bi dX9_init_53 (by decide) ?_
  refine m_newa (bc := 0) (bs := 0) (len := 8) (n1 := 113) dX9_init_55 rfl ac_1 rfl rfl rfl rfl (by decide) rfl rfl ?_
  refine m_put (x := 112) (t := 122) dX9_init_57 fl_X9_37 rfl rfl (fun _ => ⟨rfl, rfl⟩) (fun _ => ⟨rfl, rfl, _, _, _, rfl, x_tb (tb1 143 (by decide +kernel)) rfl⟩) rfl ?_
  exact n_ret (r := []) dX9_init_60 trivial ⟨rfl, rfl, rfl⟩ rfl
def w_X9_113 (σ : xW) : xW := xu (xnz (xu (xnz (xu (xnz (xu (xu (xu (xu (xu (xu σ 113 0 0) 113 1 99) 113 2 20) 113 3 0) 113 4 0) 113 5 0) 114) 113 6 114) 115) 113 7 115) 116) 113 8 116
theorem k_X9_113 {σ : xW} : xCN 1 3 24 mX9_init [vR 113] 114 σ (fun r n' σ' => r = [] ∧ n' = 117 ∧ σ' = w_X9_113 σ) := by
  refine xCN.of [vR 113] (by decide +kernel) (Nat.le_of_ble_eq_true rfl) rfl ?_
  refine n_aln dX9_init_0 rfl rfl (by decide) ?_
  refine n_obj (by decide) dX9_init_1 ob_X9_3 (by decide) rfl ?_
  refine n_aln dX9_init_4 rfl rfl (by decide) ?_
  refine n_ic dX9_init_5 ?_
  refine m_put (x := 0) (t := 0) dX9_init_6 fl_X9_9 rfl rfl (fun _ => ⟨rfl, rfl⟩) (fun h => nomatch h) rfl ?_
  refine n_aln dX9_init_9 rfl rfl (by decide) ?_
  refine n_bi dX9_init_10 (by decide) ?_
  refine m_put (x := 99) (t := 0) dX9_init_12 fl_X9_15 rfl rfl (fun _ => ⟨rfl, rfl⟩) (fun h => nomatch h) rfl ?_
  refine n_aln dX9_init_15 rfl rfl (by decide) ?_
  refine n_bi dX9_init_16 (by decide) ?_
  refine m_put (x := 20) (t := 0) dX9_init_18 fl_X9_18 rfl rfl (fun _ => ⟨rfl, rfl⟩) (fun h => nomatch h) rfl ?_
  refine n_aln dX9_init_21 rfl rfl (by decide) ?_
  refine n_ic dX9_init_22 ?_
  refine m_put (x := 0) (t := 0) dX9_init_23 fl_X9_21 rfl rfl (fun _ => ⟨rfl, rfl⟩) (fun h => nomatch h) rfl ?_
  refine n_aln dX9_init_26 rfl rfl (by decide) ?_
  refine n_ic dX9_init_27 ?_
  refine m_put (x := 0) (t := 0) dX9_init_28 fl_X9_24 rfl rfl (fun _ => ⟨rfl, rfl⟩) (fun h => nomatch h) rfl ?_
  refine n_aln dX9_init_31 rfl rfl (by decide) ?_
  refine n_ic dX9_init_32 ?_
  refine m_put (x := 0) (t := 0) dX9_init_33 fl_X9_27 rfl rfl (fun _ => ⟨rfl, rfl⟩) (fun h => nomatch h) rfl ?_
  refine n_aln dX9_init_36 rfl rfl (by decide) ?_
  refine n_bi dX9_init_37 (by decide) ?_
  refine m_newa (bc := 2) (bs := 16) (len := 8) (n1 := 115) dX9_init_39 rfl ac_1 rfl rfl rfl rfl (by decide) rfl rfl ?_
  refine m_put (x := 114) (t := 124) dX9_init_41 fl_X9_30 rfl rfl (fun _ => ⟨rfl, rfl⟩) (fun _ => ⟨rfl, rfl, _, _, _, rfl, x_tb (tb1 139 (by decide +kernel)) rfl⟩) rfl ?_
  refine n_aln dX9_init_44 rfl rfl (by decide) ?_
  refine n_bi dX9_init_45 (by decide) ?_
  refine m_newa (bc := 1) (bs := 8) (len := 8) (n1 := 116) dX9_init_47 rfl ac_1 rfl rfl rfl rfl (by decide) rfl rfl ?_
  refine m_put (x := 115) (t := 125) dX9_init_49 fl_X9_34 rfl rfl (fun _ => ⟨rfl, rfl⟩) (fun _ => ⟨rfl, rfl, _, _, _, rfl, x_tb (tb1 141 (by decide +kernel)) rfl⟩) rfl ?_
  refine n_aln dX9_init_52 rfl rfl (by decide) ?_
  refine n_bi dX9_init_53 (by decide) ?_
  refine m_newa (bc := 0) (bs := 0) (len := 8) (n1 := 117) dX9_init_55 rfl ac_1 rfl rfl rfl rfl (by decide) rfl rfl ?_
  refine m_put (x := 116) (t := 126) dX9_init_57 fl_X9_37 rfl rfl (fun _ => ⟨rfl, rfl⟩) (fun _ => ⟨rfl, rfl, _, _, _, rfl, x_tb (tb1 143 (by decide +kernel)) rfl⟩) rfl ?_
  exact n_ret (r := []) dX9_init_60 trivial ⟨rfl, rfl, rfl⟩ rfl
def w_X9_117 (σ : xW) : xW := xu (xnz (xu (xnz (xu (xnz (xu (xu (xu (xu (xu (xu σ 117 0 0) 117 1 99) 117 2 20) 117 3 0) 117 4 0) 117 5 0) 118) 117 6 118) 119) 117 7 119) 120) 117 8 120
theorem k_X9_117 {σ : xW} : xCN 1 3 24 mX9_init [vR 117] 118 σ (fun r n' σ' => r = [] ∧ n' = 121 ∧ σ' = w_X9_117 σ) := by
  refine xCN.of [vR 117] (by decide +kernel) (Nat.le_of_ble_eq_true rfl) rfl ?_
  refine n_aln dX9_init_0 rfl rfl (by decide) ?_
  refine n_obj (by decide) dX9_init_1 ob_X9_3 (by decide) rfl ?_
  refine n_aln dX9_init_4 rfl rfl (by decide) ?_
  refine n_ic dX9_init_5 ?_
  refine m_put (x := 0) (t := 0) dX9_init_6 fl_X9_9 rfl rfl (fun _ => ⟨rfl, rfl⟩) (fun h => nomatch h) rfl ?_
  refine n_aln dX9_init_9 rfl rfl (by decide) ?_
  refine n_bi dX9_init_10 (by decide) ?_
  refine m_put (x := 99) (t := 0) dX9_init_12 fl_X9_15 rfl rfl (fun _ => ⟨rfl, rfl⟩) (fun h => nomatch h) rfl ?_
  refine n_aln dX9_init_15 rfl rfl (by decide) ?_
  refine n_bi dX9_init_16 (by decide) ?_
  refine m_put (x := 20) (t := 0) dX9_init_18 fl_X9_18 rfl rfl (fun _ => ⟨rfl, rfl⟩) (fun h => nomatch h) rfl ?_
  refine n_aln dX9_init_21 rfl rfl (by decide) ?_
  refine n_ic dX9_init_22 ?_
  refine m_put (x := 0) (t := 0) dX9_init_23 fl_X9_21 rfl rfl (fun _ => ⟨rfl, rfl⟩) (fun h => nomatch h) rfl ?_
  refine n_aln dX9_init_26 rfl rfl (by decide) ?_
  refine n_ic dX9_init_27 ?_
  refine m_put (x := 0) (t := 0) dX9_init_28 fl_X9_24 rfl rfl (fun _ => ⟨rfl, rfl⟩) (fun h => nomatch h) rfl ?_
  refine n_aln dX9_init_31 rfl rfl (by decide) ?_
  refine n_ic dX9_init_32 ?_
  refine m_put (x := 0) (t := 0) dX9_init_33 fl_X9_27 rfl rfl (fun _ => ⟨rfl, rfl⟩) (fun h => nomatch h) rfl ?_
  refine n_aln dX9_init_36 rfl rfl (by decide) ?_
  refine n_bi dX9_init_37 (by decide) ?_
  refine m_newa (bc := 2) (bs := 16) (len := 8) (n1 := 119) dX9_init_39 rfl ac_1 rfl rfl rfl rfl (by decide) rfl rfl ?_
  refine m_put (x := 118) (t := 128) dX9_init_41 fl_X9_30 rfl rfl (fun _ => ⟨rfl, rfl⟩) (fun _ => ⟨rfl, rfl, _, _, _, rfl, x_tb (tb1 139 (by decide +kernel)) rfl⟩) rfl ?_
  refine n_aln dX9_init_44 rfl rfl (by decide) ?_
  refine n_bi dX9_init_45 (by decide) ?_
  refine m_newa (bc := 1) (bs := 8) (len := 8) (n1 := 120) dX9_init_47 rfl ac_1 rfl rfl rfl rfl (by decide) rfl rfl ?_
  refine m_put (x := 119) (t := 129) dX9_init_49 fl_X9_34 rfl rfl (fun _ => ⟨rfl, rfl⟩) (fun _ => ⟨rfl, rfl, _, _, _, rfl, x_tb (tb1 141 (by decide +kernel)) rfl⟩) rfl ?_
  refine n_aln dX9_init_52 rfl rfl (by decide) ?_
  refine n_bi dX9_init_53 (by decide) ?_
  refine m_newa (bc := 0) (bs := 0) (len := 8) (n1 := 121) dX9_init_55 rfl ac_1 rfl rfl rfl rfl (by decide) rfl rfl ?_
  refine m_put (x := 120) (t := 130) dX9_init_57 fl_X9_37 rfl rfl (fun _ => ⟨rfl, rfl⟩) (fun _ => ⟨rfl, rfl, _, _, _, rfl, x_tb (tb1 143 (by decide +kernel)) rfl⟩) rfl ?_
  exact n_ret (r := []) dX9_init_60 trivial ⟨rfl, rfl, rfl⟩ rfl
