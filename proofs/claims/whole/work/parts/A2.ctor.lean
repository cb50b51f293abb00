theorem dX8_init_0 : decode cX8_init 0 = .ok (.aload_n 0, 1) := by decide +kernel
theorem dX8_init_1 : decode cX8_init 1 = .ok (.invokespecial 3, 3) := by decide +kernel
theorem dX8_init_4 : decode cX8_init 4 = .ok (.aload_n 0, 1) := by decide +kernel
theorem dX8_init_5 : decode cX8_init 5 = .ok (.bipush 80, 2) := by decide +kernel
theorem dX8_init_7 : decode cX8_init 7 = .ok (.newarray .char, 2) := by decide +kernel
theorem dX8_init_9 : decode cX8_init 9 = .ok (.putfield 11, 3) := by decide +kernel
theorem dX8_init_12 : decode cX8_init 12 = .ok (.aload_n 0, 1) := by decide +kernel
theorem dX8_init_13 : decode cX8_init 13 = .ok (.iconst 0, 1) := by decide +kernel
theorem dX8_init_14 : decode cX8_init 14 = .ok (.putfield 15, 3) := by decide +kernel
theorem dX8_init_17 : decode cX8_init 17 = .ok (.return_, 1) := by decide +kernel
theorem ob_X8_3 : Cond.methodLink RX8 3 Lib.objectInit ∈ xTB := x_tb (tb1 39 (by decide +kernel)) rfl
theorem ac_4 : Cond.arrayClass .char ∈ xTB := x_tb (tb1 50 (by decide +kernel)) rfl
def w_X8_1 (σ : xW) : xW := xu (xu (xnz σ 2) 1 0 2) 1 1 0
theorem k_X8_1 {σ : xW} : xCN 1 1 80 mX8_init [vR 1] 2 σ (fun r n' σ' => r = [] ∧ n' = 3 ∧ σ' = w_X8_1 σ) := by
  refine xCN.of [vR 1] (by decide +kernel) (Nat.le_of_ble_eq_true rfl) rfl ?_
  refine n_aln dX8_init_0 rfl rfl (by decide) ?_
  refine n_obj (by decide) dX8_init_1 ob_X8_3 (by decide) rfl ?_
  refine n_aln dX8_init_4 rfl rfl (by decide) ?_
  refine n_bi dX8_init_5 (by decide) ?_
  refine m_newa (bc := 0) (bs := 0) (len := 80) (n1 := 3) dX8_init_7 rfl ac_4 rfl rfl rfl rfl (by decide) rfl rfl ?_
  refine m_put (x := 2) (t := 12) dX8_init_9 fl_X8_11 rfl rfl (fun _ => ⟨rfl, rfl⟩) (fun _ => ⟨rfl, rfl, _, _, _, rfl, x_tb (tb1 40 (by decide +kernel)) rfl⟩) rfl ?_
  refine n_aln dX8_init_12 rfl rfl (by decide) ?_
  refine n_ic dX8_init_13 ?_
  refine m_put (x := 0) (t := 0) dX8_init_14 fl_X8_15 rfl rfl (fun _ => ⟨rfl, rfl⟩) (fun h => nomatch h) rfl ?_
  exact n_ret (r := []) dX8_init_17 trivial ⟨rfl, rfl, rfl⟩ rfl
theorem dX6_init_0 : decode cX6_init 0 = .ok (.aload_n 0, 1) := by decide +kernel
theorem dX6_init_1 : decode cX6_init 1 = .ok (.invokespecial 1, 3) := by decide +kernel
theorem dX6_init_4 : decode cX6_init 4 = .ok (.aload_n 0, 1) := by decide +kernel
theorem dX6_init_5 : decode cX6_init 5 = .ok (.bipush 16, 2) := by decide +kernel
theorem dX6_init_7 : decode cX6_init 7 = .ok (.newarray .long, 2) := by decide +kernel
theorem dX6_init_9 : decode cX6_init 9 = .ok (.putfield 9, 3) := by decide +kernel
theorem dX6_init_12 : decode cX6_init 12 = .ok (.aload_n 0, 1) := by decide +kernel
theorem dX6_init_13 : decode cX6_init 13 = .ok (.iconst 0, 1) := by decide +kernel
theorem dX6_init_14 : decode cX6_init 14 = .ok (.putfield 13, 3) := by decide +kernel
theorem dX6_init_17 : decode cX6_init 17 = .ok (.return_, 1) := by decide +kernel
theorem ob_X6_1 : Cond.methodLink RX6 1 Lib.objectInit ∈ xTB := x_tb (tb1 56 (by decide +kernel)) rfl
theorem ac_2 : Cond.arrayClass .long ∈ xTB := x_tb (tb1 66 (by decide +kernel)) rfl
def w_X6_3 (σ : xW) : xW := xu (xu (xnz σ 4) 3 0 4) 3 1 0
theorem k_X6_3 {σ : xW} : xCN 1 1 16 mX6_init [vR 3] 4 σ (fun r n' σ' => r = [] ∧ n' = 5 ∧ σ' = w_X6_3 σ) := by
  refine xCN.of [vR 3] (by decide +kernel) (Nat.le_of_ble_eq_true rfl) rfl ?_
  refine n_aln dX6_init_0 rfl rfl (by decide) ?_
  refine n_obj (by decide) dX6_init_1 ob_X6_1 (by decide) rfl ?_
  refine n_aln dX6_init_4 rfl rfl (by decide) ?_
  refine n_bi dX6_init_5 (by decide) ?_
  refine m_newa (bc := 0) (bs := 0) (len := 16) (n1 := 5) dX6_init_7 rfl ac_2 rfl rfl rfl rfl (by decide) rfl rfl ?_
  refine m_put (x := 4) (t := 14) dX6_init_9 fl_X6_9 rfl rfl (fun _ => ⟨rfl, rfl⟩) (fun _ => ⟨rfl, rfl, _, _, _, rfl, x_tb (tb1 57 (by decide +kernel)) rfl⟩) rfl ?_
  refine n_aln dX6_init_12 rfl rfl (by decide) ?_
  refine n_ic dX6_init_13 ?_
  refine m_put (x := 0) (t := 0) dX6_init_14 fl_X6_13 rfl rfl (fun _ => ⟨rfl, rfl⟩) (fun h => nomatch h) rfl ?_
  exact n_ret (r := []) dX6_init_17 trivial ⟨rfl, rfl, rfl⟩ rfl
theorem dX1_init_0 : decode cX1_init 0 = .ok (.aload_n 0, 1) := by decide +kernel
theorem dX1_init_1 : decode cX1_init 1 = .ok (.invokespecial 3, 3) := by decide +kernel
theorem dX1_init_4 : decode cX1_init 4 = .ok (.aload_n 0, 1) := by decide +kernel
theorem dX1_init_5 : decode cX1_init 5 = .ok (.bipush 20, 2) := by decide +kernel
theorem dX1_init_7 : decode cX1_init 7 = .ok (.newarray .int, 2) := by decide +kernel
theorem dX1_init_9 : decode cX1_init 9 = .ok (.putfield 11, 3) := by decide +kernel
theorem dX1_init_12 : decode cX1_init 12 = .ok (.aload_n 0, 1) := by decide +kernel
theorem dX1_init_13 : decode cX1_init 13 = .ok (.iconst 1, 1) := by decide +kernel
theorem dX1_init_14 : decode cX1_init 14 = .ok (.putfield 15, 3) := by decide +kernel
theorem dX1_init_17 : decode cX1_init 17 = .ok (.return_, 1) := by decide +kernel
theorem ob_X1_3 : Cond.methodLink RX1 3 Lib.objectInit ∈ xTB := x_tb (tb1 72 (by decide +kernel)) rfl
theorem ac_1 : Cond.arrayClass .int ∈ xTB := x_tb (tb1 80 (by decide +kernel)) rfl
def w_X1_5 (σ : xW) : xW := xu (xu (xnz σ 6) 5 0 6) 5 1 1
theorem k_X1_5 {σ : xW} : xCN 1 1 20 mX1_init [vR 5] 6 σ (fun r n' σ' => r = [] ∧ n' = 7 ∧ σ' = w_X1_5 σ) := by
  refine xCN.of [vR 5] (by decide +kernel) (Nat.le_of_ble_eq_true rfl) rfl ?_
  refine n_aln dX1_init_0 rfl rfl (by decide) ?_
  refine n_obj (by decide) dX1_init_1 ob_X1_3 (by decide) rfl ?_
  refine n_aln dX1_init_4 rfl rfl (by decide) ?_
  refine n_bi dX1_init_5 (by decide) ?_
  refine m_newa (bc := 0) (bs := 0) (len := 20) (n1 := 7) dX1_init_7 rfl ac_1 rfl rfl rfl rfl (by decide) rfl rfl ?_
  refine m_put (x := 6) (t := 16) dX1_init_9 fl_X1_11 rfl rfl (fun _ => ⟨rfl, rfl⟩) (fun _ => ⟨rfl, rfl, _, _, _, rfl, x_tb (tb1 73 (by decide +kernel)) rfl⟩) rfl ?_
  refine n_aln dX1_init_12 rfl rfl (by decide) ?_
  refine n_ic dX1_init_13 ?_
  refine m_put (x := 1) (t := 0) dX1_init_14 fl_X1_15 rfl rfl (fun _ => ⟨rfl, rfl⟩) (fun h => nomatch h) rfl ?_
  exact n_ret (r := []) dX1_init_17 trivial ⟨rfl, rfl, rfl⟩ rfl
def w_X1_7 (σ : xW) : xW := xu (xu (xnz σ 8) 7 0 8) 7 1 1
theorem k_X1_7 {σ : xW} : xCN 1 1 20 mX1_init [vR 7] 8 σ (fun r n' σ' => r = [] ∧ n' = 9 ∧ σ' = w_X1_7 σ) := by
  refine xCN.of [vR 7] (by decide +kernel) (Nat.le_of_ble_eq_true rfl) rfl ?_
  refine n_aln dX1_init_0 rfl rfl (by decide) ?_
  refine n_obj (by decide) dX1_init_1 ob_X1_3 (by decide) rfl ?_
  refine n_aln dX1_init_4 rfl rfl (by decide) ?_
  refine n_bi dX1_init_5 (by decide) ?_
  refine m_newa (bc := 0) (bs := 0) (len := 20) (n1 := 9) dX1_init_7 rfl ac_1 rfl rfl rfl rfl (by decide) rfl rfl ?_
  refine m_put (x := 8) (t := 18) dX1_init_9 fl_X1_11 rfl rfl (fun _ => ⟨rfl, rfl⟩) (fun _ => ⟨rfl, rfl, _, _, _, rfl, x_tb (tb1 73 (by decide +kernel)) rfl⟩) rfl ?_
  refine n_aln dX1_init_12 rfl rfl (by decide) ?_
  refine n_ic dX1_init_13 ?_
  refine m_put (x := 1) (t := 0) dX1_init_14 fl_X1_15 rfl rfl (fun _ => ⟨rfl, rfl⟩) (fun h => nomatch h) rfl ?_
  exact n_ret (r := []) dX1_init_17 trivial ⟨rfl, rfl, rfl⟩ rfl
theorem dX7_init_0 : decode cX7_init 0 = .ok (.aload_n 0, 1) := by decide +kernel
theorem dX7_init_1 : decode cX7_init 1 = .ok (.invokespecial 3, 3) := by decide +kernel
theorem dX7_init_4 : decode cX7_init 4 = .ok (.aload_n 0, 1) := by decide +kernel
theorem dX7_init_5 : decode cX7_init 5 = .ok (.bipush 40, 2) := by decide +kernel
theorem dX7_init_7 : decode cX7_init 7 = .ok (.newarray .int, 2) := by decide +kernel
theorem dX7_init_9 : decode cX7_init 9 = .ok (.putfield 11, 3) := by decide +kernel
theorem dX7_init_12 : decode cX7_init 12 = .ok (.aload_n 0, 1) := by decide +kernel
theorem dX7_init_13 : decode cX7_init 13 = .ok (.iconst 0, 1) := by decide +kernel
theorem dX7_init_14 : decode cX7_init 14 = .ok (.putfield 15, 3) := by decide +kernel
theorem dX7_init_17 : decode cX7_init 17 = .ok (.aload_n 0, 1) := by decide +kernel
theorem dX7_init_18 : decode cX7_init 18 = .ok (.bipush 40, 2) := by decide +kernel
theorem dX7_init_20 : decode cX7_init 20 = .ok (.newarray .int, 2) := by decide +kernel
theorem dX7_init_22 : decode cX7_init 22 = .ok (.putfield 19, 3) := by decide +kernel
theorem dX7_init_25 : decode cX7_init 25 = .ok (.aload_n 0, 1) := by decide +kernel
theorem dX7_init_26 : decode cX7_init 26 = .ok (.bipush 40, 2) := by decide +kernel
theorem dX7_init_28 : decode cX7_init 28 = .ok (.newarray .char, 2) := by decide +kernel
theorem dX7_init_30 : decode cX7_init 30 = .ok (.putfield 22, 3) := by decide +kernel
theorem dX7_init_33 : decode cX7_init 33 = .ok (.aload_n 0, 1) := by decide +kernel
theorem dX7_init_34 : decode cX7_init 34 = .ok (.iconst 0, 1) := by decide +kernel
theorem dX7_init_35 : decode cX7_init 35 = .ok (.putfield 26, 3) := by decide +kernel
theorem dX7_init_38 : decode cX7_init 38 = .ok (.aload_n 0, 1) := by decide +kernel
theorem dX7_init_39 : decode cX7_init 39 = .ok (.iconst 0, 1) := by decide +kernel
theorem dX7_init_40 : decode cX7_init 40 = .ok (.putfield 29, 3) := by decide +kernel
theorem dX7_init_43 : decode cX7_init 43 = .ok (.aload_n 0, 1) := by decide +kernel
theorem dX7_init_44 : decode cX7_init 44 = .ok (.iconst 0, 1) := by decide +kernel
theorem dX7_init_45 : decode cX7_init 45 = .ok (.putfield 32, 3) := by decide +kernel
theorem dX7_init_48 : decode cX7_init 48 = .ok (.aload_n 0, 1) := by decide +kernel
theorem dX7_init_49 : decode cX7_init 49 = .ok (.iconst 1, 1) := by decide +kernel
theorem dX7_init_50 : decode cX7_init 50 = .ok (.putfield 35, 3) := by decide +kernel
theorem dX7_init_53 : decode cX7_init 53 = .ok (.aload_n 0, 1) := by decide +kernel
theorem dX7_init_54 : decode cX7_init 54 = .ok (.invokevirtual 39, 3) := by decide +kernel
theorem dX7_init_57 : decode cX7_init 57 = .ok (.return_, 1) := by decide +kernel
theorem k_X7_takeFirst_9 {σ : xW} (h : σ 9 0 = 10) : xCN 1 0 0 mX7_takeFirst [vR 9] 13 σ (fun r n' σ' => r = [] ∧ n' = 13 ∧ σ' = xu (xfirst σ 10) 9 1 7) := by
  refine xCN.of [vR 9] (by decide +kernel) (Nat.le_of_ble_eq_true rfl) rfl ?_
  refine n_first (a1 := 10) (t := 20) (by decide) rfl (by rw [h]; rfl) rfl (by decide) (n_first2 ?_ (by decide))
  refine m_put (x := 7) (t := 0) dX7_takeFirst_21 fl_X7_15 rfl rfl (fun _ => ⟨rfl, rfl⟩) (fun h => nomatch h) rfl ?_
  exact n_ret (r := []) dX7_takeFirst_24 trivial ⟨rfl, rfl, rfl⟩ rfl
theorem ob_X7_3 : Cond.methodLink RX7 3 Lib.objectInit ∈ xTB := x_tb (tb1 86 (by decide +kernel)) rfl
def w_X7_9 (σ : xW) : xW := xu (xfirst (xu (xu (xu (xu (xu (xnz (xu (xnz (xu (xu (xnz σ 10) 9 0 10) 9 1 0) 11) 9 2 11) 12) 9 3 12) 9 4 0) 9 5 0) 9 6 0) 9 7 1) 10) 9 1 7
theorem k_X7_9 {σ : xW} : xCN 2 3 120 mX7_init [vR 9] 10 σ (fun r n' σ' => r = [] ∧ n' = 13 ∧ σ' = w_X7_9 σ) := by
  refine xCN.of [vR 9] (by decide +kernel) (Nat.le_of_ble_eq_true rfl) rfl ?_
  refine n_aln dX7_init_0 rfl rfl (by decide) ?_
  refine n_obj (by decide) dX7_init_1 ob_X7_3 (by decide) rfl ?_
  refine n_aln dX7_init_4 rfl rfl (by decide) ?_
  refine n_bi dX7_init_5 (by decide) ?_
  refine m_newa (bc := 2) (bs := 80) (len := 40) (n1 := 11) dX7_init_7 rfl ac_1 rfl rfl rfl rfl (by decide) rfl rfl ?_
  refine m_put (x := 10) (t := 20) dX7_init_9 fl_X7_11 rfl rfl (fun _ => ⟨rfl, rfl⟩) (fun _ => ⟨rfl, rfl, _, _, _, rfl, x_tb (tb1 96 (by decide +kernel)) rfl⟩) rfl ?_
  refine n_aln dX7_init_12 rfl rfl (by decide) ?_
  refine n_ic dX7_init_13 ?_
  refine m_put (x := 0) (t := 0) dX7_init_14 fl_X7_15 rfl rfl (fun _ => ⟨rfl, rfl⟩) (fun h => nomatch h) rfl ?_
  refine n_aln dX7_init_17 rfl rfl (by decide) ?_
  refine n_bi dX7_init_18 (by decide) ?_
  refine m_newa (bc := 1) (bs := 40) (len := 40) (n1 := 12) dX7_init_20 rfl ac_1 rfl rfl rfl rfl (by decide) rfl rfl ?_
  refine m_put (x := 11) (t := 21) dX7_init_22 fl_X7_19 rfl rfl (fun _ => ⟨rfl, rfl⟩) (fun _ => ⟨rfl, rfl, _, _, _, rfl, x_tb (tb1 98 (by decide +kernel)) rfl⟩) rfl ?_
  refine n_aln dX7_init_25 rfl rfl (by decide) ?_
  refine n_bi dX7_init_26 (by decide) ?_
  refine m_newa (bc := 0) (bs := 0) (len := 40) (n1 := 13) dX7_init_28 rfl ac_4 rfl rfl rfl rfl (by decide) rfl rfl ?_
  refine m_put (x := 12) (t := 22) dX7_init_30 fl_X7_22 rfl rfl (fun _ => ⟨rfl, rfl⟩) (fun _ => ⟨rfl, rfl, _, _, _, rfl, x_tb (tb1 99 (by decide +kernel)) rfl⟩) rfl ?_
  refine n_aln dX7_init_33 rfl rfl (by decide) ?_
  refine n_ic dX7_init_34 ?_
  refine m_put (x := 0) (t := 0) dX7_init_35 fl_X7_26 rfl rfl (fun _ => ⟨rfl, rfl⟩) (fun h => nomatch h) rfl ?_
  refine n_aln dX7_init_38 rfl rfl (by decide) ?_
  refine n_ic dX7_init_39 ?_
  refine m_put (x := 0) (t := 0) dX7_init_40 fl_X7_29 rfl rfl (fun _ => ⟨rfl, rfl⟩) (fun h => nomatch h) rfl ?_
  refine n_aln dX7_init_43 rfl rfl (by decide) ?_
  refine n_ic dX7_init_44 ?_
  refine m_put (x := 0) (t := 0) dX7_init_45 fl_X7_32 rfl rfl (fun _ => ⟨rfl, rfl⟩) (fun h => nomatch h) rfl ?_
  refine n_aln dX7_init_48 rfl rfl (by decide) ?_
  refine n_ic dX7_init_49 ?_
  refine m_put (x := 1) (t := 3) dX7_init_50 fl_X7_35 rfl rfl (fun _ => ⟨rfl, rfl⟩) (fun h => nomatch h) rfl ?_
  refine n_aln dX7_init_53 rfl rfl (by decide) ?_
  refine n_callV (bc := 0) (bs := 0) (b1 := 0) (b2 := 0) (n1 := 13) dX7_init_54 ml_X7_39 rfl (k_X7_takeFirst_9 rfl) rfl (by decide) rfl ?_
  exact n_ret (r := []) dX7_init_57 trivial ⟨rfl, rfl, rfl⟩ rfl
theorem k_X7_takeFirst_13 {σ : xW} (h : σ 13 0 = 14) : xCN 1 0 0 mX7_takeFirst [vR 13] 17 σ (fun r n' σ' => r = [] ∧ n' = 17 ∧ σ' = xu (xfirst σ 14) 13 1 7) := by
  refine xCN.of [vR 13] (by decide +kernel) (Nat.le_of_ble_eq_true rfl) rfl ?_
  refine n_first (a1 := 14) (t := 24) (by decide) rfl (by rw [h]; rfl) rfl (by decide) (n_first2 ?_ (by decide))
  refine m_put (x := 7) (t := 0) dX7_takeFirst_21 fl_X7_15 rfl rfl (fun _ => ⟨rfl, rfl⟩) (fun h => nomatch h) rfl ?_
  exact n_ret (r := []) dX7_takeFirst_24 trivial ⟨rfl, rfl, rfl⟩ rfl
def w_X7_13 (σ : xW) : xW := xu (xfirst (xu (xu (xu (xu (xu (xnz (xu (xnz (xu (xu (xnz σ 14) 13 0 14) 13 1 0) 15) 13 2 15) 16) 13 3 16) 13 4 0) 13 5 0) 13 6 0) 13 7 1) 14) 13 1 7
theorem k_X7_13 {σ : xW} : xCN 2 3 120 mX7_init [vR 13] 14 σ (fun r n' σ' => r = [] ∧ n' = 17 ∧ σ' = w_X7_13 σ) := by
  refine xCN.of [vR 13] (by decide +kernel) (Nat.le_of_ble_eq_true rfl) rfl ?_
  refine n_aln dX7_init_0 rfl rfl (by decide) ?_
  refine n_obj (by decide) dX7_init_1 ob_X7_3 (by decide) rfl ?_
  refine n_aln dX7_init_4 rfl rfl (by decide) ?_
  refine n_bi dX7_init_5 (by decide) ?_
  refine m_newa (bc := 2) (bs := 80) (len := 40) (n1 := 15) dX7_init_7 rfl ac_1 rfl rfl rfl rfl (by decide) rfl rfl ?_
  refine m_put (x := 14) (t := 24) dX7_init_9 fl_X7_11 rfl rfl (fun _ => ⟨rfl, rfl⟩) (fun _ => ⟨rfl, rfl, _, _, _, rfl, x_tb (tb1 96 (by decide +kernel)) rfl⟩) rfl ?_
  refine n_aln dX7_init_12 rfl rfl (by decide) ?_
  refine n_ic dX7_init_13 ?_
  refine m_put (x := 0) (t := 0) dX7_init_14 fl_X7_15 rfl rfl (fun _ => ⟨rfl, rfl⟩) (fun h => nomatch h) rfl ?_
  refine n_aln dX7_init_17 rfl rfl (by decide) ?_
  refine n_bi dX7_init_18 (by decide) ?_
  refine m_newa (bc := 1) (bs := 40) (len := 40) (n1 := 16) dX7_init_20 rfl ac_1 rfl rfl rfl rfl (by decide) rfl rfl ?_
  refine m_put (x := 15) (t := 25) dX7_init_22 fl_X7_19 rfl rfl (fun _ => ⟨rfl, rfl⟩) (fun _ => ⟨rfl, rfl, _, _, _, rfl, x_tb (tb1 98 (by decide +kernel)) rfl⟩) rfl ?_
  refine n_aln dX7_init_25 rfl rfl (by decide) ?_
  refine n_bi dX7_init_26 (by decide) ?_
  refine m_newa (bc := 0) (bs := 0) (len := 40) (n1 := 17) dX7_init_28 rfl ac_4 rfl rfl rfl rfl (by decide) rfl rfl ?_
  refine m_put (x := 16) (t := 26) dX7_init_30 fl_X7_22 rfl rfl (fun _ => ⟨rfl, rfl⟩) (fun _ => ⟨rfl, rfl, _, _, _, rfl, x_tb (tb1 99 (by decide +kernel)) rfl⟩) rfl ?_
  refine n_aln dX7_init_33 rfl rfl (by decide) ?_
  refine n_ic dX7_init_34 ?_
  refine m_put (x := 0) (t := 0) dX7_init_35 fl_X7_26 rfl rfl (fun _ => ⟨rfl, rfl⟩) (fun h => nomatch h) rfl ?_
  refine n_aln dX7_init_38 rfl rfl (by decide) ?_
  refine n_ic dX7_init_39 ?_
  refine m_put (x := 0) (t := 0) dX7_init_40 fl_X7_29 rfl rfl (fun _ => ⟨rfl, rfl⟩) (fun h => nomatch h) rfl ?_
  refine n_aln dX7_init_43 rfl rfl (by decide) ?_
  refine n_ic dX7_init_44 ?_
  refine m_put (x := 0) (t := 0) dX7_init_45 fl_X7_32 rfl rfl (fun _ => ⟨rfl, rfl⟩) (fun h => nomatch h) rfl ?_
  refine n_aln dX7_init_48 rfl rfl (by decide) ?_
  refine n_ic dX7_init_49 ?_
  refine m_put (x := 1) (t := 3) dX7_init_50 fl_X7_35 rfl rfl (fun _ => ⟨rfl, rfl⟩) (fun h => nomatch h) rfl ?_
  refine n_aln dX7_init_53 rfl rfl (by decide) ?_
  refine n_callV (bc := 0) (bs := 0) (b1 := 0) (b2 := 0) (n1 := 17) dX7_init_54 ml_X7_39 rfl (k_X7_takeFirst_13 rfl) rfl (by decide) rfl ?_
  exact n_ret (r := []) dX7_init_57 trivial ⟨rfl, rfl, rfl⟩ rfl
theorem dX0_init_0 : decode cX0_init 0 = .ok (.aload_n 0, 1) := by decide +kernel
theorem dX0_init_1 : decode cX0_init 1 = .ok (.invokespecial 3, 3) := by decide +kernel
theorem dX0_init_4 : decode cX0_init 4 = .ok (.aload_n 0, 1) := by decide +kernel
theorem dX0_init_5 : decode cX0_init 5 = .ok (.ldc 11, 2) := by decide +kernel
theorem dX0_init_7 : decode cX0_init 7 = .ok (.invokevirtual 13, 3) := by decide +kernel
theorem dX0_init_10 : decode cX0_init 10 = .ok (.newarray .int, 2) := by decide +kernel
theorem dX0_init_12 : decode cX0_init 12 = .ok (.putfield 19, 3) := by decide +kernel
theorem dX0_init_15 : decode cX0_init 15 = .ok (.aload_n 0, 1) := by decide +kernel
theorem dX0_init_16 : decode cX0_init 16 = .ok (.bipush 8, 2) := by decide +kernel
theorem dX0_init_18 : decode cX0_init 18 = .ok (.newarray .int, 2) := by decide +kernel
theorem dX0_init_20 : decode cX0_init 20 = .ok (.putfield 25, 3) := by decide +kernel
theorem dX0_init_23 : decode cX0_init 23 = .ok (.return_, 1) := by decide +kernel
theorem ob_X0_3 : Cond.methodLink RX0 3 Lib.objectInit ∈ xTB := x_tb (tb1 189 (by decide +kernel)) rfl
theorem nl_X0_13 : Cond.methodLink RX0 13 nJ_len ∈ xTB := x_tb (tb1 191 (by decide +kernel)) rfl
def w_X0_89 (σ : xW) : xW := xu (xnz (xu (xnz σ 90) 89 0 90) 91) 89 1 91
theorem k_X0_89 {σ : xW} : xCN 2 2 15 mX0_init [vR 89] 90 σ (fun r n' σ' => r = [] ∧ n' = 92 ∧ σ' = w_X0_89 σ) := by
  refine xCN.of [vR 89] (by decide +kernel) (Nat.le_of_ble_eq_true rfl) rfl ?_
  refine n_aln dX0_init_0 rfl rfl (by decide) ?_
  refine n_obj (by decide) dX0_init_1 ob_X0_3 (by decide) rfl ?_
  refine n_aln dX0_init_4 rfl rfl (by decide) ?_
  refine n_ldcS 0 dX0_init_5 rfl rfl rfl ?_
  refine n_slen 0 dX0_init_7 nl_X0_13 rfl (by decide) rfl ?_
  refine m_newa (bc := 1) (bs := 8) (len := 7) (n1 := 91) dX0_init_10 rfl ac_1 rfl rfl rfl rfl (by decide) rfl rfl ?_
  refine m_put (x := 90) (t := 100) dX0_init_12 fl_X0_19 rfl rfl (fun _ => ⟨rfl, rfl⟩) (fun _ => ⟨rfl, rfl, _, _, _, rfl, x_tb (tb1 201 (by decide +kernel)) rfl⟩) rfl ?_
  refine n_aln dX0_init_15 rfl rfl (by decide) ?_
  refine n_bi dX0_init_16 (by decide) ?_
  refine m_newa (bc := 0) (bs := 0) (len := 8) (n1 := 92) dX0_init_18 rfl ac_1 rfl rfl rfl rfl (by decide) rfl rfl ?_
  refine m_put (x := 91) (t := 101) dX0_init_20 fl_X0_25 rfl rfl (fun _ => ⟨rfl, rfl⟩) (fun _ => ⟨rfl, rfl, _, _, _, rfl, x_tb (tb1 202 (by decide +kernel)) rfl⟩) rfl ?_
  exact n_ret (r := []) dX0_init_23 trivial ⟨rfl, rfl, rfl⟩ rfl
theorem dX4_init_0 : decode cX4_init 0 = .ok (.aload_n 0, 1) := by decide +kernel
theorem dX4_init_1 : decode cX4_init 1 = .ok (.invokespecial 3, 3) := by decide +kernel
theorem dX4_init_4 : decode cX4_init 4 = .ok (.aload_n 0, 1) := by decide +kernel
theorem dX4_init_5 : decode cX4_init 5 = .ok (.iconst 0, 1) := by decide +kernel
theorem dX4_init_6 : decode cX4_init 6 = .ok (.putfield 9, 3) := by decide +kernel
theorem dX4_init_9 : decode cX4_init 9 = .ok (.aload_n 0, 1) := by decide +kernel
theorem dX4_init_10 : decode cX4_init 10 = .ok (.bipush 8, 2) := by decide +kernel
theorem dX4_init_12 : decode cX4_init 12 = .ok (.newarray .int, 2) := by decide +kernel
theorem dX4_init_14 : decode cX4_init 14 = .ok (.putfield 15, 3) := by decide +kernel
theorem dX4_init_17 : decode cX4_init 17 = .ok (.aload_n 0, 1) := by decide +kernel
theorem dX4_init_18 : decode cX4_init 18 = .ok (.bipush 8, 2) := by decide +kernel
theorem dX4_init_20 : decode cX4_init 20 = .ok (.newarray .int, 2) := by decide +kernel
theorem dX4_init_22 : decode cX4_init 22 = .ok (.putfield 19, 3) := by decide +kernel
theorem dX4_init_25 : decode cX4_init 25 = .ok (.aload_n 0, 1) := by decide +kernel
theorem dX4_init_26 : decode cX4_init 26 = .ok (.bipush 8, 2) := by decide +kernel
theorem dX4_init_28 : decode cX4_init 28 = .ok (.newarray .int, 2) := by decide +kernel
theorem dX4_init_30 : decode cX4_init 30 = .ok (.putfield 22, 3) := by decide +kernel
theorem dX4_init_33 : decode cX4_init 33 = .ok (.aload_n 0, 1) := by decide +kernel
theorem dX4_init_34 : decode cX4_init 34 = .ok (.bipush 8, 2) := by decide +kernel
theorem dX4_init_36 : decode cX4_init 36 = .ok (.newarray .int, 2) := by decide +kernel
theorem dX4_init_38 : decode cX4_init 38 = .ok (.putfield 25, 3) := by decide +kernel
theorem dX4_init_41 : decode cX4_init 41 = .ok (.aload_n 0, 1) := by decide +kernel
theorem dX4_init_42 : decode cX4_init 42 = .ok (.bipush 8, 2) := by decide +kernel
theorem dX4_init_44 : decode cX4_init 44 = .ok (.newarray .int, 2) := by decide +kernel
theorem dX4_init_46 : decode cX4_init 46 = .ok (.putfield 28, 3) := by decide +kernel
theorem dX4_init_49 : decode cX4_init 49 = .ok (.aload_n 0, 1) := by decide +kernel
theorem dX4_init_50 : decode cX4_init 50 = .ok (.bipush 8, 2) := by decide +kernel
theorem dX4_init_52 : decode cX4_init 52 = .ok (.newarray .int, 2) := by decide +kernel
theorem dX4_init_54 : decode cX4_init 54 = .ok (.putfield 31, 3) := by decide +kernel
theorem dX4_init_57 : decode cX4_init 57 = .ok (.aload_n 0, 1) := by decide +kernel
theorem dX4_init_58 : decode cX4_init 58 = .ok (.bipush 8, 2) := by decide +kernel
theorem dX4_init_60 : decode cX4_init 60 = .ok (.newarray .int, 2) := by decide +kernel
theorem dX4_init_62 : decode cX4_init 62 = .ok (.putfield 34, 3) := by decide +kernel
theorem dX4_init_65 : decode cX4_init 65 = .ok (.return_, 1) := by decide +kernel
theorem ob_X4_3 : Cond.methodLink RX4 3 Lib.objectInit ∈ xTB := x_tb (tb1 216 (by decide +kernel)) rfl
def w_X4_92 (σ : xW) : xW := xu (xnz (xu (xnz (xu (xnz (xu (xnz (xu (xnz (xu (xnz (xu (xnz (xu σ 92 0 0) 93) 92 1 93) 94) 92 2 94) 95) 92 3 95) 96) 92 4 96) 97) 92 5 97) 98) 92 6 98) 99) 92 7 99
theorem k_X4_92 {σ : xW} : xCN 1 7 56 mX4_init [vR 92] 93 σ (fun r n' σ' => r = [] ∧ n' = 100 ∧ σ' = w_X4_92 σ) := by
  refine xCN.of [vR 92] (by decide +kernel) (Nat.le_of_ble_eq_true rfl) rfl ?_
  refine n_aln dX4_init_0 rfl rfl (by decide) ?_
  refine n_obj (by decide) dX4_init_1 ob_X4_3 (by decide) rfl ?_
  refine n_aln dX4_init_4 rfl rfl (by decide) ?_
  refine n_ic dX4_init_5 ?_
  refine m_put (x := 0) (t := 0) dX4_init_6 fl_X4_9 rfl rfl (fun _ => ⟨rfl, rfl⟩) (fun h => nomatch h) rfl ?_
  refine n_aln dX4_init_9 rfl rfl (by decide) ?_
  refine n_bi dX4_init_10 (by decide) ?_
  refine m_newa (bc := 6) (bs := 48) (len := 8) (n1 := 94) dX4_init_12 rfl ac_1 rfl rfl rfl rfl (by decide) rfl rfl ?_
  refine m_put (x := 93) (t := 103) dX4_init_14 fl_X4_15 rfl rfl (fun _ => ⟨rfl, rfl⟩) (fun _ => ⟨rfl, rfl, _, _, _, rfl, x_tb (tb1 219 (by decide +kernel)) rfl⟩) rfl ?_
  refine n_aln dX4_init_17 rfl rfl (by decide) ?_
  refine n_bi dX4_init_18 (by decide) ?_
  refine m_newa (bc := 5) (bs := 40) (len := 8) (n1 := 95) dX4_init_20 rfl ac_1 rfl rfl rfl rfl (by decide) rfl rfl ?_
  refine m_put (x := 94) (t := 104) dX4_init_22 fl_X4_19 rfl rfl (fun _ => ⟨rfl, rfl⟩) (fun _ => ⟨rfl, rfl, _, _, _, rfl, x_tb (tb1 221 (by decide +kernel)) rfl⟩) rfl ?_
  refine n_aln dX4_init_25 rfl rfl (by decide) ?_
  refine n_bi dX4_init_26 (by decide) ?_
  refine m_newa (bc := 4) (bs := 32) (len := 8) (n1 := 96) dX4_init_28 rfl ac_1 rfl rfl rfl rfl (by decide) rfl rfl ?_
  refine m_put (x := 95) (t := 105) dX4_init_30 fl_X4_22 rfl rfl (fun _ => ⟨rfl, rfl⟩) (fun _ => ⟨rfl, rfl, _, _, _, rfl, x_tb (tb1 223 (by decide +kernel)) rfl⟩) rfl ?_
  refine n_aln dX4_init_33 rfl rfl (by decide) ?_
  refine n_bi dX4_init_34 (by decide) ?_
  refine m_newa (bc := 3) (bs := 24) (len := 8) (n1 := 97) dX4_init_36 rfl ac_1 rfl rfl rfl rfl (by decide) rfl rfl ?_
  refine m_put (x := 96) (t := 106) dX4_init_38 fl_X4_25 rfl rfl (fun _ => ⟨rfl, rfl⟩) (fun _ => ⟨rfl, rfl, _, _, _, rfl, x_tb (tb1 225 (by decide +kernel)) rfl⟩) rfl ?_
  refine n_aln dX4_init_41 rfl rfl (by decide) ?_
  refine n_bi dX4_init_42 (by decide) ?_
  refine m_newa (bc := 2) (bs := 16) (len := 8) (n1 := 98) dX4_init_44 rfl ac_1 rfl rfl rfl rfl (by decide) rfl rfl ?_
  refine m_put (x := 97) (t := 107) dX4_init_46 fl_X4_28 rfl rfl (fun _ => ⟨rfl, rfl⟩) (fun _ => ⟨rfl, rfl, _, _, _, rfl, x_tb (tb1 226 (by decide +kernel)) rfl⟩) rfl ?_
  refine n_aln dX4_init_49 rfl rfl (by decide) ?_
  refine n_bi dX4_init_50 (by decide) ?_
  refine m_newa (bc := 1) (bs := 8) (len := 8) (n1 := 99) dX4_init_52 rfl ac_1 rfl rfl rfl rfl (by decide) rfl rfl ?_
  refine m_put (x := 98) (t := 108) dX4_init_54 fl_X4_31 rfl rfl (fun _ => ⟨rfl, rfl⟩) (fun _ => ⟨rfl, rfl, _, _, _, rfl, x_tb (tb1 228 (by decide +kernel)) rfl⟩) rfl ?_
  refine n_aln dX4_init_57 rfl rfl (by decide) ?_
  refine n_bi dX4_init_58 (by decide) ?_
  refine m_newa (bc := 0) (bs := 0) (len := 8) (n1 := 100) dX4_init_60 rfl ac_1 rfl rfl rfl rfl (by decide) rfl rfl ?_
  refine m_put (x := 99) (t := 109) dX4_init_62 fl_X4_34 rfl rfl (fun _ => ⟨rfl, rfl⟩) (fun _ => ⟨rfl, rfl, _, _, _, rfl, x_tb (tb1 230 (by decide +kernel)) rfl⟩) rfl ?_
  exact n_ret (r := []) dX4_init_65 trivial ⟨rfl, rfl, rfl⟩ rfl
theorem dX5_init_0 : decode cX5_init 0 = .ok (.aload_n 0, 1) := by decide +kernel
theorem dX5_init_1 : decode cX5_init 1 = .ok (.invokespecial 3, 3) := by decide +kernel
theorem dX5_init_4 : decode cX5_init 4 = .ok (.aload_n 0, 1) := by decide +kernel
theorem dX5_init_5 : decode cX5_init 5 = .ok (.bipush 10, 2) := by decide +kernel
theorem dX5_init_7 : decode cX5_init 7 = .ok (.newarray .int, 2) := by decide +kernel
theorem dX5_init_9 : decode cX5_init 9 = .ok (.putfield 11, 3) := by decide +kernel
theorem dX5_init_12 : decode cX5_init 12 = .ok (.aload_n 0, 1) := by decide +kernel
theorem dX5_init_13 : decode cX5_init 13 = .ok (.bipush 10, 2) := by decide +kernel
theorem dX5_init_15 : decode cX5_init 15 = .ok (.newarray .int, 2) := by decide +kernel
theorem dX5_init_17 : decode cX5_init 17 = .ok (.putfield 15, 3) := by decide +kernel
theorem dX5_init_20 : decode cX5_init 20 = .ok (.aload_n 0, 1) := by decide +kernel
theorem dX5_init_21 : decode cX5_init 21 = .ok (.iconst 0, 1) := by decide +kernel
theorem dX5_init_22 : decode cX5_init 22 = .ok (.putfield 18, 3) := by decide +kernel
theorem dX5_init_25 : decode cX5_init 25 = .ok (.aload_n 0, 1) := by decide +kernel
theorem dX5_init_26 : decode cX5_init 26 = .ok (.bipush 100, 2) := by decide +kernel
theorem dX5_init_28 : decode cX5_init 28 = .ok (.newarray .int, 2) := by decide +kernel
theorem dX5_init_30 : decode cX5_init 30 = .ok (.putfield 22, 3) := by decide +kernel
theorem dX5_init_33 : decode cX5_init 33 = .ok (.aload_n 0, 1) := by decide +kernel
theorem dX5_init_34 : decode cX5_init 34 = .ok (.iconst 0, 1) := by decide +kernel
theorem dX5_init_35 : decode cX5_init 35 = .ok (.putfield 25, 3) := by decide +kernel
theorem dX5_init_38 : decode cX5_init 38 = .ok (.aload_n 0, 1) := by decide +kernel
theorem dX5_init_39 : decode cX5_init 39 = .ok (.bipush 120, 2) := by decide +kernel
theorem dX5_init_41 : decode cX5_init 41 = .ok (.newarray .int, 2) := by decide +kernel
theorem dX5_init_43 : decode cX5_init 43 = .ok (.putfield 28, 3) := by decide +kernel
theorem dX5_init_46 : decode cX5_init 46 = .ok (.return_, 1) := by decide +kernel
theorem ob_X5_3 : Cond.methodLink RX5 3 Lib.objectInit ∈ xTB := x_tb (tb2 13 (by decide +kernel)) rfl
def w_X5_100 (σ : xW) : xW := xu (xnz (xu (xu (xnz (xu (xu (xnz (xu (xnz σ 101) 100 0 101) 102) 100 1 102) 100 2 0) 103) 100 3 103) 100 4 0) 104) 100 5 104
theorem k_X5_100 {σ : xW} : xCN 1 4 240 mX5_init [vR 100] 101 σ (fun r n' σ' => r = [] ∧ n' = 105 ∧ σ' = w_X5_100 σ) := by
  refine xCN.of [vR 100] (by decide +kernel) (Nat.le_of_ble_eq_true rfl) rfl ?_
  refine n_aln dX5_init_0 rfl rfl (by decide) ?_
  refine n_obj (by decide) dX5_init_1 ob_X5_3 (by decide) rfl ?_
  refine n_aln dX5_init_4 rfl rfl (by decide) ?_
  refine n_bi dX5_init_5 (by decide) ?_
  refine m_newa (bc := 3) (bs := 230) (len := 10) (n1 := 102) dX5_init_7 rfl ac_1 rfl rfl rfl rfl (by decide) rfl rfl ?_
  refine m_put (x := 101) (t := 111) dX5_init_9 fl_X5_11 rfl rfl (fun _ => ⟨rfl, rfl⟩) (fun _ => ⟨rfl, rfl, _, _, _, rfl, x_tb (tb2 14 (by decide +kernel)) rfl⟩) rfl ?_
  refine n_aln dX5_init_12 rfl rfl (by decide) ?_
  refine n_bi dX5_init_13 (by decide) ?_
  refine m_newa (bc := 2) (bs := 220) (len := 10) (n1 := 103) dX5_init_15 rfl ac_1 rfl rfl rfl rfl (by decide) rfl rfl ?_
  refine m_put (x := 102) (t := 112) dX5_init_17 fl_X5_15 rfl rfl (fun _ => ⟨rfl, rfl⟩) (fun _ => ⟨rfl, rfl, _, _, _, rfl, x_tb (tb2 16 (by decide +kernel)) rfl⟩) rfl ?_
  refine n_aln dX5_init_20 rfl rfl (by decide) ?_
  refine n_ic dX5_init_21 ?_
  refine m_put (x := 0) (t := 0) dX5_init_22 fl_X5_18 rfl rfl (fun _ => ⟨rfl, rfl⟩) (fun h => nomatch h) rfl ?_
  refine n_aln dX5_init_25 rfl rfl (by decide) ?_
  refine n_bi dX5_init_26 (by decide) ?_
  refine m_newa (bc := 1) (bs := 120) (len := 100) (n1 := 104) dX5_init_28 rfl ac_1 rfl rfl rfl rfl (by decide) rfl rfl ?_
  refine m_put (x := 103) (t := 113) dX5_init_30 fl_X5_22 rfl rfl (fun _ => ⟨rfl, rfl⟩) (fun _ => ⟨rfl, rfl, _, _, _, rfl, x_tb (tb2 20 (by decide +kernel)) rfl⟩) rfl ?_
  refine n_aln dX5_init_33 rfl rfl (by decide) ?_
  refine n_ic dX5_init_34 ?_
  refine m_put (x := 0) (t := 0) dX5_init_35 fl_X5_25 rfl rfl (fun _ => ⟨rfl, rfl⟩) (fun h => nomatch h) rfl ?_
  refine n_aln dX5_init_38 rfl rfl (by decide) ?_
  refine n_bi dX5_init_39 (by decide) ?_
  refine m_newa (bc := 0) (bs := 0) (len := 120) (n1 := 105) dX5_init_41 rfl ac_1 rfl rfl rfl rfl (by decide) rfl rfl ?_
  refine m_put (x := 104) (t := 114) dX5_init_43 fl_X5_28 rfl rfl (fun _ => ⟨rfl, rfl⟩) (fun _ => ⟨rfl, rfl, _, _, _, rfl, x_tb (tb2 24 (by decide +kernel)) rfl⟩) rfl ?_
  exact n_ret (r := []) dX5_init_46 trivial ⟨rfl, rfl, rfl⟩ rfl
theorem dX2_init_0 : decode cX2_init 0 = .ok (.aload_n 0, 1) := by decide +kernel
theorem dX2_init_1 : decode cX2_init 1 = .ok (.invokespecial 1, 3) := by decide +kernel
theorem dX2_init_4 : decode cX2_init 4 = .ok (.aload_n 0, 1) := by decide +kernel
theorem dX2_init_5 : decode cX2_init 5 = .ok (.bipush 21, 2) := by decide +kernel
theorem dX2_init_7 : decode cX2_init 7 = .ok (.newarray .int, 2) := by decide +kernel
theorem dX2_init_9 : decode cX2_init 9 = .ok (.putfield 9, 3) := by decide +kernel
theorem dX2_init_12 : decode cX2_init 12 = .ok (.aload_n 0, 1) := by decide +kernel
theorem dX2_init_13 : decode cX2_init 13 = .ok (.iconst 0, 1) := by decide +kernel
theorem dX2_init_14 : decode cX2_init 14 = .ok (.putfield 13, 3) := by decide +kernel
theorem dX2_init_17 : decode cX2_init 17 = .ok (.return_, 1) := by decide +kernel
theorem ob_X2_1 : Cond.methodLink RX2 1 Lib.objectInit ∈ xTB := x_tb (tb2 44 (by decide +kernel)) rfl
def w_X2_105 (σ : xW) : xW := xu (xu (xnz σ 106) 105 0 106) 105 1 0
theorem k_X2_105 {σ : xW} : xCN 1 1 21 mX2_init [vR 105] 106 σ (fun r n' σ' => r = [] ∧ n' = 107 ∧ σ' = w_X2_105 σ) := by
  refine xCN.of [vR 105] (by decide +kernel) (Nat.le_of_ble_eq_true rfl) rfl ?_
  refine n_aln dX2_init_0 rfl rfl (by decide) ?_
  refine n_obj (by decide) dX2_init_1 ob_X2_1 (by decide) rfl ?_
  refine n_aln dX2_init_4 rfl rfl (by decide) ?_
  refine n_bi dX2_init_5 (by decide) ?_
  refine m_newa (bc := 0) (bs := 0) (len := 21) (n1 := 107) dX2_init_7 rfl ac_1 rfl rfl rfl rfl (by decide) rfl rfl ?_
  refine m_put (x := 106) (t := 116) dX2_init_9 fl_X2_9 rfl rfl (fun _ => ⟨rfl, rfl⟩) (fun _ => ⟨rfl, rfl, _, _, _, rfl, x_tb (tb2 45 (by decide +kernel)) rfl⟩) rfl ?_
  refine n_aln dX2_init_12 rfl rfl (by decide) ?_
  refine n_ic dX2_init_13 ?_
  refine m_put (x := 0) (t := 3) dX2_init_14 fl_X2_13 rfl rfl (fun _ => ⟨rfl, rfl⟩) (fun h => nomatch h) rfl ?_
  exact n_ret (r := []) dX2_init_17 trivial ⟨rfl, rfl, rfl⟩ rfl
