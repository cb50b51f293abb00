theorem dX3_init_0 : decode cX3_init 0 = .ok (.aload_n 0, 1) := by decide +kernel
theorem dX3_init_1 : decode cX3_init 1 = .ok (.invokespecial 3, 3) := by decide +kernel
theorem dX3_init_4 : decode cX3_init 4 = .ok (.aload_n 0, 1) := by decide +kernel
theorem dX3_init_5 : decode cX3_init 5 = .ok (.bipush 16, 2) := by decide +kernel
theorem dX3_init_7 : decode cX3_init 7 = .ok (.anewarray 9, 3) := by decide +kernel
theorem dX3_init_10 : decode cX3_init 10 = .ok (.putfield 11, 3) := by decide +kernel
theorem dX3_init_13 : decode cX3_init 13 = .ok (.aload_n 0, 1) := by decide +kernel
theorem dX3_init_14 : decode cX3_init 14 = .ok (.iconst 0, 1) := by decide +kernel
theorem dX3_init_15 : decode cX3_init 15 = .ok (.putfield 15, 3) := by decide +kernel
theorem dX3_init_18 : decode cX3_init 18 = .ok (.aload_n 0, 1) := by decide +kernel
theorem dX3_init_19 : decode cX3_init 19 = .ok (.iconst 0, 1) := by decide +kernel
theorem dX3_init_20 : decode cX3_init 20 = .ok (.putfield 19, 3) := by decide +kernel
theorem dX3_init_23 : decode cX3_init 23 = .ok (.iconst 0, 1) := by decide +kernel
theorem dX3_init_24 : decode cX3_init 24 = .ok (.istore_n 1, 1) := by decide +kernel
theorem dX3_init_25 : decode cX3_init 25 = .ok (.iload_n 1, 1) := by decide +kernel
theorem dX3_init_26 : decode cX3_init 26 = .ok (.bipush 16, 2) := by decide +kernel
theorem dX3_init_28 : decode cX3_init 28 = .ok (.if_icmp .ge 22, 3) := by decide +kernel
theorem dX3_init_31 : decode cX3_init 31 = .ok (.aload_n 0, 1) := by decide +kernel
theorem dX3_init_32 : decode cX3_init 32 = .ok (.getfield 11, 3) := by decide +kernel
theorem dX3_init_35 : decode cX3_init 35 = .ok (.iload_n 1, 1) := by decide +kernel
theorem dX3_init_36 : decode cX3_init 36 = .ok (.new 9, 3) := by decide +kernel
theorem dX3_init_39 : decode cX3_init 39 = .ok (.dup, 1) := by decide +kernel
theorem dX3_init_40 : decode cX3_init 40 = .ok (.invokespecial 22, 3) := by decide +kernel
theorem dX3_init_43 : decode cX3_init 43 = .ok (.aastore, 1) := by decide +kernel
theorem dX3_init_44 : decode cX3_init 44 = .ok (.iinc 1 1, 3) := by decide +kernel
theorem dX3_init_47 : decode cX3_init 47 = .ok (.goto (-22), 3) := by decide +kernel
theorem dX3_init_50 : decode cX3_init 50 = .ok (.return_, 1) := by decide +kernel
theorem ob_X3_3 : Cond.methodLink RX3 3 Lib.objectInit ∈ xTB := x_tb (tb1 169 (by decide +kernel)) rfl
theorem cl_X3_9 : Cond.classLink RX3 9 RX9 ∈ xTB := x_tb (tb1 170 (by decide +kernel)) rfl
theorem in_X9 : Cond.instantiable RX9 9 ∈ xTB := x_tb (tb1 122 (by decide +kernel)) rfl
theorem iz_X9 : Cond.initialized RX9 ∈ xTB := x_tb (tb1 7 (by decide +kernel)) rfl
theorem mn_X3_22 : xMN RX3 22 mX9_init := Or.inr ⟨"NoonGun", x_nw (tb1 172 (by decide +kernel)) rfl⟩
def it_X3_0 (σ : xW) : xW := xu (w_X9_23 (xnO σ 23)) 22 0 23
theorem ik_X3_0 {σ : xW} : it_X3_0 σ 21 0 = σ 21 0 := rfl
theorem il_X3_0 {σ : xW} {K : List xV → Nat → xW → Prop} (h : σ 21 0 = 22) (kk : xGN 2 60 495 mX3_init 25 [vR 21, vI 1] [] 27 (it_X3_0 σ) K) : xGN 2 64 528 mX3_init 25 [vR 21, vI 0] [] 23 σ K := by
  refine n_iln dX3_init_25 rfl rfl ?_
  refine n_bi dX3_init_26 (by decide) ?_
  refine n_cge dX3_init_28 (tgt := 50) rfl ⟨by decide, by decide⟩ ⟨by decide, by decide⟩ (fun h => absurd h (by decide)) (fun _ => ?_)
  refine n_aln dX3_init_31 rfl rfl (by decide) ?_
  refine n_get0 (t := 32) (v := vR 22) dX3_init_32 fl_X3_11 rfl ((congrArg (xfv 23 32) h).trans rfl) ?_
  refine n_iln dX3_init_35 rfl rfl ?_
  refine n_new (bc := 63) (bs := 519) (ci := 9) (N := 9) (T := TX9) (ty := tyX9) dX3_init_36 cl_X3_9 in_X9 iz_X9 rfl wX9 tyX9_ok rfl rfl rfl (fun j hj => by
    have hj2 : j = 0 ∨ j = 1 ∨ j = 2 ∨ j = 3 ∨ j = 4 ∨ j = 5 ∨ j = 6 ∨ j = 7 ∨ j = 8 := by omega
    rcases hj2 with rfl | rfl | rfl | rfl | rfl | rfl | rfl | rfl | rfl <;> rfl) ?_
  refine n_dup dX3_init_39 rfl ?_
  refine n_callI (bc := 60) (bs := 495) (b1 := 3) (b2 := 24) (n1 := 27) dX3_init_40 mn_X3_22 my_X9_init mi_X9_init rfl rfl (by decide) (by decide) k_X9_23 rfl (by decide) rfl ?_
  refine n_aast 16 rfl dX3_init_43 rfl ⟨by decide, by decide⟩ (by decide) rfl rfl ?_
  refine n_inc_1 dX3_init_44 (by decide) rfl ?_
  refine n_goto dX3_init_47 (tgt := 25) rfl ?_
  exact kk
def it_X3_1 (σ : xW) : xW := xu (w_X9_27 (xnO σ 27)) 22 1 27
theorem ik_X3_1 {σ : xW} : it_X3_1 σ 21 0 = σ 21 0 := rfl
theorem il_X3_1 {σ : xW} {K : List xV → Nat → xW → Prop} (h : σ 21 0 = 22) (kk : xGN 2 56 462 mX3_init 25 [vR 21, vI 2] [] 31 (it_X3_1 σ) K) : xGN 2 60 495 mX3_init 25 [vR 21, vI 1] [] 27 σ K := by
  refine n_iln dX3_init_25 rfl rfl ?_
  refine n_bi dX3_init_26 (by decide) ?_
  refine n_cge dX3_init_28 (tgt := 50) rfl ⟨by decide, by decide⟩ ⟨by decide, by decide⟩ (fun h => absurd h (by decide)) (fun _ => ?_)
  refine n_aln dX3_init_31 rfl rfl (by decide) ?_
  refine n_get0 (t := 32) (v := vR 22) dX3_init_32 fl_X3_11 rfl ((congrArg (xfv 27 32) h).trans rfl) ?_
  refine n_iln dX3_init_35 rfl rfl ?_
  refine n_new (bc := 59) (bs := 486) (ci := 9) (N := 9) (T := TX9) (ty := tyX9) dX3_init_36 cl_X3_9 in_X9 iz_X9 rfl wX9 tyX9_ok rfl rfl rfl (fun j hj => by
    have hj2 : j = 0 ∨ j = 1 ∨ j = 2 ∨ j = 3 ∨ j = 4 ∨ j = 5 ∨ j = 6 ∨ j = 7 ∨ j = 8 := by omega
    rcases hj2 with rfl | rfl | rfl | rfl | rfl | rfl | rfl | rfl | rfl <;> rfl) ?_
  refine n_dup dX3_init_39 rfl ?_
  refine n_callI (bc := 56) (bs := 462) (b1 := 3) (b2 := 24) (n1 := 31) dX3_init_40 mn_X3_22 my_X9_init mi_X9_init rfl rfl (by decide) (by decide) k_X9_27 rfl (by decide) rfl ?_
  refine n_aast 16 rfl dX3_init_43 rfl ⟨by decide, by decide⟩ (by decide) rfl rfl ?_
  refine n_inc_1 dX3_init_44 (by decide) rfl ?_
  refine n_goto dX3_init_47 (tgt := 25) rfl ?_
  exact kk
def it_X3_2 (σ : xW) : xW := xu (w_X9_31 (xnO σ 31)) 22 2 31
theorem ik_X3_2 {σ : xW} : it_X3_2 σ 21 0 = σ 21 0 := rfl
theorem il_X3_2 {σ : xW} {K : List xV → Nat → xW → Prop} (h : σ 21 0 = 22) (kk : xGN 2 52 429 mX3_init 25 [vR 21, vI 3] [] 35 (it_X3_2 σ) K) : xGN 2 56 462 mX3_init 25 [vR 21, vI 2] [] 31 σ K := by
  refine n_iln dX3_init_25 rfl rfl ?_
  refine n_bi dX3_init_26 (by decide) ?_
  refine n_cge dX3_init_28 (tgt := 50) rfl ⟨by decide, by decide⟩ ⟨by decide, by decide⟩ (fun h => absurd h (by decide)) (fun _ => ?_)
  refine n_aln dX3_init_31 rfl rfl (by decide) ?_
  refine n_get0 (t := 32) (v := vR 22) dX3_init_32 fl_X3_11 rfl ((congrArg (xfv 31 32) h).trans rfl) ?_
  refine n_iln dX3_init_35 rfl rfl ?_
  refine n_new (bc := 55) (bs := 453) (ci := 9) (N := 9) (T := TX9) (ty := tyX9) dX3_init_36 cl_X3_9 in_X9 iz_X9 rfl wX9 tyX9_ok rfl rfl rfl (fun j hj => by
    have hj2 : j = 0 ∨ j = 1 ∨ j = 2 ∨ j = 3 ∨ j = 4 ∨ j = 5 ∨ j = 6 ∨ j = 7 ∨ j = 8 := by omega
    rcases hj2 with rfl | rfl | rfl | rfl | rfl | rfl | rfl | rfl | rfl <;> rfl) ?_
  refine n_dup dX3_init_39 rfl ?_
  refine n_callI (bc := 52) (bs := 429) (b1 := 3) (b2 := 24) (n1 := 35) dX3_init_40 mn_X3_22 my_X9_init mi_X9_init rfl rfl (by decide) (by decide) k_X9_31 rfl (by decide) rfl ?_
  refine n_aast 16 rfl dX3_init_43 rfl ⟨by decide, by decide⟩ (by decide) rfl rfl ?_
  refine n_inc_1 dX3_init_44 (by decide) rfl ?_
  refine n_goto dX3_init_47 (tgt := 25) rfl ?_
  exact kk
def it_X3_3 (σ : xW) : xW := xu (w_X9_35 (xnO σ 35)) 22 3 35
theorem ik_X3_3 {σ : xW} : it_X3_3 σ 21 0 = σ 21 0 := rfl
theorem il_X3_3 {σ : xW} {K : List xV → Nat → xW → Prop} (h : σ 21 0 = 22) (kk : xGN 2 48 396 mX3_init 25 [vR 21, vI 4] [] 39 (it_X3_3 σ) K) : xGN 2 52 429 mX3_init 25 [vR 21, vI 3] [] 35 σ K := by
  refine n_iln dX3_init_25 rfl rfl ?_
  refine n_bi dX3_init_26 (by decide) ?_
  refine n_cge dX3_init_28 (tgt := 50) rfl ⟨by decide, by decide⟩ ⟨by decide, by decide⟩ (fun h => absurd h (by decide)) (fun _ => ?_)
  refine n_aln dX3_init_31 rfl rfl (by decide) ?_
  refine n_get0 (t := 32) (v := vR 22) dX3_init_32 fl_X3_11 rfl ((congrArg (xfv 35 32) h).trans rfl) ?_
  refine n_iln dX3_init_35 rfl rfl ?_
  refine n_new (bc := 51) (bs := 420) (ci := 9) (N := 9) (T := TX9) (ty := tyX9) dX3_init_36 cl_X3_9 in_X9 iz_X9 rfl wX9 tyX9_ok rfl rfl rfl (fun j hj => by
    have hj2 : j = 0 ∨ j = 1 ∨ j = 2 ∨ j = 3 ∨ j = 4 ∨ j = 5 ∨ j = 6 ∨ j = 7 ∨ j = 8 := by omega
    rcases hj2 with rfl | rfl | rfl | rfl | rfl | rfl | rfl | rfl | rfl <;> rfl) ?_
  refine n_dup dX3_init_39 rfl ?_
  refine n_callI (bc := 48) (bs := 396) (b1 := 3) (b2 := 24) (n1 := 39) dX3_init_40 mn_X3_22 my_X9_init mi_X9_init rfl rfl (by decide) (by decide) k_X9_35 rfl (by decide) rfl ?_
  refine n_aast 16 rfl dX3_init_43 rfl ⟨by decide, by decide⟩ (by decide) rfl rfl ?_
  refine n_inc_1 dX3_init_44 (by decide) rfl ?_
  refine n_goto dX3_init_47 (tgt := 25) rfl ?_
  exact kk
def it_X3_4 (σ : xW) : xW := xu (w_X9_39 (xnO σ 39)) 22 4 39
theorem ik_X3_4 {σ : xW} : it_X3_4 σ 21 0 = σ 21 0 := rfl
theorem il_X3_4 {σ : xW} {K : List xV → Nat → xW → Prop} (h : σ 21 0 = 22) (kk : xGN 2 44 363 mX3_init 25 [vR 21, vI 5] [] 43 (it_X3_4 σ) K) : xGN 2 48 396 mX3_init 25 [vR 21, vI 4] [] 39 σ K := by
  refine n_iln dX3_init_25 rfl rfl ?_
  refine n_bi dX3_init_26 (by decide) ?_
  refine n_cge dX3_init_28 (tgt := 50) rfl ⟨by decide, by decide⟩ ⟨by decide, by decide⟩ (fun h => absurd h (by decide)) (fun _ => ?_)
  refine n_aln dX3_init_31 rfl rfl (by decide) ?_
  refine n_get0 (t := 32) (v := vR 22) dX3_init_32 fl_X3_11 rfl ((congrArg (xfv 39 32) h).trans rfl) ?_
  refine n_iln dX3_init_35 rfl rfl ?_
  refine n_new (bc := 47) (bs := 387) (ci := 9) (N := 9) (T := TX9) (ty := tyX9) dX3_init_36 cl_X3_9 in_X9 iz_X9 rfl wX9 tyX9_ok rfl rfl rfl (fun j hj => by
    have hj2 : j = 0 ∨ j = 1 ∨ j = 2 ∨ j = 3 ∨ j = 4 ∨ j = 5 ∨ j = 6 ∨ j = 7 ∨ j = 8 := by omega
    rcases hj2 with rfl | rfl | rfl | rfl | rfl | rfl | rfl | rfl | rfl <;> rfl) ?_
  refine n_dup dX3_init_39 rfl ?_
  refine n_callI (bc := 44) (bs := 363) (b1 := 3) (b2 := 24) (n1 := 43) dX3_init_40 mn_X3_22 my_X9_init mi_X9_init rfl rfl (by decide) (by decide) k_X9_39 rfl (by decide) rfl ?_
  refine n_aast 16 rfl dX3_init_43 rfl ⟨by decide, by decide⟩ (by decide) rfl rfl ?_
  refine n_inc_1 dX3_init_44 (by decide) rfl ?_
  refine n_goto dX3_init_47 (tgt := 25) rfl ?_
  exact kk
def it_X3_5 (σ : xW) : xW := xu (w_X9_43 (xnO σ 43)) 22 5 43
theorem ik_X3_5 {σ : xW} : it_X3_5 σ 21 0 = σ 21 0 := rfl
theorem il_X3_5 {σ : xW} {K : List xV → Nat → xW → Prop} (h : σ 21 0 = 22) (kk : xGN 2 40 330 mX3_init 25 [vR 21, vI 6] [] 47 (it_X3_5 σ) K) : xGN 2 44 363 mX3_init 25 [vR 21, vI 5] [] 43 σ K := by
  refine n_iln dX3_init_25 rfl rfl ?_
  refine n_bi dX3_init_26 (by decide) ?_
  refine n_cge dX3_init_28 (tgt := 50) rfl ⟨by decide, by decide⟩ ⟨by decide, by decide⟩ (fun h => absurd h (by decide)) (fun _ => ?_)
  refine n_aln dX3_init_31 rfl rfl (by decide) ?_
  refine n_get0 (t := 32) (v := vR 22) dX3_init_32 fl_X3_11 rfl ((congrArg (xfv 43 32) h).trans rfl) ?_
  refine n_iln dX3_init_35 rfl rfl ?_
  refine n_new (bc := 43) (bs := 354) (ci := 9) (N := 9) (T := TX9) (ty := tyX9) dX3_init_36 cl_X3_9 in_X9 iz_X9 rfl wX9 tyX9_ok rfl rfl rfl (fun j hj => by
    have hj2 : j = 0 ∨ j = 1 ∨ j = 2 ∨ j = 3 ∨ j = 4 ∨ j = 5 ∨ j = 6 ∨ j = 7 ∨ j = 8 := by omega
    rcases hj2 with rfl | rfl | rfl | rfl | rfl | rfl | rfl | rfl | rfl <;> rfl) ?_
  refine n_dup dX3_init_39 rfl ?_
  refine n_callI (bc := 40) (bs := 330) (b1 := 3) (b2 := 24) (n1 := 47) dX3_init_40 mn_X3_22 my_X9_init mi_X9_init rfl rfl (by decide) (by decide) k_X9_43 rfl (by decide) rfl ?_
  refine n_aast 16 rfl dX3_init_43 rfl ⟨by decide, by decide⟩ (by decide) rfl rfl ?_
  refine n_inc_1 dX3_init_44 (by decide) rfl ?_
  refine n_goto dX3_init_47 (tgt := 25) rfl ?_
  exact kk
def it_X3_6 (σ : xW) : xW := xu (w_X9_47 (xnO σ 47)) 22 6 47
theorem ik_X3_6 {σ : xW} : it_X3_6 σ 21 0 = σ 21 0 := rfl
theorem il_X3_6 {σ : xW} {K : List xV → Nat → xW → Prop} (h : σ 21 0 = 22) (kk : xGN 2 36 297 mX3_init 25 [vR 21, vI 7] [] 51 (it_X3_6 σ) K) : xGN 2 40 330 mX3_init 25 [vR 21, vI 6] [] 47 σ K := by
  refine n_iln dX3_init_25 rfl rfl ?_
  refine n_bi dX3_init_26 (by decide) ?_
  refine n_cge dX3_init_28 (tgt := 50) rfl ⟨by decide, by decide⟩ ⟨by decide, by decide⟩ (fun h => absurd h (by decide)) (fun _ => ?_)
  refine n_aln dX3_init_31 rfl rfl (by decide) ?_
  refine n_get0 (t := 32) (v := vR 22) dX3_init_32 fl_X3_11 rfl ((congrArg (xfv 47 32) h).trans rfl) ?_
  refine n_iln dX3_init_35 rfl rfl ?_
  refine n_new (bc := 39) (bs := 321) (ci := 9) (N := 9) (T := TX9) (ty := tyX9) dX3_init_36 cl_X3_9 in_X9 iz_X9 rfl wX9 tyX9_ok rfl rfl rfl (fun j hj => by
    have hj2 : j = 0 ∨ j = 1 ∨ j = 2 ∨ j = 3 ∨ j = 4 ∨ j = 5 ∨ j = 6 ∨ j = 7 ∨ j = 8 := by omega
    rcases hj2 with rfl | rfl | rfl | rfl | rfl | rfl | rfl | rfl | rfl <;> rfl) ?_
  refine n_dup dX3_init_39 rfl ?_
  refine n_callI (bc := 36) (bs := 297) (b1 := 3) (b2 := 24) (n1 := 51) dX3_init_40 mn_X3_22 my_X9_init mi_X9_init rfl rfl (by decide) (by decide) k_X9_47 rfl (by decide) rfl ?_
  refine n_aast 16 rfl dX3_init_43 rfl ⟨by decide, by decide⟩ (by decide) rfl rfl ?_
  refine n_inc_1 dX3_init_44 (by decide) rfl ?_
  refine n_goto dX3_init_47 (tgt := 25) rfl ?_
  exact kk
def it_X3_7 (σ : xW) : xW := xu (w_X9_51 (xnO σ 51)) 22 7 51
theorem ik_X3_7 {σ : xW} : it_X3_7 σ 21 0 = σ 21 0 := rfl
theorem il_X3_7 {σ : xW} {K : List xV → Nat → xW → Prop} (h : σ 21 0 = 22) (kk : xGN 2 32 264 mX3_init 25 [vR 21, vI 8] [] 55 (it_X3_7 σ) K) : xGN 2 36 297 mX3_init 25 [vR 21, vI 7] [] 51 σ K := by
  refine n_iln dX3_init_25 rfl rfl ?_
  refine n_bi dX3_init_26 (by decide) ?_
  refine n_cge dX3_init_28 (tgt := 50) rfl ⟨by decide, by decide⟩ ⟨by decide, by decide⟩ (fun h => absurd h (by decide)) (fun _ => ?_)
  refine n_aln dX3_init_31 rfl rfl (by decide) ?_
  refine n_get0 (t := 32) (v := vR 22) dX3_init_32 fl_X3_11 rfl ((congrArg (xfv 51 32) h).trans rfl) ?_
  refine n_iln dX3_init_35 rfl rfl ?_
  refine n_new (bc := 35) (bs := 288) (ci := 9) (N := 9) (T := TX9) (ty := tyX9) dX3_init_36 cl_X3_9 in_X9 iz_X9 rfl wX9 tyX9_ok rfl rfl rfl (fun j hj => by
    have hj2 : j = 0 ∨ j = 1 ∨ j = 2 ∨ j = 3 ∨ j = 4 ∨ j = 5 ∨ j = 6 ∨ j = 7 ∨ j = 8 := by omega
    rcases hj2 with rfl | rfl | rfl | rfl | rfl | rfl | rfl | rfl | rfl <;> rfl) ?_
  refine n_dup dX3_init_39 rfl ?_
  refine n_callI (bc := 32) (bs := 264) (b1 := 3) (b2 := 24) (n1 := 55) dX3_init_40 mn_X3_22 my_X9_init mi_X9_init rfl rfl (by decide) (by decide) k_X9_51 rfl (by decide) rfl ?_
  refine n_aast 16 rfl dX3_init_43 rfl ⟨by decide, by decide⟩ (by decide) rfl rfl ?_
  refine n_inc_1 dX3_init_44 (by decide) rfl ?_
  refine n_goto dX3_init_47 (tgt := 25) rfl ?_
  exact kk
def it_X3_8 (σ : xW) : xW := xu (w_X9_55 (xnO σ 55)) 22 8 55
theorem ik_X3_8 {σ : xW} : it_X3_8 σ 21 0 = σ 21 0 := rfl
theorem il_X3_8 {σ : xW} {K : List xV → Nat → xW → Prop} (h : σ 21 0 = 22) (kk : xGN 2 28 231 mX3_init 25 [vR 21, vI 9] [] 59 (it_X3_8 σ) K) : xGN 2 32 264 mX3_init 25 [vR 21, vI 8] [] 55 σ K := by
  refine n_iln dX3_init_25 rfl rfl ?_
  refine n_bi dX3_init_26 (by decide) ?_
  refine n_cge dX3_init_28 (tgt := 50) rfl ⟨by decide, by decide⟩ ⟨by decide, by decide⟩ (fun h => absurd h (by decide)) (fun _ => ?_)
  refine n_aln dX3_init_31 rfl rfl (by decide) ?_
  refine n_get0 (t := 32) (v := vR 22) dX3_init_32 fl_X3_11 rfl ((congrArg (xfv 55 32) h).trans rfl) ?_
  refine n_iln dX3_init_35 rfl rfl ?_
  refine n_new (bc := 31) (bs := 255) (ci := 9) (N := 9) (T := TX9) (ty := tyX9) dX3_init_36 cl_X3_9 in_X9 iz_X9 rfl wX9 tyX9_ok rfl rfl rfl (fun j hj => by
    have hj2 : j = 0 ∨ j = 1 ∨ j = 2 ∨ j = 3 ∨ j = 4 ∨ j = 5 ∨ j = 6 ∨ j = 7 ∨ j = 8 := by omega
    rcases hj2 with rfl | rfl | rfl | rfl | rfl | rfl | rfl | rfl | rfl <;> rfl) ?_
  refine n_dup dX3_init_39 rfl ?_
  refine n_callI (bc := 28) (bs := 231) (b1 := 3) (b2 := 24) (n1 := 59) dX3_init_40 mn_X3_22 my_X9_init mi_X9_init rfl rfl (by decide) (by decide) k_X9_55 rfl (by decide) rfl ?_
  refine n_aast 16 rfl dX3_init_43 rfl ⟨by decide, by decide⟩ (by decide) rfl rfl ?_
  refine n_inc_1 dX3_init_44 (by decide) rfl ?_
  refine n_goto dX3_init_47 (tgt := 25) rfl ?_
  exact kk
def it_X3_9 (σ : xW) : xW := xu (w_X9_59 (xnO σ 59)) 22 9 59
theorem ik_X3_9 {σ : xW} : it_X3_9 σ 21 0 = σ 21 0 := rfl
theorem il_X3_9 {σ : xW} {K : List xV → Nat → xW → Prop} (h : σ 21 0 = 22) (kk : xGN 2 24 198 mX3_init 25 [vR 21, vI 10] [] 63 (it_X3_9 σ) K) : xGN 2 28 231 mX3_init 25 [vR 21, vI 9] [] 59 σ K := by
  refine n_iln dX3_init_25 rfl rfl ?_
  refine n_bi dX3_init_26 (by decide) ?_
  refine n_cge dX3_init_28 (tgt := 50) rfl ⟨by decide, by decide⟩ ⟨by decide, by decide⟩ (fun h => absurd h (by decide)) (fun _ => ?_)
  refine n_aln dX3_init_31 rfl rfl (by decide) ?_
  refine n_get0 (t := 32) (v := vR 22) dX3_init_32 fl_X3_11 rfl ((congrArg (xfv 59 32) h).trans rfl) ?_
  refine n_iln dX3_init_35 rfl rfl ?_
  refine n_new (bc := 27) (bs := 222) (ci := 9) (N := 9) (T := TX9) (ty := tyX9) dX3_init_36 cl_X3_9 in_X9 iz_X9 rfl wX9 tyX9_ok rfl rfl rfl (fun j hj => by
    have hj2 : j = 0 ∨ j = 1 ∨ j = 2 ∨ j = 3 ∨ j = 4 ∨ j = 5 ∨ j = 6 ∨ j = 7 ∨ j = 8 := by omega
    rcases hj2 with rfl | rfl | rfl | rfl | rfl | rfl | rfl | rfl | rfl <;> rfl) ?_
  refine n_dup dX3_init_39 rfl ?_
  refine n_callI (bc := 24) (bs := 198) (b1 := 3) (b2 := 24) (n1 := 63) dX3_init_40 mn_X3_22 my_X9_init mi_X9_init rfl rfl (by decide) (by decide) k_X9_59 rfl (by decide) rfl ?_
  refine n_aast 16 rfl dX3_init_43 rfl ⟨by decide, by decide⟩ (by decide) rfl rfl ?_
  refine n_inc_1 dX3_init_44 (by decide) rfl ?_
  refine n_goto dX3_init_47 (tgt := 25) rfl ?_
  exact kk
def it_X3_10 (σ : xW) : xW := xu (w_X9_63 (xnO σ 63)) 22 10 63
theorem ik_X3_10 {σ : xW} : it_X3_10 σ 21 0 = σ 21 0 := rfl
theorem il_X3_10 {σ : xW} {K : List xV → Nat → xW → Prop} (h : σ 21 0 = 22) (kk : xGN 2 20 165 mX3_init 25 [vR 21, vI 11] [] 67 (it_X3_10 σ) K) : xGN 2 24 198 mX3_init 25 [vR 21, vI 10] [] 63 σ K := by
  refine n_iln dX3_init_25 rfl rfl ?_
  refine n_bi dX3_init_26 (by decide) ?_
  refine n_cge dX3_init_28 (tgt := 50) rfl ⟨by decide, by decide⟩ ⟨by decide, by decide⟩ (fun h => absurd h (by decide)) (fun _ => ?_)
  refine n_aln dX3_init_31 rfl rfl (by decide) ?_
  refine n_get0 (t := 32) (v := vR 22) dX3_init_32 fl_X3_11 rfl ((congrArg (xfv 63 32) h).trans rfl) ?_
  refine n_iln dX3_init_35 rfl rfl ?_
  refine n_new (bc := 23) (bs := 189) (ci := 9) (N := 9) (T := TX9) (ty := tyX9) dX3_init_36 cl_X3_9 in_X9 iz_X9 rfl wX9 tyX9_ok rfl rfl rfl (fun j hj => by
    have hj2 : j = 0 ∨ j = 1 ∨ j = 2 ∨ j = 3 ∨ j = 4 ∨ j = 5 ∨ j = 6 ∨ j = 7 ∨ j = 8 := by omega
    rcases hj2 with rfl | rfl | rfl | rfl | rfl | rfl | rfl | rfl | rfl <;> rfl) ?_
  refine n_dup dX3_init_39 rfl ?_
  refine n_callI (bc := 20) (bs := 165) (b1 := 3) (b2 := 24) (n1 := 67) dX3_init_40 mn_X3_22 my_X9_init mi_X9_init rfl rfl (by decide) (by decide) k_X9_63 rfl (by decide) rfl ?_
  refine n_aast 16 rfl dX3_init_43 rfl ⟨by decide, by decide⟩ (by decide) rfl rfl ?_
  refine n_inc_1 dX3_init_44 (by decide) rfl ?_
  refine n_goto dX3_init_47 (tgt := 25) rfl ?_
  exact kk
def it_X3_11 (σ : xW) : xW := xu (w_X9_67 (xnO σ 67)) 22 11 67
theorem ik_X3_11 {σ : xW} : it_X3_11 σ 21 0 = σ 21 0 := rfl
theorem il_X3_11 {σ : xW} {K : List xV → Nat → xW → Prop} (h : σ 21 0 = 22) (kk : xGN 2 16 132 mX3_init 25 [vR 21, vI 12] [] 71 (it_X3_11 σ) K) : xGN 2 20 165 mX3_init 25 [vR 21, vI 11] [] 67 σ K := by
  refine n_iln dX3_init_25 rfl rfl ?_
  refine n_bi dX3_init_26 (by decide) ?_
  refine n_cge dX3_init_28 (tgt := 50) rfl ⟨by decide, by decide⟩ ⟨by decide, by decide⟩ (fun h => absurd h (by decide)) (fun _ => ?_)
  refine n_aln dX3_init_31 rfl rfl (by decide) ?_
  refine n_get0 (t := 32) (v := vR 22) dX3_init_32 fl_X3_11 rfl ((congrArg (xfv 67 32) h).trans rfl) ?_
  refine n_iln dX3_init_35 rfl rfl ?_
  refine n_new (bc := 19) (bs := 156) (ci := 9) (N := 9) (T := TX9) (ty := tyX9) dX3_init_36 cl_X3_9 in_X9 iz_X9 rfl wX9 tyX9_ok rfl rfl rfl (fun j hj => by
    have hj2 : j = 0 ∨ j = 1 ∨ j = 2 ∨ j = 3 ∨ j = 4 ∨ j = 5 ∨ j = 6 ∨ j = 7 ∨ j = 8 := by omega
    rcases hj2 with rfl | rfl | rfl | rfl | rfl | rfl | rfl | rfl | rfl <;> rfl) ?_
  refine n_dup dX3_init_39 rfl ?_
  refine n_callI (bc := 16) (bs := 132) (b1 := 3) (b2 := 24) (n1 := 71) dX3_init_40 mn_X3_22 my_X9_init mi_X9_init rfl rfl (by decide) (by decide) k_X9_67 rfl (by decide) rfl ?_
  refine n_aast 16 rfl dX3_init_43 rfl ⟨by decide, by decide⟩ (by decide) rfl rfl ?_
  refine n_inc_1 dX3_init_44 (by decide) rfl ?_
  refine n_goto dX3_init_47 (tgt := 25) rfl ?_
  exact kk
def it_X3_12 (σ : xW) : xW := xu (w_X9_71 (xnO σ 71)) 22 12 71
theorem ik_X3_12 {σ : xW} : it_X3_12 σ 21 0 = σ 21 0 := rfl
theorem il_X3_12 {σ : xW} {K : List xV → Nat → xW → Prop} (h : σ 21 0 = 22) (kk : xGN 2 12 99 mX3_init 25 [vR 21, vI 13] [] 75 (it_X3_12 σ) K) : xGN 2 16 132 mX3_init 25 [vR 21, vI 12] [] 71 σ K := by
  refine n_iln dX3_init_25 rfl rfl ?_
  refine n_bi dX3_init_26 (by decide) ?_
  refine n_cge dX3_init_28 (tgt := 50) rfl ⟨by decide, by decide⟩ ⟨by decide, by decide⟩ (fun h => absurd h (by decide)) (fun _ => ?_)
  refine n_aln dX3_init_31 rfl rfl (by decide) ?_
  refine n_get0 (t := 32) (v := vR 22) dX3_init_32 fl_X3_11 rfl ((congrArg (xfv 71 32) h).trans rfl) ?_
  refine n_iln dX3_init_35 rfl rfl ?_
  refine n_new (bc := 15) (bs := 123) (ci := 9) (N := 9) (T := TX9) (ty := tyX9) dX3_init_36 cl_X3_9 in_X9 iz_X9 rfl wX9 tyX9_ok rfl rfl rfl (fun j hj => by
    have hj2 : j = 0 ∨ j = 1 ∨ j = 2 ∨ j = 3 ∨ j = 4 ∨ j = 5 ∨ j = 6 ∨ j = 7 ∨ j = 8 := by omega
    rcases hj2 with rfl | rfl | rfl | rfl | rfl | rfl | rfl | rfl | rfl <;> rfl) ?_
  refine n_dup dX3_init_39 rfl ?_
  refine n_callI (bc := 12) (bs := 99) (b1 := 3) (b2 := 24) (n1 := 75) dX3_init_40 mn_X3_22 my_X9_init mi_X9_init rfl rfl (by decide) (by decide) k_X9_71 rfl (by decide) rfl ?_
  refine n_aast 16 rfl dX3_init_43 rfl ⟨by decide, by decide⟩ (by decide) rfl rfl ?_
  refine n_inc_1 dX3_init_44 (by decide) rfl ?_
  refine n_goto dX3_init_47 (tgt := 25) rfl ?_
  exact kk
def it_X3_13 (σ : xW) : xW := xu (w_X9_75 (xnO σ 75)) 22 13 75
theorem ik_X3_13 {σ : xW} : it_X3_13 σ 21 0 = σ 21 0 := rfl
theorem il_X3_13 {σ : xW} {K : List xV → Nat → xW → Prop} (h : σ 21 0 = 22) (kk : xGN 2 8 66 mX3_init 25 [vR 21, vI 14] [] 79 (it_X3_13 σ) K) : xGN 2 12 99 mX3_init 25 [vR 21, vI 13] [] 75 σ K := by
  refine n_iln dX3_init_25 rfl rfl ?_
  refine n_bi dX3_init_26 (by decide) ?_
  refine n_cge dX3_init_28 (tgt := 50) rfl ⟨by decide, by decide⟩ ⟨by decide, by decide⟩ (fun h => absurd h (by decide)) (fun _ => ?_)
  refine n_aln dX3_init_31 rfl rfl (by decide) ?_
  refine n_get0 (t := 32) (v := vR 22) dX3_init_32 fl_X3_11 rfl ((congrArg (xfv 75 32) h).trans rfl) ?_
  refine n_iln dX3_init_35 rfl rfl ?_
  refine n_new (bc := 11) (bs := 90) (ci := 9) (N := 9) (T := TX9) (ty := tyX9) dX3_init_36 cl_X3_9 in_X9 iz_X9 rfl wX9 tyX9_ok rfl rfl rfl (fun j hj => by
    have hj2 : j = 0 ∨ j = 1 ∨ j = 2 ∨ j = 3 ∨ j = 4 ∨ j = 5 ∨ j = 6 ∨ j = 7 ∨ j = 8 := by omega
    rcases hj2 with rfl | rfl | rfl | rfl | rfl | rfl | rfl | rfl | rfl <;> rfl) ?_
  refine n_dup dX3_init_39 rfl ?_
  refine n_callI (bc := 8) (bs := 66) (b1 := 3) (b2 := 24) (n1 := 79) dX3_init_40 mn_X3_22 my_X9_init mi_X9_init rfl rfl (by decide) (by decide) k_X9_75 rfl (by decide) rfl ?_
  refine n_aast 16 rfl dX3_init_43 rfl ⟨by decide, by decide⟩ (by decide) rfl rfl ?_
  refine n_inc_1 dX3_init_44 (by decide) rfl ?_
  refine n_goto dX3_init_47 (tgt := 25) rfl ?_
  exact kk
def it_X3_14 (σ : xW) : xW := xu (w_X9_79 (xnO σ 79)) 22 14 79
theorem ik_X3_14 {σ : xW} : it_X3_14 σ 21 0 = σ 21 0 := rfl
theorem il_X3_14 {σ : xW} {K : List xV → Nat → xW → Prop} (h : σ 21 0 = 22) (kk : xGN 2 4 33 mX3_init 25 [vR 21, vI 15] [] 83 (it_X3_14 σ) K) : xGN 2 8 66 mX3_init 25 [vR 21, vI 14] [] 79 σ K := by
  refine n_iln dX3_init_25 rfl rfl ?_
  refine n_bi dX3_init_26 (by decide) ?_
  refine n_cge dX3_init_28 (tgt := 50) rfl ⟨by decide, by decide⟩ ⟨by decide, by decide⟩ (fun h => absurd h (by decide)) (fun _ => ?_)
  refine n_aln dX3_init_31 rfl rfl (by decide) ?_
  refine n_get0 (t := 32) (v := vR 22) dX3_init_32 fl_X3_11 rfl ((congrArg (xfv 79 32) h).trans rfl) ?_
  refine n_iln dX3_init_35 rfl rfl ?_
  refine n_new (bc := 7) (bs := 57) (ci := 9) (N := 9) (T := TX9) (ty := tyX9) dX3_init_36 cl_X3_9 in_X9 iz_X9 rfl wX9 tyX9_ok rfl rfl rfl (fun j hj => by
    have hj2 : j = 0 ∨ j = 1 ∨ j = 2 ∨ j = 3 ∨ j = 4 ∨ j = 5 ∨ j = 6 ∨ j = 7 ∨ j = 8 := by omega
    rcases hj2 with rfl | rfl | rfl | rfl | rfl | rfl | rfl | rfl | rfl <;> rfl) ?_
  refine n_dup dX3_init_39 rfl ?_
  refine n_callI (bc := 4) (bs := 33) (b1 := 3) (b2 := 24) (n1 := 83) dX3_init_40 mn_X3_22 my_X9_init mi_X9_init rfl rfl (by decide) (by decide) k_X9_79 rfl (by decide) rfl ?_
  refine n_aast 16 rfl dX3_init_43 rfl ⟨by decide, by decide⟩ (by decide) rfl rfl ?_
  refine n_inc_1 dX3_init_44 (by decide) rfl ?_
  refine n_goto dX3_init_47 (tgt := 25) rfl ?_
  exact kk
def it_X3_15 (σ : xW) : xW := xu (w_X9_83 (xnO σ 83)) 22 15 83
theorem ik_X3_15 {σ : xW} : it_X3_15 σ 21 0 = σ 21 0 := rfl
theorem il_X3_15 {σ : xW} {K : List xV → Nat → xW → Prop} (h : σ 21 0 = 22) (kk : xGN 2 0 0 mX3_init 25 [vR 21, vI 16] [] 87 (it_X3_15 σ) K) : xGN 2 4 33 mX3_init 25 [vR 21, vI 15] [] 83 σ K := by
  refine n_iln dX3_init_25 rfl rfl ?_
  refine n_bi dX3_init_26 (by decide) ?_
  refine n_cge dX3_init_28 (tgt := 50) rfl ⟨by decide, by decide⟩ ⟨by decide, by decide⟩ (fun h => absurd h (by decide)) (fun _ => ?_)
  refine n_aln dX3_init_31 rfl rfl (by decide) ?_
  refine n_get0 (t := 32) (v := vR 22) dX3_init_32 fl_X3_11 rfl ((congrArg (xfv 83 32) h).trans rfl) ?_
  refine n_iln dX3_init_35 rfl rfl ?_
  refine n_new (bc := 3) (bs := 24) (ci := 9) (N := 9) (T := TX9) (ty := tyX9) dX3_init_36 cl_X3_9 in_X9 iz_X9 rfl wX9 tyX9_ok rfl rfl rfl (fun j hj => by
    have hj2 : j = 0 ∨ j = 1 ∨ j = 2 ∨ j = 3 ∨ j = 4 ∨ j = 5 ∨ j = 6 ∨ j = 7 ∨ j = 8 := by omega
    rcases hj2 with rfl | rfl | rfl | rfl | rfl | rfl | rfl | rfl | rfl <;> rfl) ?_
  refine n_dup dX3_init_39 rfl ?_
  refine n_callI (bc := 0) (bs := 0) (b1 := 3) (b2 := 24) (n1 := 87) dX3_init_40 mn_X3_22 my_X9_init mi_X9_init rfl rfl (by decide) (by decide) k_X9_83 rfl (by decide) rfl ?_
  refine n_aast 16 rfl dX3_init_43 rfl ⟨by decide, by decide⟩ (by decide) rfl rfl ?_
  refine n_inc_1 dX3_init_44 (by decide) rfl ?_
  refine n_goto dX3_init_47 (tgt := 25) rfl ?_
  exact kk
def w_X3_21 (σ : xW) : xW := it_X3_15 (it_X3_14 (it_X3_13 (it_X3_12 (it_X3_11 (it_X3_10 (it_X3_9 (it_X3_8 (it_X3_7 (it_X3_6 (it_X3_5 (it_X3_4 (it_X3_3 (it_X3_2 (it_X3_1 (it_X3_0 (xu (xu (xu (xnm σ 22) 21 0 22) 21 1 0) 21 2 0))))))))))))))))
theorem k_X3_21 {σ : xW} : xCN 2 65 544 mX3_init [vR 21] 22 σ (fun r n' σ' => r = [] ∧ n' = 87 ∧ σ' = w_X3_21 σ) := by
  refine xCN.of [vR 21, vX] (by decide +kernel) (Nat.le_of_ble_eq_true rfl) rfl ?_
  refine n_aln dX3_init_0 rfl rfl (by decide) ?_
  refine n_obj (by decide) dX3_init_1 ob_X3_3 (by decide) rfl ?_
  refine n_aln dX3_init_4 rfl rfl (by decide) ?_
  refine n_bi dX3_init_5 (by decide) ?_
  refine n_anew (bc := 64) (bs := 528) (len := 16) dX3_init_7 cl_X3_9 rfl rfl rfl (by decide) ?_
  refine m_put (x := 22) (t := 32) dX3_init_10 fl_X3_11 rfl rfl (fun _ => ⟨rfl, rfl⟩) (fun _ => ⟨rfl, rfl, _, _, _, rfl, x_tb (tb1 173 (by decide +kernel)) rfl⟩) rfl ?_
  refine n_aln dX3_init_13 rfl rfl (by decide) ?_
  refine n_ic dX3_init_14 ?_
  refine m_put (x := 0) (t := 0) dX3_init_15 fl_X3_15 rfl rfl (fun _ => ⟨rfl, rfl⟩) (fun h => nomatch h) rfl ?_
  refine n_aln dX3_init_18 rfl rfl (by decide) ?_
  refine n_ic dX3_init_19 ?_
  refine m_put (x := 0) (t := 0) dX3_init_20 fl_X3_19 rfl rfl (fun _ => ⟨rfl, rfl⟩) (fun h => nomatch h) rfl ?_
  refine n_ic dX3_init_23 ?_
  refine n_istn_1 dX3_init_24 (by decide) rfl ?_
  have H0 : (xu (xu (xu (xnm σ 22) 21 0 22) 21 1 0) 21 2 0) 21 0 = 22 := rfl
  refine il_X3_0 H0 ?_
  have H1 := (ik_X3_0 (σ := _)).trans H0
  refine il_X3_1 H1 ?_
  have H2 := (ik_X3_1 (σ := _)).trans H1
  refine il_X3_2 H2 ?_
  have H3 := (ik_X3_2 (σ := _)).trans H2
  refine il_X3_3 H3 ?_
  have H4 := (ik_X3_3 (σ := _)).trans H3
  refine il_X3_4 H4 ?_
  have H5 := (ik_X3_4 (σ := _)).trans H4
  refine il_X3_5 H5 ?_
  have H6 := (ik_X3_5 (σ := _)).trans H5
  refine il_X3_6 H6 ?_
  have H7 := (ik_X3_6 (σ := _)).trans H6
  refine il_X3_7 H7 ?_
  have H8 := (ik_X3_7 (σ := _)).trans H7
  refine il_X3_8 H8 ?_
  have H9 := (ik_X3_8 (σ := _)).trans H8
  refine il_X3_9 H9 ?_
  have H10 := (ik_X3_9 (σ := _)).trans H9
  refine il_X3_10 H10 ?_
  have H11 := (ik_X3_10 (σ := _)).trans H10
  refine il_X3_11 H11 ?_
  have H12 := (ik_X3_11 (σ := _)).trans H11
  refine il_X3_12 H12 ?_
  have H13 := (ik_X3_12 (σ := _)).trans H12
  refine il_X3_13 H13 ?_
  have H14 := (ik_X3_13 (σ := _)).trans H13
  refine il_X3_14 H14 ?_
  have H15 := (ik_X3_14 (σ := _)).trans H14
  refine il_X3_15 H15 ?_
  have H16 := (ik_X3_15 (σ := _)).trans H15
  refine n_iln dX3_init_25 rfl rfl ?_
  refine n_bi dX3_init_26 (by decide) ?_
  refine n_cge dX3_init_28 (tgt := 50) rfl ⟨by decide, by decide⟩ ⟨by decide, by decide⟩ (fun _ => ?_) (fun h => absurd h (by decide))
  exact n_ret (r := []) dX3_init_50 trivial ⟨rfl, rfl, rfl⟩ rfl
