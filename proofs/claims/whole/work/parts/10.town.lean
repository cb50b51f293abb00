theorem dX1_of_0 : decode cX1_of 0 = .ok (.aload_n 0, 1) := by decide +kernel
theorem dX1_of_1 : decode cX1_of 1 = .ok (.getfield 15, 3) := by decide +kernel
theorem dX1_of_4 : decode cX1_of 4 = .ok (.ifCond .le 21, 3) := by decide +kernel
theorem dX1_of_7 : decode cX1_of 7 = .ok (.iload_n 1, 1) := by decide +kernel
theorem dX1_of_8 : decode cX1_of 8 = .ok (.ifCond .lt 17, 3) := by decide +kernel
theorem dX1_of_11 : decode cX1_of 11 = .ok (.aload_n 0, 1) := by decide +kernel
theorem dX1_of_12 : decode cX1_of 12 = .ok (.getfield 11, 3) := by decide +kernel
theorem dX1_of_15 : decode cX1_of 15 = .ok (.iload_n 1, 1) := by decide +kernel
theorem dX1_of_16 : decode cX1_of 16 = .ok (.aload_n 0, 1) := by decide +kernel
theorem dX1_of_17 : decode cX1_of 17 = .ok (.getfield 15, 3) := by decide +kernel
theorem dX1_of_20 : decode cX1_of 20 = .ok (.irem, 1) := by decide +kernel
theorem dX1_of_21 : decode cX1_of 21 = .ok (.iaload, 1) := by decide +kernel
theorem dX1_of_22 : decode cX1_of 22 = .ok (.goto 4, 3) := by decide +kernel
theorem dX1_of_25 : decode cX1_of 25 = .ok (.iconst 0, 1) := by decide +kernel
theorem dX1_of_26 : decode cX1_of 26 = .ok (.ireturn, 1) := by decide +kernel
theorem dX9_copy_0 : decode cX9_copy 0 = .ok (.aload_n 0, 1) := by decide +kernel
theorem dX9_copy_1 : decode cX9_copy 1 = .ok (.aload_n 1, 1) := by decide +kernel
theorem dX9_copy_2 : decode cX9_copy 2 = .ok (.getfield 9, 3) := by decide +kernel
theorem dX9_copy_5 : decode cX9_copy 5 = .ok (.putfield 9, 3) := by decide +kernel
theorem dX9_copy_8 : decode cX9_copy 8 = .ok (.aload_n 0, 1) := by decide +kernel
theorem dX9_copy_9 : decode cX9_copy 9 = .ok (.aload_n 1, 1) := by decide +kernel
theorem dX9_copy_10 : decode cX9_copy 10 = .ok (.getfield 15, 3) := by decide +kernel
theorem dX9_copy_13 : decode cX9_copy 13 = .ok (.putfield 15, 3) := by decide +kernel
theorem dX9_copy_16 : decode cX9_copy 16 = .ok (.aload_n 0, 1) := by decide +kernel
theorem dX9_copy_17 : decode cX9_copy 17 = .ok (.aload_n 1, 1) := by decide +kernel
theorem dX9_copy_18 : decode cX9_copy 18 = .ok (.getfield 18, 3) := by decide +kernel
theorem dX9_copy_21 : decode cX9_copy 21 = .ok (.putfield 18, 3) := by decide +kernel
theorem dX9_copy_24 : decode cX9_copy 24 = .ok (.aload_n 0, 1) := by decide +kernel
theorem dX9_copy_25 : decode cX9_copy 25 = .ok (.aload_n 1, 1) := by decide +kernel
theorem dX9_copy_26 : decode cX9_copy 26 = .ok (.getfield 21, 3) := by decide +kernel
theorem dX9_copy_29 : decode cX9_copy 29 = .ok (.putfield 21, 3) := by decide +kernel
theorem dX9_copy_32 : decode cX9_copy 32 = .ok (.aload_n 0, 1) := by decide +kernel
theorem dX9_copy_33 : decode cX9_copy 33 = .ok (.aload_n 1, 1) := by decide +kernel
theorem dX9_copy_34 : decode cX9_copy 34 = .ok (.getfield 24, 3) := by decide +kernel
theorem dX9_copy_37 : decode cX9_copy 37 = .ok (.putfield 24, 3) := by decide +kernel
theorem dX9_copy_40 : decode cX9_copy 40 = .ok (.aload_n 0, 1) := by decide +kernel
theorem dX9_copy_41 : decode cX9_copy 41 = .ok (.aload_n 1, 1) := by decide +kernel
theorem dX9_copy_42 : decode cX9_copy 42 = .ok (.getfield 27, 3) := by decide +kernel
theorem dX9_copy_45 : decode cX9_copy 45 = .ok (.putfield 27, 3) := by decide +kernel
theorem dX9_copy_48 : decode cX9_copy 48 = .ok (.aload_n 1, 1) := by decide +kernel
theorem dX9_copy_49 : decode cX9_copy 49 = .ok (.getfield 30, 3) := by decide +kernel
theorem dX9_copy_52 : decode cX9_copy 52 = .ok (.iconst 0, 1) := by decide +kernel
theorem dX9_copy_53 : decode cX9_copy 53 = .ok (.aload_n 0, 1) := by decide +kernel
theorem dX9_copy_54 : decode cX9_copy 54 = .ok (.getfield 30, 3) := by decide +kernel
theorem dX9_copy_57 : decode cX9_copy 57 = .ok (.iconst 0, 1) := by decide +kernel
theorem dX9_copy_58 : decode cX9_copy 58 = .ok (.bipush 8, 2) := by decide +kernel
theorem dX9_copy_60 : decode cX9_copy 60 = .ok (.invokestatic 40, 3) := by decide +kernel
theorem dX9_copy_63 : decode cX9_copy 63 = .ok (.aload_n 1, 1) := by decide +kernel
theorem dX9_copy_64 : decode cX9_copy 64 = .ok (.getfield 34, 3) := by decide +kernel
theorem dX9_copy_67 : decode cX9_copy 67 = .ok (.iconst 0, 1) := by decide +kernel
theorem dX9_copy_68 : decode cX9_copy 68 = .ok (.aload_n 0, 1) := by decide +kernel
theorem dX9_copy_69 : decode cX9_copy 69 = .ok (.getfield 34, 3) := by decide +kernel
theorem dX9_copy_72 : decode cX9_copy 72 = .ok (.iconst 0, 1) := by decide +kernel
theorem dX9_copy_73 : decode cX9_copy 73 = .ok (.bipush 8, 2) := by decide +kernel
theorem dX9_copy_75 : decode cX9_copy 75 = .ok (.invokestatic 40, 3) := by decide +kernel
theorem dX9_copy_78 : decode cX9_copy 78 = .ok (.aload_n 1, 1) := by decide +kernel
theorem dX9_copy_79 : decode cX9_copy 79 = .ok (.getfield 37, 3) := by decide +kernel
theorem dX9_copy_82 : decode cX9_copy 82 = .ok (.iconst 0, 1) := by decide +kernel
theorem dX9_copy_83 : decode cX9_copy 83 = .ok (.aload_n 0, 1) := by decide +kernel
theorem dX9_copy_84 : decode cX9_copy 84 = .ok (.getfield 37, 3) := by decide +kernel
theorem dX9_copy_87 : decode cX9_copy 87 = .ok (.iconst 0, 1) := by decide +kernel
theorem dX9_copy_88 : decode cX9_copy 88 = .ok (.bipush 8, 2) := by decide +kernel
theorem dX9_copy_90 : decode cX9_copy 90 = .ok (.invokestatic 40, 3) := by decide +kernel
theorem dX9_copy_93 : decode cX9_copy 93 = .ok (.return_, 1) := by decide +kernel
theorem dX3_note_0 : decode cX3_note 0 = .ok (.aload_n 0, 1) := by decide +kernel
theorem dX3_note_1 : decode cX3_note 1 = .ok (.getfield 11, 3) := by decide +kernel
theorem dX3_note_4 : decode cX3_note 4 = .ok (.aload_n 0, 1) := by decide +kernel
theorem dX3_note_5 : decode cX3_note 5 = .ok (.getfield 15, 3) := by decide +kernel
theorem dX3_note_8 : decode cX3_note 8 = .ok (.aaload, 1) := by decide +kernel
theorem dX3_note_9 : decode cX3_note 9 = .ok (.aload_n 1, 1) := by decide +kernel
theorem dX3_note_10 : decode cX3_note 10 = .ok (.invokevirtual 23, 3) := by decide +kernel
theorem dX3_note_13 : decode cX3_note 13 = .ok (.return_, 1) := by decide +kernel
theorem dX3_takeBack_0 : decode cX3_takeBack 0 = .ok (.aload_n 1, 1) := by decide +kernel
theorem dX3_takeBack_1 : decode cX3_takeBack 1 = .ok (.aload_n 0, 1) := by decide +kernel
theorem dX3_takeBack_2 : decode cX3_takeBack 2 = .ok (.getfield 11, 3) := by decide +kernel
theorem dX3_takeBack_5 : decode cX3_takeBack 5 = .ok (.aload_n 0, 1) := by decide +kernel
theorem dX3_takeBack_6 : decode cX3_takeBack 6 = .ok (.getfield 15, 3) := by decide +kernel
theorem dX3_takeBack_9 : decode cX3_takeBack 9 = .ok (.aaload, 1) := by decide +kernel
theorem dX3_takeBack_10 : decode cX3_takeBack 10 = .ok (.invokevirtual 23, 3) := by decide +kernel
theorem dX3_takeBack_13 : decode cX3_takeBack 13 = .ok (.return_, 1) := by decide +kernel
theorem dX3_add_0 : decode cX3_add 0 = .ok (.aload_n 0, 1) := by decide +kernel
theorem dX3_add_1 : decode cX3_add 1 = .ok (.aload_n 0, 1) := by decide +kernel
theorem dX3_add_2 : decode cX3_add 2 = .ok (.getfield 15, 3) := by decide +kernel
theorem dX3_add_5 : decode cX3_add 5 = .ok (.iconst 1, 1) := by decide +kernel
theorem dX3_add_6 : decode cX3_add 6 = .ok (.iadd, 1) := by decide +kernel
theorem dX3_add_7 : decode cX3_add 7 = .ok (.bipush 16, 2) := by decide +kernel
theorem dX3_add_9 : decode cX3_add 9 = .ok (.irem, 1) := by decide +kernel
theorem dX3_add_10 : decode cX3_add 10 = .ok (.putfield 15, 3) := by decide +kernel
theorem dX3_add_13 : decode cX3_add 13 = .ok (.aload_n 0, 1) := by decide +kernel
theorem dX3_add_14 : decode cX3_add 14 = .ok (.bipush 15, 2) := by decide +kernel
theorem dX3_add_16 : decode cX3_add 16 = .ok (.aload_n 0, 1) := by decide +kernel
theorem dX3_add_17 : decode cX3_add 17 = .ok (.getfield 19, 3) := by decide +kernel
theorem dX3_add_20 : decode cX3_add 20 = .ok (.iconst 1, 1) := by decide +kernel
theorem dX3_add_21 : decode cX3_add 21 = .ok (.iadd, 1) := by decide +kernel
theorem dX3_add_22 : decode cX3_add 22 = .ok (.invokestatic 27, 3) := by decide +kernel
theorem dX3_add_25 : decode cX3_add 25 = .ok (.putfield 19, 3) := by decide +kernel
theorem dX3_add_28 : decode cX3_add 28 = .ok (.return_, 1) := by decide +kernel
theorem dX3_bringBack_0 : decode cX3_bringBack 0 = .ok (.aload_n 0, 1) := by decide +kernel
theorem dX3_bringBack_1 : decode cX3_bringBack 1 = .ok (.getfield 19, 3) := by decide +kernel
theorem dX3_bringBack_4 : decode cX3_bringBack 4 = .ok (.ifCond .ne 5, 3) := by decide +kernel
theorem dX3_bringBack_7 : decode cX3_bringBack 7 = .ok (.iconst 0, 1) := by decide +kernel
theorem dX3_bringBack_8 : decode cX3_bringBack 8 = .ok (.ireturn, 1) := by decide +kernel
theorem dX3_bringBack_9 : decode cX3_bringBack 9 = .ok (.aload_n 0, 1) := by decide +kernel
theorem dX3_bringBack_10 : decode cX3_bringBack 10 = .ok (.aload_n 0, 1) := by decide +kernel
theorem dX3_bringBack_11 : decode cX3_bringBack 11 = .ok (.getfield 15, 3) := by decide +kernel
theorem dX3_bringBack_14 : decode cX3_bringBack 14 = .ok (.bipush 15, 2) := by decide +kernel
theorem dX3_bringBack_16 : decode cX3_bringBack 16 = .ok (.iadd, 1) := by decide +kernel
theorem dX3_bringBack_17 : decode cX3_bringBack 17 = .ok (.bipush 16, 2) := by decide +kernel
theorem dX3_bringBack_19 : decode cX3_bringBack 19 = .ok (.irem, 1) := by decide +kernel
theorem dX3_bringBack_20 : decode cX3_bringBack 20 = .ok (.putfield 15, 3) := by decide +kernel
theorem dX3_bringBack_23 : decode cX3_bringBack 23 = .ok (.aload_n 0, 1) := by decide +kernel
theorem dX3_bringBack_24 : decode cX3_bringBack 24 = .ok (.dup, 1) := by decide +kernel
theorem dX3_bringBack_25 : decode cX3_bringBack 25 = .ok (.getfield 19, 3) := by decide +kernel
theorem dX3_bringBack_28 : decode cX3_bringBack 28 = .ok (.iconst 1, 1) := by decide +kernel
theorem dX3_bringBack_29 : decode cX3_bringBack 29 = .ok (.isub, 1) := by decide +kernel
theorem dX3_bringBack_30 : decode cX3_bringBack 30 = .ok (.putfield 19, 3) := by decide +kernel
theorem dX3_bringBack_33 : decode cX3_bringBack 33 = .ok (.aload_n 0, 1) := by decide +kernel
theorem dX3_bringBack_34 : decode cX3_bringBack 34 = .ok (.aload_n 1, 1) := by decide +kernel
theorem dX3_bringBack_35 : decode cX3_bringBack 35 = .ok (.invokevirtual 33, 3) := by decide +kernel
theorem dX3_bringBack_38 : decode cX3_bringBack 38 = .ok (.iconst 1, 1) := by decide +kernel
theorem dX3_bringBack_39 : decode cX3_bringBack 39 = .ok (.ireturn, 1) := by decide +kernel
theorem dX3_drop_0 : decode cX3_drop 0 = .ok (.aload_n 0, 1) := by decide +kernel
theorem dX3_drop_1 : decode cX3_drop 1 = .ok (.iconst 0, 1) := by decide +kernel
theorem dX3_drop_2 : decode cX3_drop 2 = .ok (.putfield 19, 3) := by decide +kernel
theorem dX3_drop_5 : decode cX3_drop 5 = .ok (.return_, 1) := by decide +kernel
theorem dX5_add_0 : decode cX5_add 0 = .ok (.aload_n 0, 1) := by decide +kernel
theorem dX5_add_1 : decode cX5_add 1 = .ok (.getfield 18, 3) := by decide +kernel
theorem dX5_add_4 : decode cX5_add 4 = .ok (.bipush 10, 2) := by decide +kernel
theorem dX5_add_6 : decode cX5_add 6 = .ok (.if_icmp .lt 5, 3) := by decide +kernel
theorem dX5_add_9 : decode cX5_add 9 = .ok (.iconst 0, 1) := by decide +kernel
theorem dX5_add_10 : decode cX5_add 10 = .ok (.ireturn, 1) := by decide +kernel
theorem dX5_add_11 : decode cX5_add 11 = .ok (.aload_n 0, 1) := by decide +kernel
theorem dX5_add_12 : decode cX5_add 12 = .ok (.getfield 11, 3) := by decide +kernel
theorem dX5_add_15 : decode cX5_add 15 = .ok (.aload_n 0, 1) := by decide +kernel
theorem dX5_add_16 : decode cX5_add 16 = .ok (.getfield 18, 3) := by decide +kernel
theorem dX5_add_19 : decode cX5_add 19 = .ok (.iload_n 1, 1) := by decide +kernel
theorem dX5_add_20 : decode cX5_add 20 = .ok (.iastore, 1) := by decide +kernel
theorem dX5_add_21 : decode cX5_add 21 = .ok (.aload_n 0, 1) := by decide +kernel
theorem dX5_add_22 : decode cX5_add 22 = .ok (.getfield 15, 3) := by decide +kernel
theorem dX5_add_25 : decode cX5_add 25 = .ok (.aload_n 0, 1) := by decide +kernel
theorem dX5_add_26 : decode cX5_add 26 = .ok (.getfield 18, 3) := by decide +kernel
theorem dX5_add_29 : decode cX5_add 29 = .ok (.iload_n 2, 1) := by decide +kernel
theorem dX5_add_30 : decode cX5_add 30 = .ok (.iastore, 1) := by decide +kernel
theorem dX5_add_31 : decode cX5_add 31 = .ok (.aload_n 0, 1) := by decide +kernel
theorem dX5_add_32 : decode cX5_add 32 = .ok (.dup, 1) := by decide +kernel
theorem dX5_add_33 : decode cX5_add 33 = .ok (.getfield 18, 3) := by decide +kernel
theorem dX5_add_36 : decode cX5_add 36 = .ok (.iconst 1, 1) := by decide +kernel
theorem dX5_add_37 : decode cX5_add 37 = .ok (.iadd, 1) := by decide +kernel
theorem dX5_add_38 : decode cX5_add 38 = .ok (.putfield 18, 3) := by decide +kernel
theorem dX5_add_41 : decode cX5_add 41 = .ok (.iconst 1, 1) := by decide +kernel
theorem dX5_add_42 : decode cX5_add 42 = .ok (.ireturn, 1) := by decide +kernel
/-- WINDS or DAMPS: cells r, r + 1 -/
def xDs (σ : xW) (r : Int) : Prop := (1 ≤ σ r 1 ∧ σ r 1 ≤ 20) ∧ ∀ i, 0 ≤ σ (r + 1) i ∧ σ (r + 1) i ≤ 9
theorem c_X1_of {σ : xW} {r day : Int} (hr : r = 5 ∨ r = 7) (hD : xDs σ r) (hd : 0 ≤ day ∧ day ≤ 1000000) : xC 0 0 0 mX1_of [vR r, vI day] 155 σ (xRv (vI (σ (r + 1) (day % σ r 1))) σ) := by
  refine xC.of [vR r, vI day] (by decide +kernel) (Nat.le_of_ble_eq_true rfl) rfl ?_
  obtain ⟨h1, h2⟩ := hD
  have h3 := Int.emod_nonneg day (show σ r 1 ≠ 0 by omega)
  have h4 := Int.emod_lt_of_pos day (show 0 < σ r 1 by omega)
  refine g_aln dX1_of_0 rfl rfl (by omega) ?_
  refine g_getI 1 dX1_of_1 fl_X1_15 (by rcases hr with rfl | rfl <;> rfl) rfl ?_
  refine g_zle dX1_of_4 (tgt := 25) rfl (by omega) (fun q4 => ?_) (fun q4 => ?_)
  · exfalso; omega
  · skip
    refine g_iln dX1_of_7 rfl rfl ?_
    refine g_zlt dX1_of_8 (tgt := 25) rfl (by omega) (fun q8 => ?_) (fun q8 => ?_)
    · exfalso; omega
    · skip
      refine g_aln dX1_of_11 rfl rfl (by omega) ?_
      refine g_getC (r + 1) dX1_of_12 fl_X1_11 (by rcases hr with rfl | rfl <;> rfl) (by omega) ?_
      refine g_iln dX1_of_15 rfl rfl ?_
      refine g_aln dX1_of_16 rfl rfl (by omega) ?_
      refine g_getI 1 dX1_of_17 fl_X1_15 (by rcases hr with rfl | rfl <;> rfl) rfl ?_
      refine g_iremp dX1_of_20 (by omega) ?_
      refine g_iald 20 dX1_of_21 (by rcases hr with rfl | rfl <;> rfl) (by omega) (by decide) ?_
      refine g_goto dX1_of_22 (tgt := 26) rfl ?_
      refine g_retI rfl dX1_of_26 ⟨rfl, rfl, rfl⟩
/-- the cells of towns -/
def xTn (t : Int) : Prop := t = 17 ∨ (∃ i, 0 ≤ i ∧ i < 16 ∧ t = 23 + 4 * i) ∨ (∃ i, 0 ≤ i ∧ i < 3 ∧ t = 109 + 4 * i)
theorem xTn_all {P : Int → Prop} (h : ∀ t ∈ ([17, 23, 27, 31, 35, 39, 43, 47, 51, 55, 59, 63, 67, 71, 75, 79, 83, 109, 113, 117] : List Int), P t) {t : Int} (ht : xTn t) : P t := by
  apply h
  rcases ht with rfl | ⟨i, h0, h1, rfl⟩ | ⟨i, h0, h1, rfl⟩
  · decide
  · rcases (by omega : i = 0 ∨ i = 1 ∨ i = 2 ∨ i = 3 ∨ i = 4 ∨ i = 5 ∨ i = 6 ∨ i = 7 ∨ i = 8 ∨ i = 9 ∨ i = 10 ∨ i = 11 ∨ i = 12 ∨ i = 13 ∨ i = 14 ∨ i = 15) with h | h | h | h | h | h | h | h | h | h | h | h | h | h | h | h <;> subst h <;> decide
  · rcases (by omega : i = 0 ∨ i = 1 ∨ i = 2) with h | h | h <;> subst h <;> decide
theorem xTn_ob {t : Int} (ht : xTn t) : xob 155 t 9 = true := xTn_all (P := fun t => xob 155 t 9 = true) (by decide) ht
theorem xTn_f0 {t : Int} (ht : xTn t) : xis 155 t 9 0 0 = true := xTn_all (P := fun t => xis 155 t 9 0 0 = true) (by decide) ht
theorem xTn_f1 {t : Int} (ht : xTn t) : xis 155 t 9 1 0 = true := xTn_all (P := fun t => xis 155 t 9 1 0 = true) (by decide) ht
theorem xTn_f2 {t : Int} (ht : xTn t) : xis 155 t 9 2 0 = true := xTn_all (P := fun t => xis 155 t 9 2 0 = true) (by decide) ht
theorem xTn_f3 {t : Int} (ht : xTn t) : xis 155 t 9 3 0 = true := xTn_all (P := fun t => xis 155 t 9 3 0 = true) (by decide) ht
theorem xTn_f4 {t : Int} (ht : xTn t) : xis 155 t 9 4 0 = true := xTn_all (P := fun t => xis 155 t 9 4 0 = true) (by decide) ht
theorem xTn_f5 {t : Int} (ht : xTn t) : xis 155 t 9 5 0 = true := xTn_all (P := fun t => xis 155 t 9 5 0 = true) (by decide) ht
theorem xTn_f6 {t : Int} (ht : xTn t) : xis 155 t 9 6 ((t + 1).toNat + 10) = true := xTn_all (P := fun t => xis 155 t 9 6 ((t + 1).toNat + 10) = true) (by decide) ht
theorem xTn_f7 {t : Int} (ht : xTn t) : xis 155 t 9 7 ((t + 2).toNat + 10) = true := xTn_all (P := fun t => xis 155 t 9 7 ((t + 2).toNat + 10) = true) (by decide) ht
theorem xTn_f8 {t : Int} (ht : xTn t) : xis 155 t 9 8 ((t + 3).toNat + 10) = true := xTn_all (P := fun t => xis 155 t 9 8 ((t + 3).toNat + 10) = true) (by decide) ht
theorem xTn_a1 {t : Int} (ht : xTn t) : xia 155 (t + 1) 1 8 = true := xTn_all (P := fun t => xia 155 (t + 1) 1 8 = true) (by decide) ht
theorem xTn_a2 {t : Int} (ht : xTn t) : xia 155 (t + 2) 1 8 = true := xTn_all (P := fun t => xia 155 (t + 2) 1 8 = true) (by decide) ht
theorem xTn_a3 {t : Int} (ht : xTn t) : xia 155 (t + 3) 1 8 = true := xTn_all (P := fun t => xia 155 (t + 3) 1 8 = true) (by decide) ht
theorem xTn_r {t : Int} (ht : xTn t) : 17 ≤ t ∧ t ≤ 117 := by
  rcases ht with rfl | ⟨i, h0, h1, rfl⟩ | ⟨i, h0, h1, rfl⟩ <;> omega
theorem xTn_ap {t u : Int} (ht : xTn t) (hu : xTn u) (h : t ≠ u) : t + 4 ≤ u ∨ u + 4 ≤ t := by
  rcases ht with rfl | ⟨i, h0, h1, rfl⟩ | ⟨i, h0, h1, rfl⟩ <;> rcases hu with rfl | ⟨j, h2, h3, rfl⟩ | ⟨j, h2, h3, rfl⟩ <;> omega
/-- the town t made like the town u -/
def xtc (σ : xW) (t u : Int) : xW := fun c j =>
  if c = t ∧ 0 ≤ j ∧ j < 6 then σ u j else if (c = t + 1 ∨ c = t + 2 ∨ c = t + 3) ∧ 0 ≤ j ∧ j < 8 then σ (u + (c - t)) j else σ c j
theorem xtc_eq {σ : xW} {t u : Int} (h1 : 17 ≤ t ∧ t ≤ 117) (h2 : 17 ≤ u ∧ u ≤ 117) (h3 : t + 4 ≤ u ∨ u + 4 ≤ t) : xcp (xcp (xcp (xu (xu (xu (xu (xu (xu σ t 0 (σ u 0)) t 1 (σ u 1)) t 2 (σ u 2)) t 3 (σ u 3)) t 4 (σ u 4)) t 5 (σ u 5)) (u + 1) (t + 1) 8) (u + 2) (t + 2) 8) (u + 3) (t + 3) 8 = xtc σ t u := by
  have e : ∀ c j, c ≠ t → xu (xu (xu (xu (xu (xu σ t 0 (σ u 0)) t 1 (σ u 1)) t 2 (σ u 2)) t 3 (σ u 3)) t 4 (σ u 4)) t 5 (σ u 5) c j = σ c j := fun c j hc => by simp [xu, hc]
  have e2 : ∀ j, xu (xu (xu (xu (xu (xu σ t 0 (σ u 0)) t 1 (σ u 1)) t 2 (σ u 2)) t 3 (σ u 3)) t 4 (σ u 4)) t 5 (σ u 5) t j = if 0 ≤ j ∧ j < 6 then σ u j else σ t j := fun j => by
    by_cases hj : 0 ≤ j ∧ j < 6
    · rw [if_pos hj]
      rcases (by omega : j = 0 ∨ j = 1 ∨ j = 2 ∨ j = 3 ∨ j = 4 ∨ j = 5) with rfl | rfl | rfl | rfl | rfl | rfl <;> simp [xu]
    · rw [if_neg hj]
      simp only [xu]
      rw [if_neg (by omega), if_neg (by omega), if_neg (by omega), if_neg (by omega), if_neg (by omega), if_neg (by omega)]
  generalize xu (xu (xu (xu (xu (xu σ t 0 (σ u 0)) t 1 (σ u 1)) t 2 (σ u 2)) t 3 (σ u 3)) t 4 (σ u 4)) t 5 (σ u 5) = M at e e2
  funext c j
  unfold xtc
  by_cases hc : c = t
  · subst hc
    simp only [xcp]
    rw [if_neg (by omega), if_neg (by omega), if_neg (by omega), e2]
    by_cases hj : 0 ≤ j ∧ j < 6
    · rw [if_pos hj, if_pos ⟨rfl, hj⟩]
    · rw [if_neg hj, if_neg (fun z => hj z.2), if_neg (by omega)]
  · rw [if_neg (fun z => hc z.1)]
    by_cases hq : (c = t + 1 ∨ c = t + 2 ∨ c = t + 3) ∧ 0 ≤ j ∧ j < 8
    · rw [if_pos hq]
      simp only [xcp]
      rcases hq with ⟨rfl | rfl | rfl, hj⟩
      · rw [if_neg (by omega), if_neg (by omega), if_pos ⟨rfl, hj⟩, e _ _ (by omega), show u + (t + 1 - t) = u + 1 by omega]
      · rw [if_neg (by omega), if_pos ⟨rfl, hj⟩, if_neg (by omega), e _ _ (by omega), show u + (t + 2 - t) = u + 2 by omega]
      · rw [if_pos ⟨rfl, hj⟩, if_neg (by omega), if_neg (by omega), e _ _ (by omega), show u + (t + 3 - t) = u + 3 by omega]
    · rw [if_neg hq]
      simp only [xcp]
      rw [if_neg (by omega), if_neg (by omega), if_neg (by omega), e _ _ hc]
theorem c_X9_copy {σ : xW} {t u : Int} (ht : xTn t) (hu : xTn u) (h : t ≠ u) : xC 1 0 0 mX9_copy [vR t, vR u] 155 σ (xR0 (xtc σ t u)) := by
  refine xC.of [vR t, vR u] (by decide +kernel) (Nat.le_of_ble_eq_true rfl) rfl ?_
  have h1 := xTn_r ht
  have h2 := xTn_r hu
  have h3 := xTn_ap ht hu h
  refine g_aln dX9_copy_0 rfl rfl (by omega) ?_
  refine g_aln dX9_copy_1 rfl rfl (by omega) ?_
  refine g_getI 0 dX9_copy_2 fl_X9_9 (by first | exact xTn_f0 (by assumption) | exact xTn_f1 (by assumption) | exact xTn_f2 (by assumption) | exact xTn_f3 (by assumption) | exact xTn_f4 (by assumption) | exact xTn_f5 (by assumption) | exact xTn_f6 (by assumption) | exact xTn_f7 (by assumption) | exact xTn_f8 (by assumption) | exact xTn_a1 (by assumption) | exact xTn_a2 (by assumption) | exact xTn_a3 (by assumption)) rfl ?_
  refine g_putI 0 dX9_copy_5 fl_X9_9 (by first | exact xTn_f0 (by assumption) | exact xTn_f1 (by assumption) | exact xTn_f2 (by assumption) | exact xTn_f3 (by assumption) | exact xTn_f4 (by assumption) | exact xTn_f5 (by assumption) | exact xTn_f6 (by assumption) | exact xTn_f7 (by assumption) | exact xTn_f8 (by assumption) | exact xTn_a1 (by assumption) | exact xTn_a2 (by assumption) | exact xTn_a3 (by assumption)) rfl ?_
  refine g_aln dX9_copy_8 rfl rfl (by omega) ?_
  refine g_aln dX9_copy_9 rfl rfl (by omega) ?_
  refine g_getI 1 dX9_copy_10 fl_X9_15 (by first | exact xTn_f0 (by assumption) | exact xTn_f1 (by assumption) | exact xTn_f2 (by assumption) | exact xTn_f3 (by assumption) | exact xTn_f4 (by assumption) | exact xTn_f5 (by assumption) | exact xTn_f6 (by assumption) | exact xTn_f7 (by assumption) | exact xTn_f8 (by assumption) | exact xTn_a1 (by assumption) | exact xTn_a2 (by assumption) | exact xTn_a3 (by assumption)) rfl ?_
  simp only [xu_cell _ _ _ _ (show u ≠ t from Ne.symm h)]
  refine g_putI 1 dX9_copy_13 fl_X9_15 (by first | exact xTn_f0 (by assumption) | exact xTn_f1 (by assumption) | exact xTn_f2 (by assumption) | exact xTn_f3 (by assumption) | exact xTn_f4 (by assumption) | exact xTn_f5 (by assumption) | exact xTn_f6 (by assumption) | exact xTn_f7 (by assumption) | exact xTn_f8 (by assumption) | exact xTn_a1 (by assumption) | exact xTn_a2 (by assumption) | exact xTn_a3 (by assumption)) rfl ?_
  refine g_aln dX9_copy_16 rfl rfl (by omega) ?_
  refine g_aln dX9_copy_17 rfl rfl (by omega) ?_
  refine g_getI 2 dX9_copy_18 fl_X9_18 (by first | exact xTn_f0 (by assumption) | exact xTn_f1 (by assumption) | exact xTn_f2 (by assumption) | exact xTn_f3 (by assumption) | exact xTn_f4 (by assumption) | exact xTn_f5 (by assumption) | exact xTn_f6 (by assumption) | exact xTn_f7 (by assumption) | exact xTn_f8 (by assumption) | exact xTn_a1 (by assumption) | exact xTn_a2 (by assumption) | exact xTn_a3 (by assumption)) rfl ?_
  simp only [xu_cell _ _ _ _ (show u ≠ t from Ne.symm h)]
  refine g_putI 2 dX9_copy_21 fl_X9_18 (by first | exact xTn_f0 (by assumption) | exact xTn_f1 (by assumption) | exact xTn_f2 (by assumption) | exact xTn_f3 (by assumption) | exact xTn_f4 (by assumption) | exact xTn_f5 (by assumption) | exact xTn_f6 (by assumption) | exact xTn_f7 (by assumption) | exact xTn_f8 (by assumption) | exact xTn_a1 (by assumption) | exact xTn_a2 (by assumption) | exact xTn_a3 (by assumption)) rfl ?_
  refine g_aln dX9_copy_24 rfl rfl (by omega) ?_
  refine g_aln dX9_copy_25 rfl rfl (by omega) ?_
  refine g_getI 3 dX9_copy_26 fl_X9_21 (by first | exact xTn_f0 (by assumption) | exact xTn_f1 (by assumption) | exact xTn_f2 (by assumption) | exact xTn_f3 (by assumption) | exact xTn_f4 (by assumption) | exact xTn_f5 (by assumption) | exact xTn_f6 (by assumption) | exact xTn_f7 (by assumption) | exact xTn_f8 (by assumption) | exact xTn_a1 (by assumption) | exact xTn_a2 (by assumption) | exact xTn_a3 (by assumption)) rfl ?_
  simp only [xu_cell _ _ _ _ (show u ≠ t from Ne.symm h)]
  refine g_putI 3 dX9_copy_29 fl_X9_21 (by first | exact xTn_f0 (by assumption) | exact xTn_f1 (by assumption) | exact xTn_f2 (by assumption) | exact xTn_f3 (by assumption) | exact xTn_f4 (by assumption) | exact xTn_f5 (by assumption) | exact xTn_f6 (by assumption) | exact xTn_f7 (by assumption) | exact xTn_f8 (by assumption) | exact xTn_a1 (by assumption) | exact xTn_a2 (by assumption) | exact xTn_a3 (by assumption)) rfl ?_
  refine g_aln dX9_copy_32 rfl rfl (by omega) ?_
  refine g_aln dX9_copy_33 rfl rfl (by omega) ?_
  refine g_getI 4 dX9_copy_34 fl_X9_24 (by first | exact xTn_f0 (by assumption) | exact xTn_f1 (by assumption) | exact xTn_f2 (by assumption) | exact xTn_f3 (by assumption) | exact xTn_f4 (by assumption) | exact xTn_f5 (by assumption) | exact xTn_f6 (by assumption) | exact xTn_f7 (by assumption) | exact xTn_f8 (by assumption) | exact xTn_a1 (by assumption) | exact xTn_a2 (by assumption) | exact xTn_a3 (by assumption)) rfl ?_
  simp only [xu_cell _ _ _ _ (show u ≠ t from Ne.symm h)]
  refine g_putI 4 dX9_copy_37 fl_X9_24 (by first | exact xTn_f0 (by assumption) | exact xTn_f1 (by assumption) | exact xTn_f2 (by assumption) | exact xTn_f3 (by assumption) | exact xTn_f4 (by assumption) | exact xTn_f5 (by assumption) | exact xTn_f6 (by assumption) | exact xTn_f7 (by assumption) | exact xTn_f8 (by assumption) | exact xTn_a1 (by assumption) | exact xTn_a2 (by assumption) | exact xTn_a3 (by assumption)) rfl ?_
  refine g_aln dX9_copy_40 rfl rfl (by omega) ?_
  refine g_aln dX9_copy_41 rfl rfl (by omega) ?_
  refine g_getI 5 dX9_copy_42 fl_X9_27 (by first | exact xTn_f0 (by assumption) | exact xTn_f1 (by assumption) | exact xTn_f2 (by assumption) | exact xTn_f3 (by assumption) | exact xTn_f4 (by assumption) | exact xTn_f5 (by assumption) | exact xTn_f6 (by assumption) | exact xTn_f7 (by assumption) | exact xTn_f8 (by assumption) | exact xTn_a1 (by assumption) | exact xTn_a2 (by assumption) | exact xTn_a3 (by assumption)) rfl ?_
  simp only [xu_cell _ _ _ _ (show u ≠ t from Ne.symm h)]
  refine g_putI 5 dX9_copy_45 fl_X9_27 (by first | exact xTn_f0 (by assumption) | exact xTn_f1 (by assumption) | exact xTn_f2 (by assumption) | exact xTn_f3 (by assumption) | exact xTn_f4 (by assumption) | exact xTn_f5 (by assumption) | exact xTn_f6 (by assumption) | exact xTn_f7 (by assumption) | exact xTn_f8 (by assumption) | exact xTn_a1 (by assumption) | exact xTn_a2 (by assumption) | exact xTn_a3 (by assumption)) rfl ?_
  refine g_aln dX9_copy_48 rfl rfl (by omega) ?_
  refine g_getC (u + 1) dX9_copy_49 fl_X9_30 (by first | exact xTn_f0 (by assumption) | exact xTn_f1 (by assumption) | exact xTn_f2 (by assumption) | exact xTn_f3 (by assumption) | exact xTn_f4 (by assumption) | exact xTn_f5 (by assumption) | exact xTn_f6 (by assumption) | exact xTn_f7 (by assumption) | exact xTn_f8 (by assumption) | exact xTn_a1 (by assumption) | exact xTn_a2 (by assumption) | exact xTn_a3 (by assumption)) (by omega) ?_
  refine g_ic dX9_copy_52 ?_
  refine g_aln dX9_copy_53 rfl rfl (by omega) ?_
  refine g_getC (t + 1) dX9_copy_54 fl_X9_30 (by first | exact xTn_f0 (by assumption) | exact xTn_f1 (by assumption) | exact xTn_f2 (by assumption) | exact xTn_f3 (by assumption) | exact xTn_f4 (by assumption) | exact xTn_f5 (by assumption) | exact xTn_f6 (by assumption) | exact xTn_f7 (by assumption) | exact xTn_f8 (by assumption) | exact xTn_a1 (by assumption) | exact xTn_a2 (by assumption) | exact xTn_a3 (by assumption)) (by omega) ?_
  refine g_ic dX9_copy_57 ?_
  refine g_bi dX9_copy_58 (by decide) ?_
  refine g_copy 8 8 dX9_copy_60 mc_X9_40 (by first | exact xTn_f0 (by assumption) | exact xTn_f1 (by assumption) | exact xTn_f2 (by assumption) | exact xTn_f3 (by assumption) | exact xTn_f4 (by assumption) | exact xTn_f5 (by assumption) | exact xTn_f6 (by assumption) | exact xTn_f7 (by assumption) | exact xTn_f8 (by assumption) | exact xTn_a1 (by assumption) | exact xTn_a2 (by assumption) | exact xTn_a3 (by assumption)) (by first | exact xTn_f0 (by assumption) | exact xTn_f1 (by assumption) | exact xTn_f2 (by assumption) | exact xTn_f3 (by assumption) | exact xTn_f4 (by assumption) | exact xTn_f5 (by assumption) | exact xTn_f6 (by assumption) | exact xTn_f7 (by assumption) | exact xTn_f8 (by assumption) | exact xTn_a1 (by assumption) | exact xTn_a2 (by assumption) | exact xTn_a3 (by assumption)) (by omega) (by decide) (by decide) rfl ?_
  refine g_aln dX9_copy_63 rfl rfl (by omega) ?_
  refine g_getC (u + 2) dX9_copy_64 fl_X9_34 (by first | exact xTn_f0 (by assumption) | exact xTn_f1 (by assumption) | exact xTn_f2 (by assumption) | exact xTn_f3 (by assumption) | exact xTn_f4 (by assumption) | exact xTn_f5 (by assumption) | exact xTn_f6 (by assumption) | exact xTn_f7 (by assumption) | exact xTn_f8 (by assumption) | exact xTn_a1 (by assumption) | exact xTn_a2 (by assumption) | exact xTn_a3 (by assumption)) (by omega) ?_
  refine g_ic dX9_copy_67 ?_
  refine g_aln dX9_copy_68 rfl rfl (by omega) ?_
  refine g_getC (t + 2) dX9_copy_69 fl_X9_34 (by first | exact xTn_f0 (by assumption) | exact xTn_f1 (by assumption) | exact xTn_f2 (by assumption) | exact xTn_f3 (by assumption) | exact xTn_f4 (by assumption) | exact xTn_f5 (by assumption) | exact xTn_f6 (by assumption) | exact xTn_f7 (by assumption) | exact xTn_f8 (by assumption) | exact xTn_a1 (by assumption) | exact xTn_a2 (by assumption) | exact xTn_a3 (by assumption)) (by omega) ?_
  refine g_ic dX9_copy_72 ?_
  refine g_bi dX9_copy_73 (by decide) ?_
  refine g_copy 8 8 dX9_copy_75 mc_X9_40 (by first | exact xTn_f0 (by assumption) | exact xTn_f1 (by assumption) | exact xTn_f2 (by assumption) | exact xTn_f3 (by assumption) | exact xTn_f4 (by assumption) | exact xTn_f5 (by assumption) | exact xTn_f6 (by assumption) | exact xTn_f7 (by assumption) | exact xTn_f8 (by assumption) | exact xTn_a1 (by assumption) | exact xTn_a2 (by assumption) | exact xTn_a3 (by assumption)) (by first | exact xTn_f0 (by assumption) | exact xTn_f1 (by assumption) | exact xTn_f2 (by assumption) | exact xTn_f3 (by assumption) | exact xTn_f4 (by assumption) | exact xTn_f5 (by assumption) | exact xTn_f6 (by assumption) | exact xTn_f7 (by assumption) | exact xTn_f8 (by assumption) | exact xTn_a1 (by assumption) | exact xTn_a2 (by assumption) | exact xTn_a3 (by assumption)) (by omega) (by decide) (by decide) rfl ?_
  refine g_aln dX9_copy_78 rfl rfl (by omega) ?_
  refine g_getC (u + 3) dX9_copy_79 fl_X9_37 (by first | exact xTn_f0 (by assumption) | exact xTn_f1 (by assumption) | exact xTn_f2 (by assumption) | exact xTn_f3 (by assumption) | exact xTn_f4 (by assumption) | exact xTn_f5 (by assumption) | exact xTn_f6 (by assumption) | exact xTn_f7 (by assumption) | exact xTn_f8 (by assumption) | exact xTn_a1 (by assumption) | exact xTn_a2 (by assumption) | exact xTn_a3 (by assumption)) (by omega) ?_
  refine g_ic dX9_copy_82 ?_
  refine g_aln dX9_copy_83 rfl rfl (by omega) ?_
  refine g_getC (t + 3) dX9_copy_84 fl_X9_37 (by first | exact xTn_f0 (by assumption) | exact xTn_f1 (by assumption) | exact xTn_f2 (by assumption) | exact xTn_f3 (by assumption) | exact xTn_f4 (by assumption) | exact xTn_f5 (by assumption) | exact xTn_f6 (by assumption) | exact xTn_f7 (by assumption) | exact xTn_f8 (by assumption) | exact xTn_a1 (by assumption) | exact xTn_a2 (by assumption) | exact xTn_a3 (by assumption)) (by omega) ?_
  refine g_ic dX9_copy_87 ?_
  refine g_bi dX9_copy_88 (by decide) ?_
  refine g_copy 8 8 dX9_copy_90 mc_X9_40 (by first | exact xTn_f0 (by assumption) | exact xTn_f1 (by assumption) | exact xTn_f2 (by assumption) | exact xTn_f3 (by assumption) | exact xTn_f4 (by assumption) | exact xTn_f5 (by assumption) | exact xTn_f6 (by assumption) | exact xTn_f7 (by assumption) | exact xTn_f8 (by assumption) | exact xTn_a1 (by assumption) | exact xTn_a2 (by assumption) | exact xTn_a3 (by assumption)) (by first | exact xTn_f0 (by assumption) | exact xTn_f1 (by assumption) | exact xTn_f2 (by assumption) | exact xTn_f3 (by assumption) | exact xTn_f4 (by assumption) | exact xTn_f5 (by assumption) | exact xTn_f6 (by assumption) | exact xTn_f7 (by assumption) | exact xTn_f8 (by assumption) | exact xTn_a1 (by assumption) | exact xTn_a2 (by assumption) | exact xTn_a3 (by assumption)) (by omega) (by decide) (by decide) rfl ?_
  refine g_retV rfl dX9_copy_93 ⟨rfl, rfl, xtc_eq h1 h2 h3⟩
theorem c_X3_note {σ : xW} (hn : 0 ≤ σ 21 1 ∧ σ 21 1 < 16) : xC 2 0 0 mX3_note [vR 21, vR 17] 155 σ (xR0 (xtc σ (23 + 4 * σ 21 1) 17)) := by
  refine xC.of [vR 21, vR 17] (by decide +kernel) (Nat.le_of_ble_eq_true rfl) rfl ?_
  have ht : xTn (23 + 4 * σ 21 1) := Or.inr (Or.inl ⟨_, hn.1, hn.2, rfl⟩)
  refine g_aln dX3_note_0 rfl rfl (by omega) ?_
  refine g_getC 22 dX3_note_1 fl_X3_11 rfl (by omega) ?_
  refine g_aln dX3_note_4 rfl rfl (by omega) ?_
  refine g_getI 1 dX3_note_5 fl_X3_15 rfl rfl ?_
  refine g_aald 16 23 dX3_note_8 rfl rfl (by omega) (by decide) ?_
  refine g_aln dX3_note_9 rfl rfl (by omega) ?_
  refine g_cV10 dX3_note_10 ml_X3_23 (by exact xTn_ob ht) (c_X9_copy ht (Or.inl rfl) (by omega)) (by decide) rfl ?_
  refine g_retV rfl dX3_note_13 ⟨rfl, rfl, rfl⟩
theorem c_X3_takeBack {σ : xW} (hn : 0 ≤ σ 21 1 ∧ σ 21 1 < 16) : xC 2 0 0 mX3_takeBack [vR 21, vR 17] 155 σ (xR0 (xtc σ 17 (23 + 4 * σ 21 1))) := by
  refine xC.of [vR 21, vR 17] (by decide +kernel) (Nat.le_of_ble_eq_true rfl) rfl ?_
  have ht : xTn (23 + 4 * σ 21 1) := Or.inr (Or.inl ⟨_, hn.1, hn.2, rfl⟩)
  refine g_aln dX3_takeBack_0 rfl rfl (by omega) ?_
  refine g_aln dX3_takeBack_1 rfl rfl (by omega) ?_
  refine g_getC 22 dX3_takeBack_2 fl_X3_11 rfl (by omega) ?_
  refine g_aln dX3_takeBack_5 rfl rfl (by omega) ?_
  refine g_getI 1 dX3_takeBack_6 fl_X3_15 rfl rfl ?_
  refine g_aald 16 23 dX3_takeBack_9 rfl rfl (by omega) (by decide) ?_
  refine g_cV10 dX3_takeBack_10 ml_X3_23 rfl (c_X9_copy (Or.inl rfl) ht (by omega)) (by decide) rfl ?_
  refine g_retV rfl dX3_takeBack_13 ⟨rfl, rfl, rfl⟩
theorem c_X3_add {σ : xW} (hn : 0 ≤ σ 21 1 ∧ σ 21 1 < 16) (hs : 0 ≤ σ 21 2 ∧ σ 21 2 ≤ 15) : xC 1 0 0 mX3_add [vR 21] 155 σ (xR0 (xu (xu σ 21 1 ((σ 21 1 + 1) % 16)) 21 2 (min 15 (σ 21 2 + 1)))) := by
  refine xC.of [vR 21] (by decide +kernel) (Nat.le_of_ble_eq_true rfl) rfl ?_
  refine g_aln dX3_add_0 rfl rfl (by omega) ?_
  refine g_aln dX3_add_1 rfl rfl (by omega) ?_
  refine g_getI 1 dX3_add_2 fl_X3_15 rfl rfl ?_
  refine g_ic dX3_add_5 ?_
  refine g_iadd dX3_add_6 ?_
  refine g_bi dX3_add_7 (by decide) ?_
  refine g_iremp dX3_add_9 (by omega) ?_
  refine g_putI 1 dX3_add_10 fl_X3_15 rfl rfl ?_
  refine g_aln dX3_add_13 rfl rfl (by omega) ?_
  refine g_bi dX3_add_14 (by decide) ?_
  refine g_aln dX3_add_16 rfl rfl (by omega) ?_
  refine g_getI 2 dX3_add_17 fl_X3_19 rfl rfl ?_
  rw [xu_slot _ _ _ (show (2 : Int) ≠ 1 by decide)]
  refine g_ic dX3_add_20 ?_
  refine g_iadd dX3_add_21 ?_
  refine g_min dX3_add_22 mx_X3_27 (by omega) (by omega) (by decide) rfl ?_
  refine g_putI 2 dX3_add_25 fl_X3_19 rfl rfl ?_
  refine g_retV rfl dX3_add_28 ⟨rfl, rfl, rfl⟩
theorem c_X3_drop {σ : xW} : xC 0 0 0 mX3_drop [vR 21] 155 σ (xR0 (xu σ 21 2 0)) := by
  refine xC.of [vR 21] (by decide +kernel) (Nat.le_of_ble_eq_true rfl) rfl ?_
  refine g_aln dX3_drop_0 rfl rfl (by omega) ?_
  refine g_ic dX3_drop_1 ?_
  refine g_putI 2 dX3_drop_2 fl_X3_19 rfl rfl ?_
  refine g_retV rfl dX3_drop_5 ⟨rfl, rfl, rfl⟩
/-- one back in the ring -/
def xbb (σ : xW) : xW := xtc (xu (xu σ 21 1 ((σ 21 1 + 15) % 16)) 21 2 (σ 21 2 - 1)) 17 (23 + 4 * ((σ 21 1 + 15) % 16))
theorem c_X3_bringBack {σ : xW} (hn : 0 ≤ σ 21 1 ∧ σ 21 1 < 16) (hs : 0 ≤ σ 21 2 ∧ σ 21 2 ≤ 15) : xC 3 0 0 mX3_bringBack [vR 21, vR 17] 155 σ (xRv (vI (if σ 21 2 = 0 then 0 else 1)) (if σ 21 2 = 0 then σ else xbb σ)) := by
  refine xC.of [vR 21, vR 17] (by decide +kernel) (Nat.le_of_ble_eq_true rfl) rfl ?_
  have e1 : ∀ x y, xu (xu σ 21 1 x) 21 2 y 21 1 = x := fun x y => by simp [xu]
  refine g_aln dX3_bringBack_0 rfl rfl (by omega) ?_
  refine g_getI 2 dX3_bringBack_1 fl_X3_19 rfl rfl ?_
  refine g_zne dX3_bringBack_4 (tgt := 9) rfl (by omega) (fun q4 => ?_) (fun q4 => ?_)
  · skip
    refine g_aln dX3_bringBack_9 rfl rfl (by omega) ?_
    refine g_aln dX3_bringBack_10 rfl rfl (by omega) ?_
    refine g_getI 1 dX3_bringBack_11 fl_X3_15 rfl rfl ?_
    refine g_bi dX3_bringBack_14 (by decide) ?_
    refine g_iadd dX3_bringBack_16 ?_
    refine g_bi dX3_bringBack_17 (by decide) ?_
    refine g_iremp dX3_bringBack_19 (by omega) ?_
    refine g_putI 1 dX3_bringBack_20 fl_X3_15 rfl rfl ?_
    refine g_aln dX3_bringBack_23 rfl rfl (by omega) ?_
    refine g_dup dX3_bringBack_24 rfl ?_
    refine g_getI 2 dX3_bringBack_25 fl_X3_19 rfl rfl ?_
    rw [xu_slot _ _ _ (show (2 : Int) ≠ 1 by decide)]
    refine g_ic dX3_bringBack_28 ?_
    refine g_isub dX3_bringBack_29 ?_
    refine g_putI 2 dX3_bringBack_30 fl_X3_19 rfl rfl ?_
    refine g_aln dX3_bringBack_33 rfl rfl (by omega) ?_
    refine g_aln dX3_bringBack_34 rfl rfl (by omega) ?_
    refine g_cV10 dX3_bringBack_35 ml_X3_33 rfl (c_X3_takeBack (by rw [e1]; omega)) (by decide) rfl ?_
    refine g_ic dX3_bringBack_38 ?_
    refine g_retZ rfl dX3_bringBack_39 (by omega) ⟨by rw [if_neg (by omega)], rfl, by rw [if_neg (by omega), e1]; rfl⟩
  · skip
    refine g_ic dX3_bringBack_7 ?_
    refine g_retZ rfl dX3_bringBack_8 (by omega) ⟨by rw [if_pos (by omega)], rfl, by rw [if_pos (by omega)]⟩
theorem c_X5_add {σ : xW} {h v : Int} (hs : 0 ≤ σ 100 2 ∧ σ 100 2 ≤ 10) : xC 0 0 0 mX5_add [vR 100, vI h, vI v] 155 σ (xRv (vI (if σ 100 2 < 10 then 1 else 0)) (if σ 100 2 < 10 then xu (xu (xu σ 101 (σ 100 2) h) 102 (σ 100 2) v) 100 2 (σ 100 2 + 1) else σ)) := by
  refine xC.of [vR 100, vI h, vI v] (by decide +kernel) (Nat.le_of_ble_eq_true rfl) rfl ?_
  refine g_aln dX5_add_0 rfl rfl (by omega) ?_
  refine g_getI 2 dX5_add_1 fl_X5_18 rfl rfl ?_
  refine g_bi dX5_add_4 (by decide) ?_
  refine g_clt dX5_add_6 (tgt := 11) rfl (by omega) (by omega) (fun q6 => ?_) (fun q6 => ?_)
  · skip
    refine g_aln dX5_add_11 rfl rfl (by omega) ?_
    refine g_getC 101 dX5_add_12 fl_X5_11 rfl (by omega) ?_
    refine g_aln dX5_add_15 rfl rfl (by omega) ?_
    refine g_getI 2 dX5_add_16 fl_X5_18 rfl rfl ?_
    refine g_iln dX5_add_19 rfl rfl ?_
    refine g_iast 10 dX5_add_20 rfl (by omega) (by decide) ?_
    refine g_aln dX5_add_21 rfl rfl (by omega) ?_
    refine g_getC 102 dX5_add_22 fl_X5_15 rfl (by omega) ?_
    refine g_aln dX5_add_25 rfl rfl (by omega) ?_
    refine g_getI 2 dX5_add_26 fl_X5_18 rfl rfl ?_
    rw [xu_cell _ _ _ _ (show (100 : Int) ≠ 101 by decide)]
    refine g_iln dX5_add_29 rfl rfl ?_
    refine g_iast 10 dX5_add_30 rfl (by omega) (by decide) ?_
    refine g_aln dX5_add_31 rfl rfl (by omega) ?_
    refine g_dup dX5_add_32 rfl ?_
    refine g_getI 2 dX5_add_33 fl_X5_18 rfl rfl ?_
    rw [xu_cell _ _ _ _ (show (100 : Int) ≠ 102 by decide), xu_cell _ _ _ _ (show (100 : Int) ≠ 101 by decide)]
    refine g_ic dX5_add_36 ?_
    refine g_iadd dX5_add_37 ?_
    refine g_putI 2 dX5_add_38 fl_X5_18 rfl rfl ?_
    refine g_ic dX5_add_41 ?_
    refine g_retZ rfl dX5_add_42 (by omega) ⟨by rw [if_pos (by omega)], rfl, by rw [if_pos (by omega)]⟩
  · skip
    refine g_ic dX5_add_9 ?_
    refine g_retZ rfl dX5_add_10 (by omega) ⟨by rw [if_neg (by omega)], rfl, by rw [if_neg (by omega)]⟩
