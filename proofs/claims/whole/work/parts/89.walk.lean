theorem dX10_fireOnce_0 : decode cX10_fireOnce 0 = .ok (.aload_n 0, 1) := by decide +kernel
theorem dX10_fireOnce_1 : decode cX10_fireOnce 1 = .ok (.iload_n 1, 1) := by decide +kernel
theorem dX10_fireOnce_2 : decode cX10_fireOnce 2 = .ok (.invokevirtual 366, 3) := by decide +kernel
theorem dX10_fireOnce_5 : decode cX10_fireOnce 5 = .ok (.bipush 10, 2) := by decide +kernel
theorem dX10_fireOnce_7 : decode cX10_fireOnce 7 = .ok (.iload_n 2, 1) := by decide +kernel
theorem dX10_fireOnce_8 : decode cX10_fireOnce 8 = .ok (.isub, 1) := by decide +kernel
theorem dX10_fireOnce_9 : decode cX10_fireOnce 9 = .ok (.i2l, 1) := by decide +kernel
theorem dX10_fireOnce_10 : decode cX10_fireOnce 10 = .ok (.lmul, 1) := by decide +kernel
theorem dX10_fireOnce_11 : decode cX10_fireOnce 11 = .ok (.lstore_n 3, 1) := by decide +kernel
theorem dX10_fireOnce_12 : decode cX10_fireOnce 12 = .ok (.iload_n 1, 1) := by decide +kernel
theorem dX10_fireOnce_13 : decode cX10_fireOnce 13 = .ok (.iconst 1, 1) := by decide +kernel
theorem dX10_fireOnce_14 : decode cX10_fireOnce 14 = .ok (.isub, 1) := by decide +kernel
theorem dX10_fireOnce_15 : decode cX10_fireOnce 15 = .ok (.istore 5, 2) := by decide +kernel
theorem dX10_fireOnce_17 : decode cX10_fireOnce 17 = .ok (.iload 5, 2) := by decide +kernel
theorem dX10_fireOnce_19 : decode cX10_fireOnce 19 = .ok (.ifCond .le 28, 3) := by decide +kernel
theorem dX10_fireOnce_22 : decode cX10_fireOnce 22 = .ok (.aload_n 0, 1) := by decide +kernel
theorem dX10_fireOnce_23 : decode cX10_fireOnce 23 = .ok (.getfield 104, 3) := by decide +kernel
theorem dX10_fireOnce_26 : decode cX10_fireOnce 26 = .ok (.iload 5, 2) := by decide +kernel
theorem dX10_fireOnce_28 : decode cX10_fireOnce 28 = .ok (.aload_n 0, 1) := by decide +kernel
theorem dX10_fireOnce_29 : decode cX10_fireOnce 29 = .ok (.getfield 104, 3) := by decide +kernel
theorem dX10_fireOnce_32 : decode cX10_fireOnce 32 = .ok (.iload 5, 2) := by decide +kernel
theorem dX10_fireOnce_34 : decode cX10_fireOnce 34 = .ok (.iconst 1, 1) := by decide +kernel
theorem dX10_fireOnce_35 : decode cX10_fireOnce 35 = .ok (.isub, 1) := by decide +kernel
theorem dX10_fireOnce_36 : decode cX10_fireOnce 36 = .ok (.laload, 1) := by decide +kernel
theorem dX10_fireOnce_37 : decode cX10_fireOnce 37 = .ok (.iload_n 2, 1) := by decide +kernel
theorem dX10_fireOnce_38 : decode cX10_fireOnce 38 = .ok (.i2l, 1) := by decide +kernel
theorem dX10_fireOnce_39 : decode cX10_fireOnce 39 = .ok (.lmul, 1) := by decide +kernel
theorem dX10_fireOnce_40 : decode cX10_fireOnce 40 = .ok (.lastore, 1) := by decide +kernel
theorem dX10_fireOnce_41 : decode cX10_fireOnce 41 = .ok (.iinc 5 (-1), 3) := by decide +kernel
theorem dX10_fireOnce_44 : decode cX10_fireOnce 44 = .ok (.goto (-27), 3) := by decide +kernel
theorem dX10_fireOnce_47 : decode cX10_fireOnce 47 = .ok (.aload_n 0, 1) := by decide +kernel
theorem dX10_fireOnce_48 : decode cX10_fireOnce 48 = .ok (.getfield 104, 3) := by decide +kernel
theorem dX10_fireOnce_51 : decode cX10_fireOnce 51 = .ok (.iconst 0, 1) := by decide +kernel
theorem dX10_fireOnce_52 : decode cX10_fireOnce 52 = .ok (.lload_n 3, 1) := by decide +kernel
theorem dX10_fireOnce_53 : decode cX10_fireOnce 53 = .ok (.lastore, 1) := by decide +kernel
theorem dX10_fireOnce_54 : decode cX10_fireOnce 54 = .ok (.return_, 1) := by decide +kernel
theorem s_X10_fireOnce_17 {l2_3 l3_4 : Int} {q : xW} {k : Int → xW → Option (xW)} (hk : ∀ (l5_12 : Int) (s13 : xW), k l5_12 s13 = some q → xG 1 0 0 mX10_fireOnce 47 [vR 0, vX, vI l2_3, vL l3_4, vX, vI l5_12] [] 155 s13 (xR0 q)) : ∀ (f : Nat) (l5_5 : Int) (s6 : xW), F_X10_fireOnce_17 l2_3 l3_4 f l5_5 s6 k = some q → xG 1 0 0 mX10_fireOnce 17 [vR 0, vX, vI l2_3, vL l3_4, vX, vI l5_5] [] 155 s6 (xR0 q) := by
  intro f
  induction f with
  | zero => intro l5_5 s6 h; cases h
  | succ f ih =>
    intro l5_5 s6 h
    unfold F_X10_fireOnce_17 at h
    refine g_il dX10_fireOnce_17 rfl ?_
    refine g_yle dX10_fireOnce_19 (tgt := 47) rfl rfl (fun q7 => ?_) (fun q7 => ?_)
    · replace h := xif_f q7 h
      exact hk l5_5 s6 h
    · replace h := xif_t q7 h
      refine g_aln dX10_fireOnce_22 rfl rfl (by decide) ?_
      refine g_getC 108 dX10_fireOnce_23 fl_X10_104 rfl (by decide) ?_
      refine g_il dX10_fireOnce_26 rfl ?_
      refine g_aln dX10_fireOnce_28 rfl rfl (by decide) ?_
      refine g_getC 108 dX10_fireOnce_29 fl_X10_104 rfl (by decide) ?_
      refine g_il dX10_fireOnce_32 rfl ?_
      refine g_ic dX10_fireOnce_34 ?_
      refine g_isub dX10_fireOnce_35 ?_
      obtain ⟨hg8, h⟩ := xgd_e h
      refine g_lald 16 dX10_fireOnce_36 rfl hg8 (by decide) ?_
      refine g_iln dX10_fireOnce_37 rfl rfl ?_
      refine g_wi2l dX10_fireOnce_38 rfl ?_
      refine g_lmul dX10_fireOnce_39 ?_
      obtain ⟨hg9, h⟩ := xgd_e h
      obtain ⟨s10, e11, h⟩ := xlt_e h
      refine h_last 16 dX10_fireOnce_40 rfl hg9 (by decide) e11 ?_
      refine g_inc_5 dX10_fireOnce_41 (by decide) rfl ?_
      refine g_goto dX10_fireOnce_44 (tgt := 17) rfl ?_
      exact ih (l5_5 + (-1)) s10 h
theorem s_X10_fireOnce {a1 a2 : Int} {s0 : xW} {q : xW} (h : F_X10_fireOnce a1 a2 s0 = some q) : xC 1 0 0 mX10_fireOnce [vR 0, vI a1, vI a2] 155 s0 (xR0 q) := by
  refine xC.of [vR 0, vI a1, vI a2, vX, vX, vX] (by decide +kernel) (Nat.le_of_ble_eq_true rfl) rfl ?_
  unfold F_X10_fireOnce at h
  refine g_aln dX10_fireOnce_0 rfl rfl (by decide) ?_
  refine g_iln dX10_fireOnce_1 rfl rfl ?_
  obtain ⟨r2, e1, h⟩ := xbp_e h
  refine g_cV1v dX10_fireOnce_2 ml_X10_366 rfl (s_X10_sumOfChances e1) (by decide) rfl ?_
  refine g_bi dX10_fireOnce_5 (by decide) ?_
  refine g_iln dX10_fireOnce_7 rfl rfl ?_
  refine g_isub dX10_fireOnce_8 ?_
  refine g_wi2l dX10_fireOnce_9 rfl ?_
  refine g_lmul dX10_fireOnce_10 ?_
  refine g_lstn_3 dX10_fireOnce_11 (by decide) rfl ?_
  refine g_iln dX10_fireOnce_12 rfl rfl ?_
  refine g_ic dX10_fireOnce_13 ?_
  refine g_isub dX10_fireOnce_14 ?_
  refine g_ist_5 dX10_fireOnce_15 (by decide) rfl ?_
  refine g_drop_1 ?_
  refine s_X10_fireOnce_17 (fun l5_14 s15 h => ?_) xN _ _ h
  refine g_aln dX10_fireOnce_47 rfl rfl (by decide) ?_
  refine g_getC 108 dX10_fireOnce_48 fl_X10_104 rfl (by decide) ?_
  refine g_ic dX10_fireOnce_51 ?_
  refine g_lln dX10_fireOnce_52 rfl rfl ?_
  obtain ⟨s16, e17, h⟩ := xlt_e h
  refine h_last 16 dX10_fireOnce_53 rfl (by decide) (by decide) e17 ?_
  exact g_rV rfl dX10_fireOnce_54 h
theorem dX10_fits_0 : decode cX10_fits 0 = .ok (.aload_n 0, 1) := by decide +kernel
theorem dX10_fits_1 : decode cX10_fits 1 = .ok (.invokevirtual 334, 3) := by decide +kernel
theorem dX10_fits_4 : decode cX10_fits 4 = .ok (.istore_n 1, 1) := by decide +kernel
theorem dX10_fits_5 : decode cX10_fits 5 = .ok (.aload_n 0, 1) := by decide +kernel
theorem dX10_fits_6 : decode cX10_fits 6 = .ok (.getfield 19, 3) := by decide +kernel
theorem dX10_fits_9 : decode cX10_fits 9 = .ok (.invokevirtual 254, 3) := by decide +kernel
theorem dX10_fits_12 : decode cX10_fits 12 = .ok (.iload_n 1, 1) := by decide +kernel
theorem dX10_fits_13 : decode cX10_fits 13 = .ok (.ifCond .le 36, 3) := by decide +kernel
theorem dX10_fits_16 : decode cX10_fits 16 = .ok (.aload_n 0, 1) := by decide +kernel
theorem dX10_fits_17 : decode cX10_fits 17 = .ok (.getfield 19, 3) := by decide +kernel
theorem dX10_fits_20 : decode cX10_fits 20 = .ok (.aload_n 0, 1) := by decide +kernel
theorem dX10_fits_21 : decode cX10_fits 21 = .ok (.getfield 82, 3) := by decide +kernel
theorem dX10_fits_24 : decode cX10_fits 24 = .ok (.getfield 337, 3) := by decide +kernel
theorem dX10_fits_27 : decode cX10_fits 27 = .ok (.iconst 0, 1) := by decide +kernel
theorem dX10_fits_28 : decode cX10_fits 28 = .ok (.iaload, 1) := by decide +kernel
theorem dX10_fits_29 : decode cX10_fits 29 = .ok (.bipush 10, 2) := by decide +kernel
theorem dX10_fits_31 : decode cX10_fits 31 = .ok (.idiv, 1) := by decide +kernel
theorem dX10_fits_32 : decode cX10_fits 32 = .ok (.i2l, 1) := by decide +kernel
theorem dX10_fits_33 : decode cX10_fits 33 = .ok (.aload_n 0, 1) := by decide +kernel
theorem dX10_fits_34 : decode cX10_fits 34 = .ok (.getfield 82, 3) := by decide +kernel
theorem dX10_fits_37 : decode cX10_fits 37 = .ok (.getfield 337, 3) := by decide +kernel
theorem dX10_fits_40 : decode cX10_fits 40 = .ok (.iconst 0, 1) := by decide +kernel
theorem dX10_fits_41 : decode cX10_fits 41 = .ok (.iaload, 1) := by decide +kernel
theorem dX10_fits_42 : decode cX10_fits 42 = .ok (.bipush 10, 2) := by decide +kernel
theorem dX10_fits_44 : decode cX10_fits 44 = .ok (.irem, 1) := by decide +kernel
theorem dX10_fits_45 : decode cX10_fits 45 = .ok (.i2l, 1) := by decide +kernel
theorem dX10_fits_46 : decode cX10_fits 46 = .ok (.invokevirtual 242, 3) := by decide +kernel
theorem dX10_fits_49 : decode cX10_fits 49 = .ok (.iload_n 1, 1) := by decide +kernel
theorem dX10_fits_50 : decode cX10_fits 50 = .ok (.ireturn, 1) := by decide +kernel
theorem s_X10_fits {s0 : xW} {q : Int × xW} (h : F_X10_fits  s0 = some q) : xC 6 0 0 mX10_fits [vR 0] 155 s0 (xRv (vI q.1) q.2) := by
  refine xC.of [vR 0, vX] (by decide +kernel) (Nat.le_of_ble_eq_true rfl) rfl ?_
  unfold F_X10_fits at h
  refine g_aln dX10_fits_0 rfl rfl (by decide) ?_
  obtain ⟨r2, s3, e1, h⟩ := xbd_e h
  refine g_cV0v dX10_fits_1 ml_X10_334 rfl (s_X10_findWeathers e1) (by decide) rfl ?_
  refine g_istn_1 dX10_fits_4 (by decide) rfl ?_
  refine g_aln dX10_fits_5 rfl rfl (by decide) ?_
  refine g_getC 3 dX10_fits_6 fl_X10_19 rfl (by decide) ?_
  obtain ⟨s5, e4, h⟩ := xbp_e h
  refine g_cV00 dX10_fits_9 ml_X10_254 rfl (s_X6_clear e4) (by decide) rfl ?_
  refine g_iln dX10_fits_12 rfl rfl ?_
  obtain ⟨j7, ej8, h⟩ := xjn_e h
  have hj9 : ∀ (s6 : xW), j7 s6 = some q → xG 6 0 0 mX10_fits 49 [vX, vI r2] [] 155 s6 (xRv (vI q.1) q.2) := by
    intro s6 h
    rw [ej8] at h
    refine g_iln dX10_fits_49 rfl rfl ?_
    exact g_rI rfl dX10_fits_50 h
  clear ej8
  refine g_yle dX10_fits_13 (tgt := 49) rfl rfl (fun q10 => ?_) (fun q10 => ?_)
  · replace h := xif_f q10 h
    refine g_drop_0 ?_
    exact hj9 s5 h
  · replace h := xif_t q10 h
    refine g_aln dX10_fits_16 rfl rfl (by decide) ?_
    refine g_getC 3 dX10_fits_17 fl_X10_19 rfl (by decide) ?_
    refine g_aln dX10_fits_20 rfl rfl (by decide) ?_
    refine g_getC 100 dX10_fits_21 fl_X10_82 rfl (by decide) ?_
    refine g_getC 103 dX10_fits_24 fl_X10_337 rfl (by decide) ?_
    refine g_ic dX10_fits_27 ?_
    refine g_iald 100 dX10_fits_28 rfl (by decide) (by decide) ?_
    refine g_bi dX10_fits_29 (by decide) ?_
    refine g_wdiv dX10_fits_31 rfl (xw_id (by decide)) (by decide) ?_
    refine g_wi2l dX10_fits_32 rfl ?_
    refine g_aln dX10_fits_33 rfl rfl (by decide) ?_
    refine g_getC 100 dX10_fits_34 fl_X10_82 rfl (by decide) ?_
    refine g_getC 103 dX10_fits_37 fl_X10_337 rfl (by decide) ?_
    refine g_ic dX10_fits_40 ?_
    refine g_iald 100 dX10_fits_41 rfl (by decide) (by decide) ?_
    refine g_bi dX10_fits_42 (by decide) ?_
    refine g_wrem dX10_fits_44 rfl (xw_id (by decide)) (by decide) ?_
    refine g_wi2l dX10_fits_45 rfl ?_
    obtain ⟨s12, e11, h⟩ := xbp_e h
    refine g_cV20 dX10_fits_46 ml_X10_242 rfl (s_X6_tell_ e11) (by decide) rfl ?_
    refine g_drop_0 ?_
    exact hj9 s12 h
theorem dX10_fitsHouse_0 : decode cX10_fitsHouse 0 = .ok (.aload_n 0, 1) := by decide +kernel
theorem dX10_fitsHouse_1 : decode cX10_fitsHouse 1 = .ok (.getfield 93, 3) := by decide +kernel
theorem dX10_fitsHouse_4 : decode cX10_fitsHouse 4 = .ok (.iload_n 1, 1) := by decide +kernel
theorem dX10_fitsHouse_5 : decode cX10_fitsHouse 5 = .ok (.iconst 3, 1) := by decide +kernel
theorem dX10_fitsHouse_6 : decode cX10_fitsHouse 6 = .ok (.idiv, 1) := by decide +kernel
theorem dX10_fitsHouse_7 : decode cX10_fitsHouse 7 = .ok (.iadd, 1) := by decide +kernel
theorem dX10_fitsHouse_8 : decode cX10_fitsHouse 8 = .ok (.istore_n 2, 1) := by decide +kernel
theorem dX10_fitsHouse_9 : decode cX10_fitsHouse 9 = .ok (.aload_n 0, 1) := by decide +kernel
theorem dX10_fitsHouse_10 : decode cX10_fitsHouse 10 = .ok (.getfield 12, 3) := by decide +kernel
theorem dX10_fitsHouse_13 : decode cX10_fitsHouse 13 = .ok (.iload_n 1, 1) := by decide +kernel
theorem dX10_fitsHouse_14 : decode cX10_fitsHouse 14 = .ok (.invokevirtual 416, 3) := by decide +kernel
theorem dX10_fitsHouse_17 : decode cX10_fitsHouse 17 = .ok (.istore_n 3, 1) := by decide +kernel
theorem dX10_fitsHouse_18 : decode cX10_fitsHouse 18 = .ok (.iload_n 1, 1) := by decide +kernel
theorem dX10_fitsHouse_19 : decode cX10_fitsHouse 19 = .ok (.iconst 3, 1) := by decide +kernel
theorem dX10_fitsHouse_20 : decode cX10_fitsHouse 20 = .ok (.irem, 1) := by decide +kernel
theorem dX10_fitsHouse_21 : decode cX10_fitsHouse 21 = .ok (.iconst 2, 1) := by decide +kernel
theorem dX10_fitsHouse_22 : decode cX10_fitsHouse 22 = .ok (.if_icmp .ne 22, 3) := by decide +kernel
theorem dX10_fitsHouse_25 : decode cX10_fitsHouse 25 = .ok (.aload_n 0, 1) := by decide +kernel
theorem dX10_fitsHouse_26 : decode cX10_fitsHouse 26 = .ok (.getfield 12, 3) := by decide +kernel
theorem dX10_fitsHouse_29 : decode cX10_fitsHouse 29 = .ok (.iload_n 1, 1) := by decide +kernel
theorem dX10_fitsHouse_30 : decode cX10_fitsHouse 30 = .ok (.invokevirtual 230, 3) := by decide +kernel
theorem dX10_fitsHouse_33 : decode cX10_fitsHouse 33 = .ok (.bipush 59, 2) := by decide +kernel
theorem dX10_fitsHouse_35 : decode cX10_fitsHouse 35 = .ok (.if_icmp .ne 7, 3) := by decide +kernel
theorem dX10_fitsHouse_38 : decode cX10_fitsHouse 38 = .ok (.iconst 1, 1) := by decide +kernel
theorem dX10_fitsHouse_39 : decode cX10_fitsHouse 39 = .ok (.goto 4, 3) := by decide +kernel
theorem dX10_fitsHouse_42 : decode cX10_fitsHouse 42 = .ok (.iconst 0, 1) := by decide +kernel
theorem dX10_fitsHouse_43 : decode cX10_fitsHouse 43 = .ok (.ireturn, 1) := by decide +kernel
theorem dX10_fitsHouse_44 : decode cX10_fitsHouse 44 = .ok (.iload_n 3, 1) := by decide +kernel
theorem dX10_fitsHouse_45 : decode cX10_fitsHouse 45 = .ok (.iconst (-1), 1) := by decide +kernel
theorem dX10_fitsHouse_46 : decode cX10_fitsHouse 46 = .ok (.if_icmp .eq 9, 3) := by decide +kernel
theorem dX10_fitsHouse_49 : decode cX10_fitsHouse 49 = .ok (.iload_n 2, 1) := by decide +kernel
theorem dX10_fitsHouse_50 : decode cX10_fitsHouse 50 = .ok (.bipush 8, 2) := by decide +kernel
theorem dX10_fitsHouse_52 : decode cX10_fitsHouse 52 = .ok (.if_icmp .lt 5, 3) := by decide +kernel
theorem dX10_fitsHouse_55 : decode cX10_fitsHouse 55 = .ok (.iconst 0, 1) := by decide +kernel
theorem dX10_fitsHouse_56 : decode cX10_fitsHouse 56 = .ok (.ireturn, 1) := by decide +kernel
theorem dX10_fitsHouse_57 : decode cX10_fitsHouse 57 = .ok (.iload_n 1, 1) := by decide +kernel
theorem dX10_fitsHouse_58 : decode cX10_fitsHouse 58 = .ok (.iconst 3, 1) := by decide +kernel
theorem dX10_fitsHouse_59 : decode cX10_fitsHouse 59 = .ok (.irem, 1) := by decide +kernel
theorem dX10_fitsHouse_60 : decode cX10_fitsHouse 60 = .ok (.ifCond .ne 29, 3) := by decide +kernel
theorem dX10_fitsHouse_63 : decode cX10_fitsHouse 63 = .ok (.aload_n 0, 1) := by decide +kernel
theorem dX10_fitsHouse_64 : decode cX10_fitsHouse 64 = .ok (.getfield 46, 3) := by decide +kernel
theorem dX10_fitsHouse_67 : decode cX10_fitsHouse 67 = .ok (.getfield 152, 3) := by decide +kernel
theorem dX10_fitsHouse_70 : decode cX10_fitsHouse 70 = .ok (.iload_n 2, 1) := by decide +kernel
theorem dX10_fitsHouse_71 : decode cX10_fitsHouse 71 = .ok (.iload_n 3, 1) := by decide +kernel
theorem dX10_fitsHouse_72 : decode cX10_fitsHouse 72 = .ok (.bipush 10, 2) := by decide +kernel
theorem dX10_fitsHouse_74 : decode cX10_fitsHouse 74 = .ok (.imul, 1) := by decide +kernel
theorem dX10_fitsHouse_75 : decode cX10_fitsHouse 75 = .ok (.iastore, 1) := by decide +kernel
theorem dX10_fitsHouse_76 : decode cX10_fitsHouse 76 = .ok (.aload_n 0, 1) := by decide +kernel
theorem dX10_fitsHouse_77 : decode cX10_fitsHouse 77 = .ok (.getfield 46, 3) := by decide +kernel
theorem dX10_fitsHouse_80 : decode cX10_fitsHouse 80 = .ok (.getfield 155, 3) := by decide +kernel
theorem dX10_fitsHouse_83 : decode cX10_fitsHouse 83 = .ok (.iload_n 2, 1) := by decide +kernel
theorem dX10_fitsHouse_84 : decode cX10_fitsHouse 84 = .ok (.iconst 0, 1) := by decide +kernel
theorem dX10_fitsHouse_85 : decode cX10_fitsHouse 85 = .ok (.iastore, 1) := by decide +kernel
theorem dX10_fitsHouse_86 : decode cX10_fitsHouse 86 = .ok (.goto 16, 3) := by decide +kernel
theorem dX10_fitsHouse_89 : decode cX10_fitsHouse 89 = .ok (.aload_n 0, 1) := by decide +kernel
theorem dX10_fitsHouse_90 : decode cX10_fitsHouse 90 = .ok (.getfield 46, 3) := by decide +kernel
theorem dX10_fitsHouse_93 : decode cX10_fitsHouse 93 = .ok (.getfield 152, 3) := by decide +kernel
theorem dX10_fitsHouse_96 : decode cX10_fitsHouse 96 = .ok (.iload_n 2, 1) := by decide +kernel
theorem dX10_fitsHouse_97 : decode cX10_fitsHouse 97 = .ok (.dup2, 1) := by decide +kernel
theorem dX10_fitsHouse_98 : decode cX10_fitsHouse 98 = .ok (.iaload, 1) := by decide +kernel
theorem dX10_fitsHouse_99 : decode cX10_fitsHouse 99 = .ok (.iload_n 3, 1) := by decide +kernel
theorem dX10_fitsHouse_100 : decode cX10_fitsHouse 100 = .ok (.iadd, 1) := by decide +kernel
theorem dX10_fitsHouse_101 : decode cX10_fitsHouse 101 = .ok (.iastore, 1) := by decide +kernel
theorem dX10_fitsHouse_102 : decode cX10_fitsHouse 102 = .ok (.iconst 1, 1) := by decide +kernel
theorem dX10_fitsHouse_103 : decode cX10_fitsHouse 103 = .ok (.ireturn, 1) := by decide +kernel
theorem s_X10_fitsHouse {a1 : Int} {s0 : xW} {q : Int × xW} (h : F_X10_fitsHouse a1 s0 = some q) : xC 2 0 0 mX10_fitsHouse [vR 0, vI a1] 155 s0 (xRv (vI q.1) q.2) := by
  refine xC.of [vR 0, vI a1, vX, vX] (by decide +kernel) (Nat.le_of_ble_eq_true rfl) rfl ?_
  unfold F_X10_fitsHouse at h
  refine g_aln dX10_fitsHouse_0 rfl rfl (by decide) ?_
  refine g_getI 14 dX10_fitsHouse_1 fl_X10_93 rfl rfl ?_
  refine g_iln dX10_fitsHouse_4 rfl rfl ?_
  refine g_ic dX10_fitsHouse_5 ?_
  refine g_wdiv dX10_fitsHouse_6 rfl (xw_id (by decide)) (by decide) ?_
  refine g_iadd dX10_fitsHouse_7 ?_
  refine g_istn_2 dX10_fitsHouse_8 (by decide) rfl ?_
  refine g_aln dX10_fitsHouse_9 rfl rfl (by decide) ?_
  refine g_getC 1 dX10_fitsHouse_10 fl_X10_12 rfl (by decide) ?_
  refine g_iln dX10_fitsHouse_13 rfl rfl ?_
  obtain ⟨r2, e1, h⟩ := xbp_e h
  refine g_cV1v dX10_fitsHouse_14 ml_X10_416 rfl (s_X8_digit e1) (by decide) rfl ?_
  refine g_istn_3 dX10_fitsHouse_17 (by decide) rfl ?_
  refine g_iln dX10_fitsHouse_18 rfl rfl ?_
  refine g_ic dX10_fitsHouse_19 ?_
  refine g_wrem dX10_fitsHouse_20 rfl (xw_id (by decide)) (by decide) ?_
  refine g_ic dX10_fitsHouse_21 ?_
  refine g_wne dX10_fitsHouse_22 (tgt := 44) rfl rfl (xw_id (by decide)) (fun q3 => ?_) (fun q3 => ?_)
  · replace h := xif_f q3 h
    refine g_iln dX10_fitsHouse_44 rfl rfl ?_
    refine g_ic dX10_fitsHouse_45 ?_
    obtain ⟨j4, ej5, h⟩ := xjn_e h
    have hj6 : j4  = some q → xG 2 0 0 mX10_fitsHouse 55 [vX, vX, vX, vX] [] 155 s0 (xRv (vI q.1) q.2) := by
      intro  h
      rw [ej5] at h
      refine g_ic dX10_fitsHouse_55 ?_
      exact g_rZ rfl dX10_fitsHouse_56 (by decide) h
    clear ej5
    refine g_weq dX10_fitsHouse_46 (tgt := 55) rfl rfl (xw_id (by decide)) (fun q7 => ?_) (fun q7 => ?_)
    · replace h := xif_f q7 h
      refine g_drop_0 ?_
      refine g_drop_1 ?_
      refine g_drop_2 ?_
      refine g_drop_3 ?_
      exact hj6  h
    · replace h := xif_t q7 h
      refine g_iln dX10_fitsHouse_49 rfl rfl ?_
      refine g_bi dX10_fitsHouse_50 (by decide) ?_
      refine g_wlt dX10_fitsHouse_52 (tgt := 57) rfl rfl (xw_id (by decide)) (fun q8 => ?_) (fun q8 => ?_)
      · replace h := xif_f q8 h
        refine g_iln dX10_fitsHouse_57 rfl rfl ?_
        refine g_ic dX10_fitsHouse_58 ?_
        refine g_wrem dX10_fitsHouse_59 rfl (xw_id (by decide)) (by decide) ?_
        obtain ⟨j10, ej11, h⟩ := xjn_e h
        have hj12 : ∀ (s9 : xW), j10 s9 = some q → xG 2 0 0 mX10_fitsHouse 102 [vX, vX, vX, vX] [] 155 s9 (xRv (vI q.1) q.2) := by
          intro s9 h
          rw [ej11] at h
          refine g_ic dX10_fitsHouse_102 ?_
          exact g_rZ rfl dX10_fitsHouse_103 (by decide) h
        clear ej11
        refine g_yne dX10_fitsHouse_60 (tgt := 89) rfl rfl (fun q13 => ?_) (fun q13 => ?_)
        · replace h := xif_f q13 h
          refine g_aln dX10_fitsHouse_89 rfl rfl (by decide) ?_
          refine g_getC 17 dX10_fitsHouse_90 fl_X10_46 rfl (by decide) ?_
          refine g_getC 18 dX10_fitsHouse_93 fl_X10_152 rfl (by decide) ?_
          refine g_iln dX10_fitsHouse_96 rfl rfl ?_
          refine g_dup2 dX10_fitsHouse_97 rfl rfl ?_
          obtain ⟨hg14, h⟩ := xgd_e h
          refine g_iald 8 dX10_fitsHouse_98 rfl hg14 (by decide) ?_
          refine g_iln dX10_fitsHouse_99 rfl rfl ?_
          refine g_iadd dX10_fitsHouse_100 ?_
          obtain ⟨hg15, h⟩ := xgd_e h
          obtain ⟨s16, e17, h⟩ := xlt_e h
          refine h_iast 8 dX10_fitsHouse_101 rfl hg15 (by decide) e17 ?_
          refine g_drop_0 ?_
          refine g_drop_1 ?_
          refine g_drop_2 ?_
          refine g_drop_3 ?_
          exact hj12 s16 h
        · replace h := xif_t q13 h
          refine g_aln dX10_fitsHouse_63 rfl rfl (by decide) ?_
          refine g_getC 17 dX10_fitsHouse_64 fl_X10_46 rfl (by decide) ?_
          refine g_getC 18 dX10_fitsHouse_67 fl_X10_152 rfl (by decide) ?_
          refine g_iln dX10_fitsHouse_70 rfl rfl ?_
          refine g_iln dX10_fitsHouse_71 rfl rfl ?_
          refine g_bi dX10_fitsHouse_72 (by decide) ?_
          refine g_imul dX10_fitsHouse_74 ?_
          obtain ⟨hg18, h⟩ := xgd_e h
          obtain ⟨s19, e20, h⟩ := xlt_e h
          refine h_iast 8 dX10_fitsHouse_75 rfl hg18 (by decide) e20 ?_
          refine g_aln dX10_fitsHouse_76 rfl rfl (by decide) ?_
          refine g_getC 17 dX10_fitsHouse_77 fl_X10_46 rfl (by decide) ?_
          refine g_getC 19 dX10_fitsHouse_80 fl_X10_155 rfl (by decide) ?_
          refine g_iln dX10_fitsHouse_83 rfl rfl ?_
          refine g_ic dX10_fitsHouse_84 ?_
          obtain ⟨hg21, h⟩ := xgd_e h
          obtain ⟨s22, e23, h⟩ := xlt_e h
          refine h_iast 8 dX10_fitsHouse_85 rfl hg21 (by decide) e23 ?_
          refine g_goto dX10_fitsHouse_86 (tgt := 102) rfl ?_
          refine g_drop_0 ?_
          refine g_drop_1 ?_
          refine g_drop_2 ?_
          refine g_drop_3 ?_
          exact hj12 s22 h
      · replace h := xif_t q8 h
        refine g_drop_0 ?_
        refine g_drop_1 ?_
        refine g_drop_2 ?_
        refine g_drop_3 ?_
        exact hj6  h
  · replace h := xif_t q3 h
    refine g_aln dX10_fitsHouse_25 rfl rfl (by decide) ?_
    refine g_getC 1 dX10_fitsHouse_26 fl_X10_12 rfl (by decide) ?_
    refine g_iln dX10_fitsHouse_29 rfl rfl ?_
    obtain ⟨r25, e24, h⟩ := xbp_e h
    refine g_cV1v dX10_fitsHouse_30 ml_X10_230 rfl (s_X8_at e24) (by decide) rfl ?_
    refine g_bi dX10_fitsHouse_33 (by decide) ?_
    obtain ⟨v27, e28, h⟩ := xlt_e h
    have hj29 : xG 2 0 0 mX10_fitsHouse 43 [vX, vX, vX, vX] [vI v27] 155 s0 (xRv (vI q.1) q.2) := by
      obtain ⟨hg30, h⟩ := xgd_e h
      exact g_rZ rfl dX10_fitsHouse_43 hg30 h
    refine g_wne dX10_fitsHouse_35 (tgt := 42) rfl rfl (xw_id (by decide)) (fun c26 => ?_) (fun c26 => ?_)
    · skip
      refine g_ic dX10_fitsHouse_42 ?_
      refine g_drop_0 ?_
      refine g_drop_1 ?_
      refine g_drop_2 ?_
      refine g_drop_3 ?_
      exact g_vq ((if_neg c26).symm.trans e28) hj29
    · skip
      refine g_ic dX10_fitsHouse_38 ?_
      refine g_goto dX10_fitsHouse_39 (tgt := 43) rfl ?_
      refine g_drop_0 ?_
      refine g_drop_1 ?_
      refine g_drop_2 ?_
      refine g_drop_3 ?_
      exact g_vq ((if_pos c26).symm.trans e28) hj29
theorem dX10_forget_0 : decode cX10_forget 0 = .ok (.aload_n 0, 1) := by decide +kernel
theorem dX10_forget_1 : decode cX10_forget 1 = .ok (.getfield 82, 3) := by decide +kernel
theorem dX10_forget_4 : decode cX10_forget 4 = .ok (.getfield 333, 3) := by decide +kernel
theorem dX10_forget_7 : decode cX10_forget 7 = .ok (.istore_n 1, 1) := by decide +kernel
theorem dX10_forget_8 : decode cX10_forget 8 = .ok (.aload_n 0, 1) := by decide +kernel
theorem dX10_forget_9 : decode cX10_forget 9 = .ok (.getfield 82, 3) := by decide +kernel
theorem dX10_forget_12 : decode cX10_forget 12 = .ok (.iconst 0, 1) := by decide +kernel
theorem dX10_forget_13 : decode cX10_forget 13 = .ok (.putfield 333, 3) := by decide +kernel
theorem dX10_forget_16 : decode cX10_forget 16 = .ok (.iload_n 1, 1) := by decide +kernel
theorem dX10_forget_17 : decode cX10_forget 17 = .ok (.ireturn, 1) := by decide +kernel
theorem s_X10_forget {s0 : xW} {q : Int × xW} (h : F_X10_forget  s0 = some q) : xC 0 0 0 mX10_forget [vR 0] 155 s0 (xRv (vI q.1) q.2) := by
  refine xC.of [vR 0, vX] (by decide +kernel) (Nat.le_of_ble_eq_true rfl) rfl ?_
  unfold F_X10_forget at h
  refine g_aln dX10_forget_0 rfl rfl (by decide) ?_
  refine g_getC 100 dX10_forget_1 fl_X10_82 rfl (by decide) ?_
  refine g_getI 2 dX10_forget_4 fl_X10_333 rfl rfl ?_
  refine g_istn_1 dX10_forget_7 (by decide) rfl ?_
  refine g_aln dX10_forget_8 rfl rfl (by decide) ?_
  refine g_getC 100 dX10_forget_9 fl_X10_82 rfl (by decide) ?_
  refine g_ic dX10_forget_12 ?_
  obtain ⟨s1, e2, h⟩ := xlt_e h
  refine h_putI 2 dX10_forget_13 fl_X10_333 rfl rfl e2 ?_
  refine g_iln dX10_forget_16 rfl rfl ?_
  exact g_rI rfl dX10_forget_17 h
theorem dX2_isMove_0 : decode cX2_isMove 0 = .ok (.iload_n 0, 1) := by decide +kernel
theorem dX2_isMove_1 : decode cX2_isMove 1 = .ok (.ifCond .ne 7, 3) := by decide +kernel
theorem dX2_isMove_4 : decode cX2_isMove 4 = .ok (.iload_n 1, 1) := by decide +kernel
theorem dX2_isMove_5 : decode cX2_isMove 5 = .ok (.ifCond .gt 21, 3) := by decide +kernel
theorem dX2_isMove_8 : decode cX2_isMove 8 = .ok (.iload_n 0, 1) := by decide +kernel
theorem dX2_isMove_9 : decode cX2_isMove 9 = .ok (.ifCond .le 7, 3) := by decide +kernel
theorem dX2_isMove_12 : decode cX2_isMove 12 = .ok (.iload_n 1, 1) := by decide +kernel
theorem dX2_isMove_13 : decode cX2_isMove 13 = .ok (.ifCond .eq 13, 3) := by decide +kernel
theorem dX2_isMove_16 : decode cX2_isMove 16 = .ok (.iload_n 0, 1) := by decide +kernel
theorem dX2_isMove_17 : decode cX2_isMove 17 = .ok (.iconst 1, 1) := by decide +kernel
theorem dX2_isMove_18 : decode cX2_isMove 18 = .ok (.if_icmp .ne 12, 3) := by decide +kernel
theorem dX2_isMove_21 : decode cX2_isMove 21 = .ok (.iload_n 1, 1) := by decide +kernel
theorem dX2_isMove_22 : decode cX2_isMove 22 = .ok (.iconst 1, 1) := by decide +kernel
theorem dX2_isMove_23 : decode cX2_isMove 23 = .ok (.if_icmp .ne 7, 3) := by decide +kernel
theorem dX2_isMove_26 : decode cX2_isMove 26 = .ok (.iconst 1, 1) := by decide +kernel
theorem dX2_isMove_27 : decode cX2_isMove 27 = .ok (.goto 4, 3) := by decide +kernel
theorem dX2_isMove_30 : decode cX2_isMove 30 = .ok (.iconst 0, 1) := by decide +kernel
theorem dX2_isMove_31 : decode cX2_isMove 31 = .ok (.ireturn, 1) := by decide +kernel
theorem s_X2_isMove {a0 a1 : Int} {s0 : xW} {q : Int} (h : F_X2_isMove a0 a1 s0 = some q) : xC 0 0 0 mX2_isMove [vI a0, vI a1] 155 s0 (xRv (vI q) s0) := by
  refine xC.of [vI a0, vI a1] (by decide +kernel) (Nat.le_of_ble_eq_true rfl) rfl ?_
  unfold F_X2_isMove at h
  refine g_iln dX2_isMove_0 rfl rfl ?_
  obtain ⟨v15, e16, h⟩ := xlt_e h
  have hj17 : xG 0 0 0 mX2_isMove 31 [vX, vX] [vI v15] 155 s0 (xRv (vI q) s0) := by
    obtain ⟨hg18, h⟩ := xgd_e h
    exact g_pZ rfl dX2_isMove_31 hg18 h
  refine g_yne dX2_isMove_1 (tgt := 8) rfl rfl (fun c1 => ?_) (fun c1 => ?_)
  · skip
    refine g_iln dX2_isMove_8 rfl rfl ?_
    refine g_yle dX2_isMove_9 (tgt := 16) rfl rfl (fun c9 => ?_) (fun c9 => ?_)
    · skip
      refine g_iln dX2_isMove_16 rfl rfl ?_
      refine g_ic dX2_isMove_17 ?_
      refine g_wne dX2_isMove_18 (tgt := 30) rfl rfl (xw_id (by decide)) (fun c13 => ?_) (fun c13 => ?_)
      · skip
        refine g_ic dX2_isMove_30 ?_
        refine g_drop_0 ?_
        refine g_drop_1 ?_
        exact g_vq ((((if_neg c1).trans (if_neg c9)).trans (if_neg c13)).symm.trans e16) hj17
      · skip
        refine g_iln dX2_isMove_21 rfl rfl ?_
        refine g_ic dX2_isMove_22 ?_
        refine g_wne dX2_isMove_23 (tgt := 30) rfl rfl (xw_id (by decide)) (fun c14 => ?_) (fun c14 => ?_)
        · skip
          refine g_ic dX2_isMove_30 ?_
          refine g_drop_0 ?_
          refine g_drop_1 ?_
          exact g_vq (((((if_neg c1).trans (if_neg c9)).trans (if_pos c13)).trans (if_neg c14)).symm.trans e16) hj17
        · skip
          refine g_ic dX2_isMove_26 ?_
          refine g_goto dX2_isMove_27 (tgt := 31) rfl ?_
          refine g_drop_0 ?_
          refine g_drop_1 ?_
          exact g_vq (((((if_neg c1).trans (if_neg c9)).trans (if_pos c13)).trans (if_pos c14)).symm.trans e16) hj17
    · skip
      refine g_iln dX2_isMove_12 rfl rfl ?_
      refine g_yeq dX2_isMove_13 (tgt := 26) rfl rfl (fun c10 => ?_) (fun c10 => ?_)
      · skip
        refine g_ic dX2_isMove_26 ?_
        refine g_goto dX2_isMove_27 (tgt := 31) rfl ?_
        refine g_drop_0 ?_
        refine g_drop_1 ?_
        exact g_vq ((((if_neg c1).trans (if_pos c9)).trans (if_neg c10)).symm.trans e16) hj17
      · skip
        refine g_iln dX2_isMove_16 rfl rfl ?_
        refine g_ic dX2_isMove_17 ?_
        refine g_wne dX2_isMove_18 (tgt := 30) rfl rfl (xw_id (by decide)) (fun c11 => ?_) (fun c11 => ?_)
        · skip
          refine g_ic dX2_isMove_30 ?_
          refine g_drop_0 ?_
          refine g_drop_1 ?_
          exact g_vq (((((if_neg c1).trans (if_pos c9)).trans (if_pos c10)).trans (if_neg c11)).symm.trans e16) hj17
        · skip
          refine g_iln dX2_isMove_21 rfl rfl ?_
          refine g_ic dX2_isMove_22 ?_
          refine g_wne dX2_isMove_23 (tgt := 30) rfl rfl (xw_id (by decide)) (fun c12 => ?_) (fun c12 => ?_)
          · skip
            refine g_ic dX2_isMove_30 ?_
            refine g_drop_0 ?_
            refine g_drop_1 ?_
            exact g_vq ((((((if_neg c1).trans (if_pos c9)).trans (if_pos c10)).trans (if_pos c11)).trans (if_neg c12)).symm.trans e16) hj17
          · skip
            refine g_ic dX2_isMove_26 ?_
            refine g_goto dX2_isMove_27 (tgt := 31) rfl ?_
            refine g_drop_0 ?_
            refine g_drop_1 ?_
            exact g_vq ((((((if_neg c1).trans (if_pos c9)).trans (if_pos c10)).trans (if_pos c11)).trans (if_pos c12)).symm.trans e16) hj17
  · skip
    refine g_iln dX2_isMove_4 rfl rfl ?_
    refine g_ygt dX2_isMove_5 (tgt := 26) rfl rfl (fun c2 => ?_) (fun c2 => ?_)
    · skip
      refine g_ic dX2_isMove_26 ?_
      refine g_goto dX2_isMove_27 (tgt := 31) rfl ?_
      refine g_drop_0 ?_
      refine g_drop_1 ?_
      exact g_vq (((if_pos c1).trans (if_neg c2)).symm.trans e16) hj17
    · skip
      refine g_iln dX2_isMove_8 rfl rfl ?_
      refine g_yle dX2_isMove_9 (tgt := 16) rfl rfl (fun c3 => ?_) (fun c3 => ?_)
      · skip
        refine g_iln dX2_isMove_16 rfl rfl ?_
        refine g_ic dX2_isMove_17 ?_
        refine g_wne dX2_isMove_18 (tgt := 30) rfl rfl (xw_id (by decide)) (fun c7 => ?_) (fun c7 => ?_)
        · skip
          refine g_ic dX2_isMove_30 ?_
          refine g_drop_0 ?_
          refine g_drop_1 ?_
          exact g_vq (((((if_pos c1).trans (if_pos c2)).trans (if_neg c3)).trans (if_neg c7)).symm.trans e16) hj17
        · skip
          refine g_iln dX2_isMove_21 rfl rfl ?_
          refine g_ic dX2_isMove_22 ?_
          refine g_wne dX2_isMove_23 (tgt := 30) rfl rfl (xw_id (by decide)) (fun c8 => ?_) (fun c8 => ?_)
          · skip
            refine g_ic dX2_isMove_30 ?_
            refine g_drop_0 ?_
            refine g_drop_1 ?_
            exact g_vq ((((((if_pos c1).trans (if_pos c2)).trans (if_neg c3)).trans (if_pos c7)).trans (if_neg c8)).symm.trans e16) hj17
          · skip
            refine g_ic dX2_isMove_26 ?_
            refine g_goto dX2_isMove_27 (tgt := 31) rfl ?_
            refine g_drop_0 ?_
            refine g_drop_1 ?_
            exact g_vq ((((((if_pos c1).trans (if_pos c2)).trans (if_neg c3)).trans (if_pos c7)).trans (if_pos c8)).symm.trans e16) hj17
      · skip
        refine g_iln dX2_isMove_12 rfl rfl ?_
        refine g_yeq dX2_isMove_13 (tgt := 26) rfl rfl (fun c4 => ?_) (fun c4 => ?_)
        · skip
          refine g_ic dX2_isMove_26 ?_
          refine g_goto dX2_isMove_27 (tgt := 31) rfl ?_
          refine g_drop_0 ?_
          refine g_drop_1 ?_
          exact g_vq (((((if_pos c1).trans (if_pos c2)).trans (if_pos c3)).trans (if_neg c4)).symm.trans e16) hj17
        · skip
          refine g_iln dX2_isMove_16 rfl rfl ?_
          refine g_ic dX2_isMove_17 ?_
          refine g_wne dX2_isMove_18 (tgt := 30) rfl rfl (xw_id (by decide)) (fun c5 => ?_) (fun c5 => ?_)
          · skip
            refine g_ic dX2_isMove_30 ?_
            refine g_drop_0 ?_
            refine g_drop_1 ?_
            exact g_vq ((((((if_pos c1).trans (if_pos c2)).trans (if_pos c3)).trans (if_pos c4)).trans (if_neg c5)).symm.trans e16) hj17
          · skip
            refine g_iln dX2_isMove_21 rfl rfl ?_
            refine g_ic dX2_isMove_22 ?_
            refine g_wne dX2_isMove_23 (tgt := 30) rfl rfl (xw_id (by decide)) (fun c6 => ?_) (fun c6 => ?_)
            · skip
              refine g_ic dX2_isMove_30 ?_
              refine g_drop_0 ?_
              refine g_drop_1 ?_
              exact g_vq (((((((if_pos c1).trans (if_pos c2)).trans (if_pos c3)).trans (if_pos c4)).trans (if_pos c5)).trans (if_neg c6)).symm.trans e16) hj17
            · skip
              refine g_ic dX2_isMove_26 ?_
              refine g_goto dX2_isMove_27 (tgt := 31) rfl ?_
              refine g_drop_0 ?_
              refine g_drop_1 ?_
              exact g_vq (((((((if_pos c1).trans (if_pos c2)).trans (if_pos c3)).trans (if_pos c4)).trans (if_pos c5)).trans (if_pos c6)).symm.trans e16) hj17
theorem dX2_findLosing_0 : decode cX2_findLosing 0 = .ok (.iconst 0, 1) := by decide +kernel
theorem dX2_findLosing_1 : decode cX2_findLosing 1 = .ok (.istore_n 1, 1) := by decide +kernel
theorem dX2_findLosing_2 : decode cX2_findLosing 2 = .ok (.iconst 0, 1) := by decide +kernel
theorem dX2_findLosing_3 : decode cX2_findLosing 3 = .ok (.istore_n 2, 1) := by decide +kernel
theorem dX2_findLosing_4 : decode cX2_findLosing 4 = .ok (.iload_n 2, 1) := by decide +kernel
theorem dX2_findLosing_5 : decode cX2_findLosing 5 = .ok (.bipush 20, 2) := by decide +kernel
theorem dX2_findLosing_7 : decode cX2_findLosing 7 = .ok (.if_icmp .gt 106, 3) := by decide +kernel
theorem dX2_findLosing_10 : decode cX2_findLosing 10 = .ok (.iload_n 2, 1) := by decide +kernel
theorem dX2_findLosing_11 : decode cX2_findLosing 11 = .ok (.ifCond .le 16, 3) := by decide +kernel
theorem dX2_findLosing_14 : decode cX2_findLosing 14 = .ok (.aload_n 0, 1) := by decide +kernel
theorem dX2_findLosing_15 : decode cX2_findLosing 15 = .ok (.getfield 9, 3) := by decide +kernel
theorem dX2_findLosing_18 : decode cX2_findLosing 18 = .ok (.iload_n 2, 1) := by decide +kernel
theorem dX2_findLosing_19 : decode cX2_findLosing 19 = .ok (.iconst 1, 1) := by decide +kernel
theorem dX2_findLosing_20 : decode cX2_findLosing 20 = .ok (.isub, 1) := by decide +kernel
theorem dX2_findLosing_21 : decode cX2_findLosing 21 = .ok (.iaload, 1) := by decide +kernel
theorem dX2_findLosing_22 : decode cX2_findLosing 22 = .ok (.iconst 1, 1) := by decide +kernel
theorem dX2_findLosing_23 : decode cX2_findLosing 23 = .ok (.ishl, 1) := by decide +kernel
theorem dX2_findLosing_24 : decode cX2_findLosing 24 = .ok (.goto 4, 3) := by decide +kernel
theorem dX2_findLosing_27 : decode cX2_findLosing 27 = .ok (.iconst 0, 1) := by decide +kernel
theorem dX2_findLosing_28 : decode cX2_findLosing 28 = .ok (.istore_n 3, 1) := by decide +kernel
theorem dX2_findLosing_29 : decode cX2_findLosing 29 = .ok (.iconst 0, 1) := by decide +kernel
theorem dX2_findLosing_30 : decode cX2_findLosing 30 = .ok (.istore 4, 2) := by decide +kernel
theorem dX2_findLosing_32 : decode cX2_findLosing 32 = .ok (.iload 4, 2) := by decide +kernel
theorem dX2_findLosing_34 : decode cX2_findLosing 34 = .ok (.bipush 20, 2) := by decide +kernel
theorem dX2_findLosing_36 : decode cX2_findLosing 36 = .ok (.if_icmp .gt 62, 3) := by decide +kernel
theorem dX2_findLosing_39 : decode cX2_findLosing 39 = .ok (.aload_n 0, 1) := by decide +kernel
theorem dX2_findLosing_40 : decode cX2_findLosing 40 = .ok (.getfield 9, 3) := by decide +kernel
theorem dX2_findLosing_43 : decode cX2_findLosing 43 = .ok (.iload_n 2, 1) := by decide +kernel
theorem dX2_findLosing_44 : decode cX2_findLosing 44 = .ok (.iaload, 1) := by decide +kernel
theorem dX2_findLosing_45 : decode cX2_findLosing 45 = .ok (.ifCond .ne 15, 3) := by decide +kernel
theorem dX2_findLosing_48 : decode cX2_findLosing 48 = .ok (.iload_n 1, 1) := by decide +kernel
theorem dX2_findLosing_49 : decode cX2_findLosing 49 = .ok (.iload_n 3, 1) := by decide +kernel
theorem dX2_findLosing_50 : decode cX2_findLosing 50 = .ok (.ior, 1) := by decide +kernel
theorem dX2_findLosing_51 : decode cX2_findLosing 51 = .ok (.iload 4, 2) := by decide +kernel
theorem dX2_findLosing_53 : decode cX2_findLosing 53 = .ok (.ishr, 1) := by decide +kernel
theorem dX2_findLosing_54 : decode cX2_findLosing 54 = .ok (.iconst 1, 1) := by decide +kernel
theorem dX2_findLosing_55 : decode cX2_findLosing 55 = .ok (.iand, 1) := by decide +kernel
theorem dX2_findLosing_56 : decode cX2_findLosing 56 = .ok (.iconst 1, 1) := by decide +kernel
theorem dX2_findLosing_57 : decode cX2_findLosing 57 = .ok (.if_icmp .ne 7, 3) := by decide +kernel
theorem dX2_findLosing_60 : decode cX2_findLosing 60 = .ok (.iconst 1, 1) := by decide +kernel
theorem dX2_findLosing_61 : decode cX2_findLosing 61 = .ok (.goto 4, 3) := by decide +kernel
theorem dX2_findLosing_64 : decode cX2_findLosing 64 = .ok (.iconst 0, 1) := by decide +kernel
theorem dX2_findLosing_65 : decode cX2_findLosing 65 = .ok (.istore 5, 2) := by decide +kernel
theorem dX2_findLosing_67 : decode cX2_findLosing 67 = .ok (.iload 5, 2) := by decide +kernel
theorem dX2_findLosing_69 : decode cX2_findLosing 69 = .ok (.ifCond .ne 23, 3) := by decide +kernel
theorem dX2_findLosing_72 : decode cX2_findLosing 72 = .ok (.iload_n 2, 1) := by decide +kernel
theorem dX2_findLosing_73 : decode cX2_findLosing 73 = .ok (.iload 4, 2) := by decide +kernel
theorem dX2_findLosing_75 : decode cX2_findLosing 75 = .ok (.iadd, 1) := by decide +kernel
theorem dX2_findLosing_76 : decode cX2_findLosing 76 = .ok (.ifCond .le 16, 3) := by decide +kernel
theorem dX2_findLosing_79 : decode cX2_findLosing 79 = .ok (.aload_n 0, 1) := by decide +kernel
theorem dX2_findLosing_80 : decode cX2_findLosing 80 = .ok (.getfield 9, 3) := by decide +kernel
theorem dX2_findLosing_83 : decode cX2_findLosing 83 = .ok (.iload_n 2, 1) := by decide +kernel
theorem dX2_findLosing_84 : decode cX2_findLosing 84 = .ok (.dup2, 1) := by decide +kernel
theorem dX2_findLosing_85 : decode cX2_findLosing 85 = .ok (.iaload, 1) := by decide +kernel
theorem dX2_findLosing_86 : decode cX2_findLosing 86 = .ok (.iconst 1, 1) := by decide +kernel
theorem dX2_findLosing_87 : decode cX2_findLosing 87 = .ok (.iload 4, 2) := by decide +kernel
theorem dX2_findLosing_89 : decode cX2_findLosing 89 = .ok (.ishl, 1) := by decide +kernel
theorem dX2_findLosing_90 : decode cX2_findLosing 90 = .ok (.ior, 1) := by decide +kernel
theorem dX2_findLosing_91 : decode cX2_findLosing 91 = .ok (.iastore, 1) := by decide +kernel
theorem dX2_findLosing_92 : decode cX2_findLosing 92 = .ok (.iinc 4 1, 3) := by decide +kernel
theorem dX2_findLosing_95 : decode cX2_findLosing 95 = .ok (.goto (-63), 3) := by decide +kernel
theorem dX2_findLosing_98 : decode cX2_findLosing 98 = .ok (.iload_n 1, 1) := by decide +kernel
theorem dX2_findLosing_99 : decode cX2_findLosing 99 = .ok (.aload_n 0, 1) := by decide +kernel
theorem dX2_findLosing_100 : decode cX2_findLosing 100 = .ok (.getfield 9, 3) := by decide +kernel
theorem dX2_findLosing_103 : decode cX2_findLosing 103 = .ok (.iload_n 2, 1) := by decide +kernel
theorem dX2_findLosing_104 : decode cX2_findLosing 104 = .ok (.iaload, 1) := by decide +kernel
theorem dX2_findLosing_105 : decode cX2_findLosing 105 = .ok (.ior, 1) := by decide +kernel
theorem dX2_findLosing_106 : decode cX2_findLosing 106 = .ok (.istore_n 1, 1) := by decide +kernel
theorem dX2_findLosing_107 : decode cX2_findLosing 107 = .ok (.iinc 2 1, 3) := by decide +kernel
theorem dX2_findLosing_110 : decode cX2_findLosing 110 = .ok (.goto (-106), 3) := by decide +kernel
theorem dX2_findLosing_113 : decode cX2_findLosing 113 = .ok (.return_, 1) := by decide +kernel
theorem s_X2_findLosing_32 {l1_9 l2_10 l3_11 : Int} {q : xW} {k : Int → xW → Option (xW)} (hk : ∀ (l4_31 : Int) (s32 : xW), k l4_31 s32 = some q → xG 0 0 0 mX2_findLosing 98 [vR 105, vI l1_9, vI l2_10, vI l3_11, vI l4_31, vX] [] 155 s32 (xR0 q)) : ∀ (f : Nat) (l4_12 : Int) (s13 : xW), F_X2_findLosing_32 l1_9 l2_10 l3_11 f l4_12 s13 k = some q → xG 0 0 0 mX2_findLosing 32 [vR 105, vI l1_9, vI l2_10, vI l3_11, vI l4_12, vX] [] 155 s13 (xR0 q) := by
  intro f
  induction f with
  | zero => intro l4_12 s13 h; cases h
  | succ f ih =>
    intro l4_12 s13 h
    unfold F_X2_findLosing_32 at h
    refine g_il dX2_findLosing_32 rfl ?_
    refine g_bi dX2_findLosing_34 (by decide) ?_
    refine g_wgt dX2_findLosing_36 (tgt := 98) rfl rfl (xw_id (by decide)) (fun q14 => ?_) (fun q14 => ?_)
    · replace h := xif_f q14 h
      exact hk l4_12 s13 h
    · replace h := xif_t q14 h
      refine g_aln dX2_findLosing_39 rfl rfl (by decide) ?_
      refine g_getC 106 dX2_findLosing_40 fl_X2_9 rfl (by decide) ?_
      refine g_iln dX2_findLosing_43 rfl rfl ?_
      obtain ⟨hg15, h⟩ := xgd_e h
      refine g_iald 21 dX2_findLosing_44 rfl hg15 (by decide) ?_
      obtain ⟨v18, e19, h⟩ := xlt_e h
      have hj20 : xG 0 0 0 mX2_findLosing 65 [vR 105, vI l1_9, vI l2_10, vI l3_11, vI l4_12, vX] [vI v18] 155 s13 (xR0 q) := by
        refine g_ist_5 dX2_findLosing_65 (by decide) rfl ?_
        refine g_il dX2_findLosing_67 rfl ?_
        obtain ⟨j22, ej23, h⟩ := xjn_e h
        have hj24 : ∀ (s21 : xW), j22 s21 = some q → xG 0 0 0 mX2_findLosing 92 [vR 105, vI l1_9, vI l2_10, vI l3_11, vI l4_12, vX] [] 155 s21 (xR0 q) := by
          intro s21 h
          rw [ej23] at h
          refine g_inc_4 dX2_findLosing_92 (by decide) rfl ?_
          refine g_goto dX2_findLosing_95 (tgt := 32) rfl ?_
          exact ih (l4_12 + 1) s21 h
        clear ej23
        refine g_yne dX2_findLosing_69 (tgt := 92) rfl rfl (fun q25 => ?_) (fun q25 => ?_)
        · replace h := xif_f q25 h
          refine g_drop_5 ?_
          exact hj24 s13 h
        · replace h := xif_t q25 h
          refine g_iln dX2_findLosing_72 rfl rfl ?_
          refine g_il dX2_findLosing_73 rfl ?_
          refine g_iadd dX2_findLosing_75 ?_
          refine g_yle dX2_findLosing_76 (tgt := 92) rfl rfl (fun q26 => ?_) (fun q26 => ?_)
          · replace h := xif_f q26 h
            refine g_drop_5 ?_
            exact hj24 s13 h
          · replace h := xif_t q26 h
            refine g_aln dX2_findLosing_79 rfl rfl (by decide) ?_
            refine g_getC 106 dX2_findLosing_80 fl_X2_9 rfl (by decide) ?_
            refine g_iln dX2_findLosing_83 rfl rfl ?_
            refine g_dup2 dX2_findLosing_84 rfl rfl ?_
            obtain ⟨hg27, h⟩ := xgd_e h
            refine g_iald 21 dX2_findLosing_85 rfl hg27 (by decide) ?_
            refine g_ic dX2_findLosing_86 ?_
            refine g_il dX2_findLosing_87 rfl ?_
            refine g_ishl dX2_findLosing_89 ?_
            refine g_ior dX2_findLosing_90 ?_
            obtain ⟨hg28, h⟩ := xgd_e h
            obtain ⟨s29, e30, h⟩ := xlt_e h
            refine h_iast 21 dX2_findLosing_91 rfl hg28 (by decide) e30 ?_
            refine g_drop_5 ?_
            exact hj24 s29 h
      refine g_yne dX2_findLosing_45 (tgt := 60) rfl rfl (fun c16 => ?_) (fun c16 => ?_)
      · skip
        refine g_ic dX2_findLosing_60 ?_
        refine g_goto dX2_findLosing_61 (tgt := 65) rfl ?_
        exact g_vq ((if_neg c16).symm.trans e19) hj20
      · skip
        refine g_iln dX2_findLosing_48 rfl rfl ?_
        refine g_iln dX2_findLosing_49 rfl rfl ?_
        refine g_ior dX2_findLosing_50 ?_
        refine g_il dX2_findLosing_51 rfl ?_
        refine g_ishr dX2_findLosing_53 ?_
        refine g_ic dX2_findLosing_54 ?_
        refine g_iand dX2_findLosing_55 ?_
        refine g_ic dX2_findLosing_56 ?_
        refine g_wne dX2_findLosing_57 (tgt := 64) rfl rfl (xw_id (by decide)) (fun c17 => ?_) (fun c17 => ?_)
        · skip
          refine g_ic dX2_findLosing_64 ?_
          exact g_vq (((if_pos c16).trans (if_neg c17)).symm.trans e19) hj20
        · skip
          refine g_ic dX2_findLosing_60 ?_
          refine g_goto dX2_findLosing_61 (tgt := 65) rfl ?_
          exact g_vq (((if_pos c16).trans (if_pos c17)).symm.trans e19) hj20
theorem s_X2_findLosing_4 {q : xW} {k : Int → Int → xW → Option (xW)} (hk : ∀ (l1_38 : Int) (l2_39 : Int) (s40 : xW), k l1_38 l2_39 s40 = some q → xG 0 0 0 mX2_findLosing 113 [vR 105, vI l1_38, vI l2_39, vX, vX, vX] [] 155 s40 (xR0 q)) : ∀ (f : Nat) (l1_1 : Int) (l2_2 : Int) (s3 : xW), F_X2_findLosing_4  f l1_1 l2_2 s3 k = some q → xG 0 0 0 mX2_findLosing 4 [vR 105, vI l1_1, vI l2_2, vX, vX, vX] [] 155 s3 (xR0 q) := by
  intro f
  induction f with
  | zero => intro l1_1 l2_2 s3 h; cases h
  | succ f ih =>
    intro l1_1 l2_2 s3 h
    unfold F_X2_findLosing_4 at h
    refine g_iln dX2_findLosing_4 rfl rfl ?_
    refine g_bi dX2_findLosing_5 (by decide) ?_
    refine g_wgt dX2_findLosing_7 (tgt := 113) rfl rfl (xw_id (by decide)) (fun q4 => ?_) (fun q4 => ?_)
    · replace h := xif_f q4 h
      exact hk l1_1 l2_2 s3 h
    · replace h := xif_t q4 h
      refine g_iln dX2_findLosing_10 rfl rfl ?_
      obtain ⟨j6, ej7, h⟩ := xjn_e h
      have hj8 : ∀ (t5 : Int), j6 t5 = some q → xG 0 0 0 mX2_findLosing 28 [vR 105, vI l1_1, vI l2_2, vX, vX, vX] [vI t5] 155 s3 (xR0 q) := by
        intro t5 h
        rw [ej7] at h
        refine g_istn_3 dX2_findLosing_28 (by decide) rfl ?_
        refine g_ic dX2_findLosing_29 ?_
        refine g_ist_4 dX2_findLosing_30 (by decide) rfl ?_
        refine s_X2_findLosing_32 (fun l4_33 s34 h => ?_) xN _ _ h
        refine g_iln dX2_findLosing_98 rfl rfl ?_
        refine g_aln dX2_findLosing_99 rfl rfl (by decide) ?_
        refine g_getC 106 dX2_findLosing_100 fl_X2_9 rfl (by decide) ?_
        refine g_iln dX2_findLosing_103 rfl rfl ?_
        obtain ⟨hg35, h⟩ := xgd_e h
        refine g_iald 21 dX2_findLosing_104 rfl hg35 (by decide) ?_
        refine g_ior dX2_findLosing_105 ?_
        refine g_istn_1 dX2_findLosing_106 (by decide) rfl ?_
        refine g_inc_2 dX2_findLosing_107 (by decide) rfl ?_
        refine g_goto dX2_findLosing_110 (tgt := 4) rfl ?_
        refine g_drop_3 ?_
        refine g_drop_4 ?_
        exact ih (xor' l1_1 (s34 106 l2_2)) (l2_2 + 1) s34 h
      clear ej7
      refine g_yle dX2_findLosing_11 (tgt := 27) rfl rfl (fun q36 => ?_) (fun q36 => ?_)
      · replace h := xif_f q36 h
        refine g_ic dX2_findLosing_27 ?_
        exact hj8 0 h
      · replace h := xif_t q36 h
        refine g_aln dX2_findLosing_14 rfl rfl (by decide) ?_
        refine g_getC 106 dX2_findLosing_15 fl_X2_9 rfl (by decide) ?_
        refine g_iln dX2_findLosing_18 rfl rfl ?_
        refine g_ic dX2_findLosing_19 ?_
        refine g_isub dX2_findLosing_20 ?_
        obtain ⟨hg37, h⟩ := xgd_e h
        refine g_iald 21 dX2_findLosing_21 rfl hg37 (by decide) ?_
        refine g_ic dX2_findLosing_22 ?_
        refine g_ishl dX2_findLosing_23 ?_
        refine g_goto dX2_findLosing_24 (tgt := 28) rfl ?_
        exact hj8 (xshl (s3 106 (l2_2 - 1)) 1) h
theorem s_X2_findLosing {s0 : xW} {q : xW} (h : F_X2_findLosing  s0 = some q) : xC 0 0 0 mX2_findLosing [vR 105] 155 s0 (xR0 q) := by
  refine xC.of [vR 105, vX, vX, vX, vX, vX] (by decide +kernel) (Nat.le_of_ble_eq_true rfl) rfl ?_
  unfold F_X2_findLosing at h
  refine g_ic dX2_findLosing_0 ?_
  refine g_istn_1 dX2_findLosing_1 (by decide) rfl ?_
  refine g_ic dX2_findLosing_2 ?_
  refine g_istn_2 dX2_findLosing_3 (by decide) rfl ?_
  refine s_X2_findLosing_4 (fun l1_41 l2_42 s43 h => ?_) xN _ _ _ h
  exact g_rV rfl dX2_findLosing_113 h
theorem dX2_loses_0 : decode cX2_loses 0 = .ok (.aload_n 0, 1) := by decide +kernel
theorem dX2_loses_1 : decode cX2_loses 1 = .ok (.getfield 13, 3) := by decide +kernel
theorem dX2_loses_4 : decode cX2_loses 4 = .ok (.ifCond .ne 12, 3) := by decide +kernel
theorem dX2_loses_7 : decode cX2_loses 7 = .ok (.aload_n 0, 1) := by decide +kernel
theorem dX2_loses_8 : decode cX2_loses 8 = .ok (.invokevirtual 17, 3) := by decide +kernel
theorem dX2_loses_11 : decode cX2_loses 11 = .ok (.aload_n 0, 1) := by decide +kernel
theorem dX2_loses_12 : decode cX2_loses 12 = .ok (.iconst 1, 1) := by decide +kernel
theorem dX2_loses_13 : decode cX2_loses 13 = .ok (.putfield 13, 3) := by decide +kernel
theorem dX2_loses_16 : decode cX2_loses 16 = .ok (.aload_n 0, 1) := by decide +kernel
theorem dX2_loses_17 : decode cX2_loses 17 = .ok (.getfield 9, 3) := by decide +kernel
theorem dX2_loses_20 : decode cX2_loses 20 = .ok (.iload_n 1, 1) := by decide +kernel
theorem dX2_loses_21 : decode cX2_loses 21 = .ok (.iaload, 1) := by decide +kernel
theorem dX2_loses_22 : decode cX2_loses 22 = .ok (.iload_n 2, 1) := by decide +kernel
theorem dX2_loses_23 : decode cX2_loses 23 = .ok (.ishr, 1) := by decide +kernel
theorem dX2_loses_24 : decode cX2_loses 24 = .ok (.iconst 1, 1) := by decide +kernel
theorem dX2_loses_25 : decode cX2_loses 25 = .ok (.iand, 1) := by decide +kernel
theorem dX2_loses_26 : decode cX2_loses 26 = .ok (.iconst 1, 1) := by decide +kernel
theorem dX2_loses_27 : decode cX2_loses 27 = .ok (.if_icmp .ne 7, 3) := by decide +kernel
theorem dX2_loses_30 : decode cX2_loses 30 = .ok (.iconst 1, 1) := by decide +kernel
theorem dX2_loses_31 : decode cX2_loses 31 = .ok (.goto 4, 3) := by decide +kernel
theorem dX2_loses_34 : decode cX2_loses 34 = .ok (.iconst 0, 1) := by decide +kernel
theorem dX2_loses_35 : decode cX2_loses 35 = .ok (.ireturn, 1) := by decide +kernel
theorem s_X2_loses {a1 a2 : Int} {s0 : xW} {q : Int × xW} (h : F_X2_loses a1 a2 s0 = some q) : xC 1 0 0 mX2_loses [vR 105, vI a1, vI a2] 155 s0 (xRv (vI q.1) q.2) := by
  refine xC.of [vR 105, vI a1, vI a2] (by decide +kernel) (Nat.le_of_ble_eq_true rfl) rfl ?_
  unfold F_X2_loses at h
  refine g_aln dX2_loses_0 rfl rfl (by decide) ?_
  refine g_getZ 1 dX2_loses_1 fl_X2_13 rfl rfl ?_
  obtain ⟨j2, ej3, h⟩ := xjn_e h
  have hj4 : ∀ (s1 : xW), j2 s1 = some q → xG 1 0 0 mX2_loses 16 [vR 105, vI a1, vI a2] [] 155 s1 (xRv (vI q.1) q.2) := by
    intro s1 h
    rw [ej3] at h
    refine g_aln dX2_loses_16 rfl rfl (by decide) ?_
    refine g_getC 106 dX2_loses_17 fl_X2_9 rfl (by decide) ?_
    refine g_iln dX2_loses_20 rfl rfl ?_
    obtain ⟨hg5, h⟩ := xgd_e h
    refine g_iald 21 dX2_loses_21 rfl hg5 (by decide) ?_
    refine g_iln dX2_loses_22 rfl rfl ?_
    refine g_ishr dX2_loses_23 ?_
    refine g_ic dX2_loses_24 ?_
    refine g_iand dX2_loses_25 ?_
    refine g_ic dX2_loses_26 ?_
    obtain ⟨v7, e8, h⟩ := xlt_e h
    have hj9 : xG 1 0 0 mX2_loses 35 [vX, vX, vX] [vI v7] 155 s1 (xRv (vI q.1) q.2) := by
      obtain ⟨hg10, h⟩ := xgd_e h
      exact g_rZ rfl dX2_loses_35 hg10 h
    refine g_wne dX2_loses_27 (tgt := 34) rfl rfl (xw_id (by decide)) (fun c6 => ?_) (fun c6 => ?_)
    · skip
      refine g_ic dX2_loses_34 ?_
      refine g_drop_0 ?_
      refine g_drop_1 ?_
      refine g_drop_2 ?_
      exact g_vq ((if_neg c6).symm.trans e8) hj9
    · skip
      refine g_ic dX2_loses_30 ?_
      refine g_goto dX2_loses_31 (tgt := 35) rfl ?_
      refine g_drop_0 ?_
      refine g_drop_1 ?_
      refine g_drop_2 ?_
      exact g_vq ((if_pos c6).symm.trans e8) hj9
  clear ej3
  refine g_yne dX2_loses_4 (tgt := 16) rfl rfl (fun q11 => ?_) (fun q11 => ?_)
  · replace h := xif_f q11 h
    exact hj4 s0 h
  · replace h := xif_t q11 h
    refine g_aln dX2_loses_7 rfl rfl (by decide) ?_
    obtain ⟨s13, e12, h⟩ := xbp_e h
    refine g_cV00 dX2_loses_8 ml_X2_17 rfl (s_X2_findLosing e12) (by decide) rfl ?_
    refine g_aln dX2_loses_11 rfl rfl (by decide) ?_
    refine g_ic dX2_loses_12 ?_
    obtain ⟨s14, e15, h⟩ := xlt_e h
    refine h_putZ 1 dX2_loses_13 fl_X2_13 rfl (by decide) rfl e15 ?_
    exact hj4 s14 h
theorem dX10_forts_0 : decode cX10_forts 0 = .ok (.iload_n 1, 1) := by decide +kernel
theorem dX10_forts_1 : decode cX10_forts 1 = .ok (.ifCond .lt 19, 3) := by decide +kernel
theorem dX10_forts_4 : decode cX10_forts 4 = .ok (.iload_n 1, 1) := by decide +kernel
theorem dX10_forts_5 : decode cX10_forts 5 = .ok (.bipush 20, 2) := by decide +kernel
theorem dX10_forts_7 : decode cX10_forts 7 = .ok (.if_icmp .gt 13, 3) := by decide +kernel
theorem dX10_forts_10 : decode cX10_forts 10 = .ok (.iload_n 2, 1) := by decide +kernel
theorem dX10_forts_11 : decode cX10_forts 11 = .ok (.ifCond .lt 9, 3) := by decide +kernel
theorem dX10_forts_14 : decode cX10_forts 14 = .ok (.iload_n 2, 1) := by decide +kernel
theorem dX10_forts_15 : decode cX10_forts 15 = .ok (.bipush 20, 2) := by decide +kernel
theorem dX10_forts_17 : decode cX10_forts 17 = .ok (.if_icmp .le 5, 3) := by decide +kernel
theorem dX10_forts_20 : decode cX10_forts 20 = .ok (.iconst (-1), 1) := by decide +kernel
theorem dX10_forts_21 : decode cX10_forts 21 = .ok (.ireturn, 1) := by decide +kernel
theorem dX10_forts_22 : decode cX10_forts 22 = .ok (.iload_n 1, 1) := by decide +kernel
theorem dX10_forts_23 : decode cX10_forts 23 = .ok (.ifCond .ne 10, 3) := by decide +kernel
theorem dX10_forts_26 : decode cX10_forts 26 = .ok (.iload_n 2, 1) := by decide +kernel
theorem dX10_forts_27 : decode cX10_forts 27 = .ok (.ifCond .ne 6, 3) := by decide +kernel
theorem dX10_forts_30 : decode cX10_forts 30 = .ok (.bipush (-2), 2) := by decide +kernel
theorem dX10_forts_32 : decode cX10_forts 32 = .ok (.ireturn, 1) := by decide +kernel
theorem dX10_forts_33 : decode cX10_forts 33 = .ok (.aload_n 0, 1) := by decide +kernel
theorem dX10_forts_34 : decode cX10_forts 34 = .ok (.getfield 19, 3) := by decide +kernel
theorem dX10_forts_37 : decode cX10_forts 37 = .ok (.invokevirtual 254, 3) := by decide +kernel
theorem dX10_forts_40 : decode cX10_forts 40 = .ok (.iconst 0, 1) := by decide +kernel
theorem dX10_forts_41 : decode cX10_forts 41 = .ok (.istore_n 3, 1) := by decide +kernel
theorem dX10_forts_42 : decode cX10_forts 42 = .ok (.iload_n 3, 1) := by decide +kernel
theorem dX10_forts_43 : decode cX10_forts 43 = .ok (.iload_n 1, 1) := by decide +kernel
theorem dX10_forts_44 : decode cX10_forts 44 = .ok (.if_icmp .gt 64, 3) := by decide +kernel
theorem dX10_forts_47 : decode cX10_forts 47 = .ok (.iconst 0, 1) := by decide +kernel
theorem dX10_forts_48 : decode cX10_forts 48 = .ok (.istore 4, 2) := by decide +kernel
theorem dX10_forts_50 : decode cX10_forts 50 = .ok (.iload 4, 2) := by decide +kernel
theorem dX10_forts_52 : decode cX10_forts 52 = .ok (.iload_n 2, 1) := by decide +kernel
theorem dX10_forts_53 : decode cX10_forts 53 = .ok (.if_icmp .gt 49, 3) := by decide +kernel
theorem dX10_forts_56 : decode cX10_forts 56 = .ok (.iload_n 3, 1) := by decide +kernel
theorem dX10_forts_57 : decode cX10_forts 57 = .ok (.iload 4, 2) := by decide +kernel
theorem dX10_forts_59 : decode cX10_forts 59 = .ok (.invokestatic 373, 3) := by decide +kernel
theorem dX10_forts_62 : decode cX10_forts 62 = .ok (.ifCond .eq 34, 3) := by decide +kernel
theorem dX10_forts_65 : decode cX10_forts 65 = .ok (.aload_n 0, 1) := by decide +kernel
theorem dX10_forts_66 : decode cX10_forts 66 = .ok (.getfield 89, 3) := by decide +kernel
theorem dX10_forts_69 : decode cX10_forts 69 = .ok (.iload_n 1, 1) := by decide +kernel
theorem dX10_forts_70 : decode cX10_forts 70 = .ok (.iload_n 3, 1) := by decide +kernel
theorem dX10_forts_71 : decode cX10_forts 71 = .ok (.isub, 1) := by decide +kernel
theorem dX10_forts_72 : decode cX10_forts 72 = .ok (.iload_n 2, 1) := by decide +kernel
theorem dX10_forts_73 : decode cX10_forts 73 = .ok (.iload 4, 2) := by decide +kernel
theorem dX10_forts_75 : decode cX10_forts 75 = .ok (.isub, 1) := by decide +kernel
theorem dX10_forts_76 : decode cX10_forts 76 = .ok (.invokevirtual 376, 3) := by decide +kernel
theorem dX10_forts_79 : decode cX10_forts 79 = .ok (.ifCond .eq 17, 3) := by decide +kernel
theorem dX10_forts_82 : decode cX10_forts 82 = .ok (.aload_n 0, 1) := by decide +kernel
theorem dX10_forts_83 : decode cX10_forts 83 = .ok (.getfield 19, 3) := by decide +kernel
theorem dX10_forts_86 : decode cX10_forts 86 = .ok (.iload_n 3, 1) := by decide +kernel
theorem dX10_forts_87 : decode cX10_forts 87 = .ok (.i2l, 1) := by decide +kernel
theorem dX10_forts_88 : decode cX10_forts 88 = .ok (.iload 4, 2) := by decide +kernel
theorem dX10_forts_90 : decode cX10_forts 90 = .ok (.i2l, 1) := by decide +kernel
theorem dX10_forts_91 : decode cX10_forts 91 = .ok (.invokevirtual 242, 3) := by decide +kernel
theorem dX10_forts_94 : decode cX10_forts 94 = .ok (.iconst 1, 1) := by decide +kernel
theorem dX10_forts_95 : decode cX10_forts 95 = .ok (.ireturn, 1) := by decide +kernel
theorem dX10_forts_96 : decode cX10_forts 96 = .ok (.iinc 4 1, 3) := by decide +kernel
theorem dX10_forts_99 : decode cX10_forts 99 = .ok (.goto (-49), 3) := by decide +kernel
theorem dX10_forts_102 : decode cX10_forts 102 = .ok (.iinc 3 1, 3) := by decide +kernel
theorem dX10_forts_105 : decode cX10_forts 105 = .ok (.goto (-63), 3) := by decide +kernel
theorem dX10_forts_108 : decode cX10_forts 108 = .ok (.iconst 0, 1) := by decide +kernel
theorem dX10_forts_109 : decode cX10_forts 109 = .ok (.ireturn, 1) := by decide +kernel
theorem s_X10_forts_50 {l1_18 l2_19 l3_20 : Int} {q : Int × xW} {k : Int → xW → Option (Int × xW)} (hk : ∀ (l4_37 : Int) (s38 : xW), k l4_37 s38 = some q → xG 3 0 0 mX10_forts 102 [vR 0, vI l1_18, vI l2_19, vI l3_20, vI l4_37] [] 155 s38 (xRv (vI q.1) q.2)) : ∀ (f : Nat) (l4_21 : Int) (s22 : xW), F_X10_forts_50 l1_18 l2_19 l3_20 f l4_21 s22 k = some q → xG 3 0 0 mX10_forts 50 [vR 0, vI l1_18, vI l2_19, vI l3_20, vI l4_21] [] 155 s22 (xRv (vI q.1) q.2) := by
  intro f
  induction f with
  | zero => intro l4_21 s22 h; cases h
  | succ f ih =>
    intro l4_21 s22 h
    unfold F_X10_forts_50 at h
    refine g_il dX10_forts_50 rfl ?_
    refine g_iln dX10_forts_52 rfl rfl ?_
    refine g_wgt dX10_forts_53 (tgt := 102) rfl rfl rfl (fun q23 => ?_) (fun q23 => ?_)
    · replace h := xif_f q23 h
      exact hk l4_21 s22 h
    · replace h := xif_t q23 h
      refine g_iln dX10_forts_56 rfl rfl ?_
      refine g_il dX10_forts_57 rfl ?_
      obtain ⟨r25, e24, h⟩ := xbp_e h
      refine g_cS2v dX10_forts_59 ml_X10_373 (s_X2_isMove e24) (by decide) rfl ?_
      obtain ⟨j27, ej28, h⟩ := xjn_e h
      have hj29 : ∀ (s26 : xW), j27 s26 = some q → xG 3 0 0 mX10_forts 96 [vR 0, vI l1_18, vI l2_19, vI l3_20, vI l4_21] [] 155 s26 (xRv (vI q.1) q.2) := by
        intro s26 h
        rw [ej28] at h
        refine g_inc_4 dX10_forts_96 (by decide) rfl ?_
        refine g_goto dX10_forts_99 (tgt := 50) rfl ?_
        exact ih (l4_21 + 1) s26 h
      clear ej28
      refine g_yeq dX10_forts_62 (tgt := 96) rfl rfl (fun q30 => ?_) (fun q30 => ?_)
      · replace h := xif_f q30 h
        exact hj29 s22 h
      · replace h := xif_t q30 h
        refine g_aln dX10_forts_65 rfl rfl (by decide) ?_
        refine g_getC 105 dX10_forts_66 fl_X10_89 rfl (by decide) ?_
        refine g_iln dX10_forts_69 rfl rfl ?_
        refine g_iln dX10_forts_70 rfl rfl ?_
        refine g_isub dX10_forts_71 ?_
        refine g_iln dX10_forts_72 rfl rfl ?_
        refine g_il dX10_forts_73 rfl ?_
        refine g_isub dX10_forts_75 ?_
        obtain ⟨r32, s33, e31, h⟩ := xbd_e h
        refine g_cV2v dX10_forts_76 ml_X10_376 rfl (s_X2_loses e31) (by decide) rfl ?_
        refine g_yeq dX10_forts_79 (tgt := 96) rfl rfl (fun q34 => ?_) (fun q34 => ?_)
        · replace h := xif_f q34 h
          exact hj29 s33 h
        · replace h := xif_t q34 h
          refine g_aln dX10_forts_82 rfl rfl (by decide) ?_
          refine g_getC 3 dX10_forts_83 fl_X10_19 rfl (by decide) ?_
          refine g_iln dX10_forts_86 rfl rfl ?_
          refine g_wi2l dX10_forts_87 rfl ?_
          refine g_il dX10_forts_88 rfl ?_
          refine g_wi2l dX10_forts_90 rfl ?_
          obtain ⟨s36, e35, h⟩ := xbp_e h
          refine g_cV20 dX10_forts_91 ml_X10_242 rfl (s_X6_tell_ e35) (by decide) rfl ?_
          refine g_ic dX10_forts_94 ?_
          exact g_rI rfl dX10_forts_95 h
theorem s_X10_forts_42 {l1_13 l2_14 : Int} {q : Int × xW} {k : Int → xW → Option (Int × xW)} (hk : ∀ (l3_41 : Int) (s42 : xW), k l3_41 s42 = some q → xG 3 0 0 mX10_forts 108 [vR 0, vI l1_13, vI l2_14, vI l3_41, vX] [] 155 s42 (xRv (vI q.1) q.2)) : ∀ (f : Nat) (l3_15 : Int) (s16 : xW), F_X10_forts_42 l1_13 l2_14 f l3_15 s16 k = some q → xG 3 0 0 mX10_forts 42 [vR 0, vI l1_13, vI l2_14, vI l3_15, vX] [] 155 s16 (xRv (vI q.1) q.2) := by
  intro f
  induction f with
  | zero => intro l3_15 s16 h; cases h
  | succ f ih =>
    intro l3_15 s16 h
    unfold F_X10_forts_42 at h
    refine g_iln dX10_forts_42 rfl rfl ?_
    refine g_iln dX10_forts_43 rfl rfl ?_
    refine g_wgt dX10_forts_44 (tgt := 108) rfl rfl rfl (fun q17 => ?_) (fun q17 => ?_)
    · replace h := xif_f q17 h
      exact hk l3_15 s16 h
    · replace h := xif_t q17 h
      refine g_ic dX10_forts_47 ?_
      refine g_ist_4 dX10_forts_48 (by decide) rfl ?_
      refine s_X10_forts_50 (fun l4_39 s40 h => ?_) xN _ _ h
      refine g_inc_3 dX10_forts_102 (by decide) rfl ?_
      refine g_goto dX10_forts_105 (tgt := 42) rfl ?_
      refine g_drop_4 ?_
      exact ih (l3_15 + 1) s40 h
theorem s_X10_forts {a1 a2 : Int} {s0 : xW} {q : Int × xW} (h : F_X10_forts a1 a2 s0 = some q) : xC 3 0 0 mX10_forts [vR 0, vI a1, vI a2] 155 s0 (xRv (vI q.1) q.2) := by
  refine xC.of [vR 0, vI a1, vI a2, vX, vX] (by decide +kernel) (Nat.le_of_ble_eq_true rfl) rfl ?_
  unfold F_X10_forts at h
  refine g_iln dX10_forts_0 rfl rfl ?_
  obtain ⟨j1, ej2, h⟩ := xjn_e h
  have hj3 : j1  = some q → xG 3 0 0 mX10_forts 20 [vX, vX, vX, vX, vX] [] 155 s0 (xRv (vI q.1) q.2) := by
    intro  h
    rw [ej2] at h
    refine g_ic dX10_forts_20 ?_
    exact g_rI rfl dX10_forts_21 h
  clear ej2
  refine g_ylt dX10_forts_1 (tgt := 20) rfl rfl (fun q4 => ?_) (fun q4 => ?_)
  · replace h := xif_f q4 h
    refine g_drop_0 ?_
    refine g_drop_1 ?_
    refine g_drop_2 ?_
    exact hj3  h
  · replace h := xif_t q4 h
    refine g_iln dX10_forts_4 rfl rfl ?_
    refine g_bi dX10_forts_5 (by decide) ?_
    refine g_wgt dX10_forts_7 (tgt := 20) rfl rfl (xw_id (by decide)) (fun q5 => ?_) (fun q5 => ?_)
    · replace h := xif_f q5 h
      refine g_drop_0 ?_
      refine g_drop_1 ?_
      refine g_drop_2 ?_
      exact hj3  h
    · replace h := xif_t q5 h
      refine g_iln dX10_forts_10 rfl rfl ?_
      refine g_ylt dX10_forts_11 (tgt := 20) rfl rfl (fun q6 => ?_) (fun q6 => ?_)
      · replace h := xif_f q6 h
        refine g_drop_0 ?_
        refine g_drop_1 ?_
        refine g_drop_2 ?_
        exact hj3  h
      · replace h := xif_t q6 h
        refine g_iln dX10_forts_14 rfl rfl ?_
        refine g_bi dX10_forts_15 (by decide) ?_
        refine g_wle dX10_forts_17 (tgt := 22) rfl rfl (xw_id (by decide)) (fun q7 => ?_) (fun q7 => ?_)
        · replace h := xif_f q7 h
          refine g_iln dX10_forts_22 rfl rfl ?_
          obtain ⟨j8, ej9, h⟩ := xjn_e h
          have hj10 : j8  = some q → xG 3 0 0 mX10_forts 33 [vR 0, vI a1, vI a2, vX, vX] [] 155 s0 (xRv (vI q.1) q.2) := by
            intro  h
            rw [ej9] at h
            refine g_aln dX10_forts_33 rfl rfl (by decide) ?_
            refine g_getC 3 dX10_forts_34 fl_X10_19 rfl (by decide) ?_
            obtain ⟨s12, e11, h⟩ := xbp_e h
            refine g_cV00 dX10_forts_37 ml_X10_254 rfl (s_X6_clear e11) (by decide) rfl ?_
            refine g_ic dX10_forts_40 ?_
            refine g_istn_3 dX10_forts_41 (by decide) rfl ?_
            refine s_X10_forts_42 (fun l3_43 s44 h => ?_) xN _ _ h
            refine g_ic dX10_forts_108 ?_
            exact g_rI rfl dX10_forts_109 h
          clear ej9
          refine g_yne dX10_forts_23 (tgt := 33) rfl rfl (fun q45 => ?_) (fun q45 => ?_)
          · replace h := xif_f q45 h
            exact hj10  h
          · replace h := xif_t q45 h
            refine g_iln dX10_forts_26 rfl rfl ?_
            refine g_yne dX10_forts_27 (tgt := 33) rfl rfl (fun q46 => ?_) (fun q46 => ?_)
            · replace h := xif_f q46 h
              exact hj10  h
            · replace h := xif_t q46 h
              refine g_bi dX10_forts_30 (by decide) ?_
              exact g_rI rfl dX10_forts_32 h
        · replace h := xif_t q7 h
          refine g_drop_0 ?_
          refine g_drop_1 ?_
          refine g_drop_2 ?_
          exact hj3  h
theorem dX4_sort_0 : decode cX4_sort 0 = .ok (.iconst 0, 1) := by decide +kernel
theorem dX4_sort_1 : decode cX4_sort 1 = .ok (.istore_n 1, 1) := by decide +kernel
theorem dX4_sort_2 : decode cX4_sort 2 = .ok (.iload_n 1, 1) := by decide +kernel
theorem dX4_sort_3 : decode cX4_sort 3 = .ok (.aload_n 0, 1) := by decide +kernel
theorem dX4_sort_4 : decode cX4_sort 4 = .ok (.getfield 9, 3) := by decide +kernel
theorem dX4_sort_7 : decode cX4_sort 7 = .ok (.if_icmp .ge 64, 3) := by decide +kernel
theorem dX4_sort_10 : decode cX4_sort 10 = .ok (.iload_n 1, 1) := by decide +kernel
theorem dX4_sort_11 : decode cX4_sort 11 = .ok (.istore_n 2, 1) := by decide +kernel
theorem dX4_sort_12 : decode cX4_sort 12 = .ok (.iload_n 2, 1) := by decide +kernel
theorem dX4_sort_13 : decode cX4_sort 13 = .ok (.ifCond .le 45, 3) := by decide +kernel
theorem dX4_sort_16 : decode cX4_sort 16 = .ok (.aload_n 0, 1) := by decide +kernel
theorem dX4_sort_17 : decode cX4_sort 17 = .ok (.getfield 22, 3) := by decide +kernel
theorem dX4_sort_20 : decode cX4_sort 20 = .ok (.aload_n 0, 1) := by decide +kernel
theorem dX4_sort_21 : decode cX4_sort 21 = .ok (.getfield 28, 3) := by decide +kernel
theorem dX4_sort_24 : decode cX4_sort 24 = .ok (.iload_n 2, 1) := by decide +kernel
theorem dX4_sort_25 : decode cX4_sort 25 = .ok (.iconst 1, 1) := by decide +kernel
theorem dX4_sort_26 : decode cX4_sort 26 = .ok (.isub, 1) := by decide +kernel
theorem dX4_sort_27 : decode cX4_sort 27 = .ok (.iaload, 1) := by decide +kernel
theorem dX4_sort_28 : decode cX4_sort 28 = .ok (.iaload, 1) := by decide +kernel
theorem dX4_sort_29 : decode cX4_sort 29 = .ok (.aload_n 0, 1) := by decide +kernel
theorem dX4_sort_30 : decode cX4_sort 30 = .ok (.getfield 22, 3) := by decide +kernel
theorem dX4_sort_33 : decode cX4_sort 33 = .ok (.iload_n 1, 1) := by decide +kernel
theorem dX4_sort_34 : decode cX4_sort 34 = .ok (.iaload, 1) := by decide +kernel
theorem dX4_sort_35 : decode cX4_sort 35 = .ok (.if_icmp .le 23, 3) := by decide +kernel
theorem dX4_sort_38 : decode cX4_sort 38 = .ok (.aload_n 0, 1) := by decide +kernel
theorem dX4_sort_39 : decode cX4_sort 39 = .ok (.getfield 28, 3) := by decide +kernel
theorem dX4_sort_42 : decode cX4_sort 42 = .ok (.iload_n 2, 1) := by decide +kernel
theorem dX4_sort_43 : decode cX4_sort 43 = .ok (.aload_n 0, 1) := by decide +kernel
theorem dX4_sort_44 : decode cX4_sort 44 = .ok (.getfield 28, 3) := by decide +kernel
theorem dX4_sort_47 : decode cX4_sort 47 = .ok (.iload_n 2, 1) := by decide +kernel
theorem dX4_sort_48 : decode cX4_sort 48 = .ok (.iconst 1, 1) := by decide +kernel
theorem dX4_sort_49 : decode cX4_sort 49 = .ok (.isub, 1) := by decide +kernel
theorem dX4_sort_50 : decode cX4_sort 50 = .ok (.iaload, 1) := by decide +kernel
theorem dX4_sort_51 : decode cX4_sort 51 = .ok (.iastore, 1) := by decide +kernel
theorem dX4_sort_52 : decode cX4_sort 52 = .ok (.iinc 2 (-1), 3) := by decide +kernel
theorem dX4_sort_55 : decode cX4_sort 55 = .ok (.goto (-43), 3) := by decide +kernel
theorem dX4_sort_58 : decode cX4_sort 58 = .ok (.aload_n 0, 1) := by decide +kernel
theorem dX4_sort_59 : decode cX4_sort 59 = .ok (.getfield 28, 3) := by decide +kernel
theorem dX4_sort_62 : decode cX4_sort 62 = .ok (.iload_n 2, 1) := by decide +kernel
theorem dX4_sort_63 : decode cX4_sort 63 = .ok (.iload_n 1, 1) := by decide +kernel
theorem dX4_sort_64 : decode cX4_sort 64 = .ok (.iastore, 1) := by decide +kernel
theorem dX4_sort_65 : decode cX4_sort 65 = .ok (.iinc 1 1, 3) := by decide +kernel
theorem dX4_sort_68 : decode cX4_sort 68 = .ok (.goto (-66), 3) := by decide +kernel
theorem dX4_sort_71 : decode cX4_sort 71 = .ok (.return_, 1) := by decide +kernel
theorem s_X4_sort_12 {l1_4 : Int} {q : xW} {k : Int → xW → Option (xW)} (hk : ∀ (l2_16 : Int) (s17 : xW), k l2_16 s17 = some q → xG 0 0 0 mX4_sort 58 [vR 92, vI l1_4, vI l2_16] [] 155 s17 (xR0 q)) : ∀ (f : Nat) (l2_5 : Int) (s6 : xW), F_X4_sort_12 l1_4 f l2_5 s6 k = some q → xG 0 0 0 mX4_sort 12 [vR 92, vI l1_4, vI l2_5] [] 155 s6 (xR0 q) := by
  intro f
  induction f with
  | zero => intro l2_5 s6 h; cases h
  | succ f ih =>
    intro l2_5 s6 h
    unfold F_X4_sort_12 at h
    refine g_iln dX4_sort_12 rfl rfl ?_
    refine g_yle dX4_sort_13 (tgt := 58) rfl rfl (fun q7 => ?_) (fun q7 => ?_)
    · replace h := xif_f q7 h
      exact hk l2_5 s6 h
    · replace h := xif_t q7 h
      refine g_aln dX4_sort_16 rfl rfl (by decide) ?_
      refine g_getC 95 dX4_sort_17 fl_X4_22 rfl (by decide) ?_
      refine g_aln dX4_sort_20 rfl rfl (by decide) ?_
      refine g_getC 97 dX4_sort_21 fl_X4_28 rfl (by decide) ?_
      refine g_iln dX4_sort_24 rfl rfl ?_
      refine g_ic dX4_sort_25 ?_
      refine g_isub dX4_sort_26 ?_
      obtain ⟨hg8, h⟩ := xgd_e h
      refine g_iald 8 dX4_sort_27 rfl hg8 (by decide) ?_
      obtain ⟨hg9, h⟩ := xgd_e h
      refine g_iald 8 dX4_sort_28 rfl hg9 (by decide) ?_
      refine g_aln dX4_sort_29 rfl rfl (by decide) ?_
      refine g_getC 95 dX4_sort_30 fl_X4_22 rfl (by decide) ?_
      refine g_iln dX4_sort_33 rfl rfl ?_
      obtain ⟨hg10, h⟩ := xgd_e h
      refine g_iald 8 dX4_sort_34 rfl hg10 (by decide) ?_
      refine g_wle dX4_sort_35 (tgt := 58) rfl rfl rfl (fun q11 => ?_) (fun q11 => ?_)
      · replace h := xif_f q11 h
        exact hk l2_5 s6 h
      · replace h := xif_t q11 h
        refine g_aln dX4_sort_38 rfl rfl (by decide) ?_
        refine g_getC 97 dX4_sort_39 fl_X4_28 rfl (by decide) ?_
        refine g_iln dX4_sort_42 rfl rfl ?_
        refine g_aln dX4_sort_43 rfl rfl (by decide) ?_
        refine g_getC 97 dX4_sort_44 fl_X4_28 rfl (by decide) ?_
        refine g_iln dX4_sort_47 rfl rfl ?_
        refine g_ic dX4_sort_48 ?_
        refine g_isub dX4_sort_49 ?_
        obtain ⟨hg12, h⟩ := xgd_e h
        refine g_iald 8 dX4_sort_50 rfl hg12 (by decide) ?_
        obtain ⟨hg13, h⟩ := xgd_e h
        obtain ⟨s14, e15, h⟩ := xlt_e h
        refine h_iast 8 dX4_sort_51 rfl hg13 (by decide) e15 ?_
        refine g_inc_2 dX4_sort_52 (by decide) rfl ?_
        refine g_goto dX4_sort_55 (tgt := 12) rfl ?_
        exact ih (l2_5 + (-1)) s14 h
theorem s_X4_sort_2 {q : xW} {k : Int → xW → Option (xW)} (hk : ∀ (l1_23 : Int) (s24 : xW), k l1_23 s24 = some q → xG 0 0 0 mX4_sort 71 [vR 92, vI l1_23, vX] [] 155 s24 (xR0 q)) : ∀ (f : Nat) (l1_1 : Int) (s2 : xW), F_X4_sort_2  f l1_1 s2 k = some q → xG 0 0 0 mX4_sort 2 [vR 92, vI l1_1, vX] [] 155 s2 (xR0 q) := by
  intro f
  induction f with
  | zero => intro l1_1 s2 h; cases h
  | succ f ih =>
    intro l1_1 s2 h
    unfold F_X4_sort_2 at h
    refine g_iln dX4_sort_2 rfl rfl ?_
    refine g_aln dX4_sort_3 rfl rfl (by decide) ?_
    refine g_getI 0 dX4_sort_4 fl_X4_9 rfl rfl ?_
    refine g_wge dX4_sort_7 (tgt := 71) rfl rfl rfl (fun q3 => ?_) (fun q3 => ?_)
    · replace h := xif_f q3 h
      exact hk l1_1 s2 h
    · replace h := xif_t q3 h
      refine g_iln dX4_sort_10 rfl rfl ?_
      refine g_istn_2 dX4_sort_11 (by decide) rfl ?_
      refine s_X4_sort_12 (fun l2_18 s19 h => ?_) xN _ _ h
      refine g_aln dX4_sort_58 rfl rfl (by decide) ?_
      refine g_getC 97 dX4_sort_59 fl_X4_28 rfl (by decide) ?_
      refine g_iln dX4_sort_62 rfl rfl ?_
      refine g_iln dX4_sort_63 rfl rfl ?_
      obtain ⟨hg20, h⟩ := xgd_e h
      obtain ⟨s21, e22, h⟩ := xlt_e h
      refine h_iast 8 dX4_sort_64 rfl hg20 (by decide) e22 ?_
      refine g_inc_1 dX4_sort_65 (by decide) rfl ?_
      refine g_goto dX4_sort_68 (tgt := 2) rfl ?_
      refine g_drop_2 ?_
      exact ih (l1_1 + 1) s21 h
theorem s_X4_sort {s0 : xW} {q : xW} (h : F_X4_sort  s0 = some q) : xC 0 0 0 mX4_sort [vR 92] 155 s0 (xR0 q) := by
  refine xC.of [vR 92, vX, vX] (by decide +kernel) (Nat.le_of_ble_eq_true rfl) rfl ?_
  unfold F_X4_sort at h
  refine g_ic dX4_sort_0 ?_
  refine g_istn_1 dX4_sort_1 (by decide) rfl ?_
  refine s_X4_sort_2 (fun l1_25 s26 h => ?_) xN _ _ h
  exact g_rV rfl dX4_sort_71 h
theorem dX4_shareOut_0 : decode cX4_shareOut 0 = .ok (.iconst 0, 1) := by decide +kernel
theorem dX4_shareOut_1 : decode cX4_shareOut 1 = .ok (.istore_n 1, 1) := by decide +kernel
theorem dX4_shareOut_2 : decode cX4_shareOut 2 = .ok (.iconst 0, 1) := by decide +kernel
theorem dX4_shareOut_3 : decode cX4_shareOut 3 = .ok (.istore_n 2, 1) := by decide +kernel
theorem dX4_shareOut_4 : decode cX4_shareOut 4 = .ok (.iload_n 2, 1) := by decide +kernel
theorem dX4_shareOut_5 : decode cX4_shareOut 5 = .ok (.aload_n 0, 1) := by decide +kernel
theorem dX4_shareOut_6 : decode cX4_shareOut 6 = .ok (.getfield 9, 3) := by decide +kernel
theorem dX4_shareOut_9 : decode cX4_shareOut 9 = .ok (.if_icmp .ge 77, 3) := by decide +kernel
theorem dX4_shareOut_12 : decode cX4_shareOut 12 = .ok (.aload_n 0, 1) := by decide +kernel
theorem dX4_shareOut_13 : decode cX4_shareOut 13 = .ok (.getfield 28, 3) := by decide +kernel
theorem dX4_shareOut_16 : decode cX4_shareOut 16 = .ok (.iload_n 2, 1) := by decide +kernel
theorem dX4_shareOut_17 : decode cX4_shareOut 17 = .ok (.iaload, 1) := by decide +kernel
theorem dX4_shareOut_18 : decode cX4_shareOut 18 = .ok (.istore_n 3, 1) := by decide +kernel
theorem dX4_shareOut_19 : decode cX4_shareOut 19 = .ok (.iconst 0, 1) := by decide +kernel
theorem dX4_shareOut_20 : decode cX4_shareOut 20 = .ok (.istore 4, 2) := by decide +kernel
theorem dX4_shareOut_22 : decode cX4_shareOut 22 = .ok (.iload 4, 2) := by decide +kernel
theorem dX4_shareOut_24 : decode cX4_shareOut 24 = .ok (.iload_n 1, 1) := by decide +kernel
theorem dX4_shareOut_25 : decode cX4_shareOut 25 = .ok (.if_icmp .ge 25, 3) := by decide +kernel
theorem dX4_shareOut_28 : decode cX4_shareOut 28 = .ok (.aload_n 0, 1) := by decide +kernel
theorem dX4_shareOut_29 : decode cX4_shareOut 29 = .ok (.getfield 34, 3) := by decide +kernel
theorem dX4_shareOut_32 : decode cX4_shareOut 32 = .ok (.iload 4, 2) := by decide +kernel
theorem dX4_shareOut_34 : decode cX4_shareOut 34 = .ok (.iaload, 1) := by decide +kernel
theorem dX4_shareOut_35 : decode cX4_shareOut 35 = .ok (.aload_n 0, 1) := by decide +kernel
theorem dX4_shareOut_36 : decode cX4_shareOut 36 = .ok (.getfield 22, 3) := by decide +kernel
theorem dX4_shareOut_39 : decode cX4_shareOut 39 = .ok (.iload_n 3, 1) := by decide +kernel
theorem dX4_shareOut_40 : decode cX4_shareOut 40 = .ok (.iaload, 1) := by decide +kernel
theorem dX4_shareOut_41 : decode cX4_shareOut 41 = .ok (.if_icmp .le 9, 3) := by decide +kernel
theorem dX4_shareOut_44 : decode cX4_shareOut 44 = .ok (.iinc 4 1, 3) := by decide +kernel
theorem dX4_shareOut_47 : decode cX4_shareOut 47 = .ok (.goto (-25), 3) := by decide +kernel
theorem dX4_shareOut_50 : decode cX4_shareOut 50 = .ok (.iload_n 1, 1) := by decide +kernel
theorem dX4_shareOut_51 : decode cX4_shareOut 51 = .ok (.iload 4, 2) := by decide +kernel
theorem dX4_shareOut_53 : decode cX4_shareOut 53 = .ok (.iconst 1, 1) := by decide +kernel
theorem dX4_shareOut_54 : decode cX4_shareOut 54 = .ok (.iadd, 1) := by decide +kernel
theorem dX4_shareOut_55 : decode cX4_shareOut 55 = .ok (.invokestatic 47, 3) := by decide +kernel
theorem dX4_shareOut_58 : decode cX4_shareOut 58 = .ok (.istore_n 1, 1) := by decide +kernel
theorem dX4_shareOut_59 : decode cX4_shareOut 59 = .ok (.aload_n 0, 1) := by decide +kernel
theorem dX4_shareOut_60 : decode cX4_shareOut 60 = .ok (.getfield 31, 3) := by decide +kernel
theorem dX4_shareOut_63 : decode cX4_shareOut 63 = .ok (.iload_n 3, 1) := by decide +kernel
theorem dX4_shareOut_64 : decode cX4_shareOut 64 = .ok (.iload 4, 2) := by decide +kernel
theorem dX4_shareOut_66 : decode cX4_shareOut 66 = .ok (.iastore, 1) := by decide +kernel
theorem dX4_shareOut_67 : decode cX4_shareOut 67 = .ok (.aload_n 0, 1) := by decide +kernel
theorem dX4_shareOut_68 : decode cX4_shareOut 68 = .ok (.getfield 34, 3) := by decide +kernel
theorem dX4_shareOut_71 : decode cX4_shareOut 71 = .ok (.iload 4, 2) := by decide +kernel
theorem dX4_shareOut_73 : decode cX4_shareOut 73 = .ok (.aload_n 0, 1) := by decide +kernel
theorem dX4_shareOut_74 : decode cX4_shareOut 74 = .ok (.getfield 25, 3) := by decide +kernel
theorem dX4_shareOut_77 : decode cX4_shareOut 77 = .ok (.iload_n 3, 1) := by decide +kernel
theorem dX4_shareOut_78 : decode cX4_shareOut 78 = .ok (.iaload, 1) := by decide +kernel
theorem dX4_shareOut_79 : decode cX4_shareOut 79 = .ok (.iastore, 1) := by decide +kernel
theorem dX4_shareOut_80 : decode cX4_shareOut 80 = .ok (.iinc 2 1, 3) := by decide +kernel
theorem dX4_shareOut_83 : decode cX4_shareOut 83 = .ok (.goto (-79), 3) := by decide +kernel
theorem dX4_shareOut_86 : decode cX4_shareOut 86 = .ok (.iload_n 1, 1) := by decide +kernel
theorem dX4_shareOut_87 : decode cX4_shareOut 87 = .ok (.ireturn, 1) := by decide +kernel
theorem s_X4_shareOut_22 {s10 : xW} {l1_6 l2_7 l3_8 : Int} {q : Int × xW} {k : Int → Option (Int × xW)} (hk : ∀ (l4_15 : Int), k l4_15 = some q → xG 1 0 0 mX4_shareOut 50 [vR 92, vI l1_6, vI l2_7, vI l3_8, vI l4_15] [] 155 s10 (xRv (vI q.1) q.2)) : ∀ (f : Nat) (l4_9 : Int), F_X4_shareOut_22 l1_6 l2_7 l3_8 s10 f l4_9 k = some q → xG 1 0 0 mX4_shareOut 22 [vR 92, vI l1_6, vI l2_7, vI l3_8, vI l4_9] [] 155 s10 (xRv (vI q.1) q.2) := by
  intro f
  induction f with
  | zero => intro l4_9 h; cases h
  | succ f ih =>
    intro l4_9 h
    unfold F_X4_shareOut_22 at h
    refine g_il dX4_shareOut_22 rfl ?_
    refine g_iln dX4_shareOut_24 rfl rfl ?_
    refine g_wge dX4_shareOut_25 (tgt := 50) rfl rfl rfl (fun q11 => ?_) (fun q11 => ?_)
    · replace h := xif_f q11 h
      exact hk l4_9 h
    · replace h := xif_t q11 h
      refine g_aln dX4_shareOut_28 rfl rfl (by decide) ?_
      refine g_getC 99 dX4_shareOut_29 fl_X4_34 rfl (by decide) ?_
      refine g_il dX4_shareOut_32 rfl ?_
      obtain ⟨hg12, h⟩ := xgd_e h
      refine g_iald 8 dX4_shareOut_34 rfl hg12 (by decide) ?_
      refine g_aln dX4_shareOut_35 rfl rfl (by decide) ?_
      refine g_getC 95 dX4_shareOut_36 fl_X4_22 rfl (by decide) ?_
      refine g_iln dX4_shareOut_39 rfl rfl ?_
      obtain ⟨hg13, h⟩ := xgd_e h
      refine g_iald 8 dX4_shareOut_40 rfl hg13 (by decide) ?_
      refine g_wle dX4_shareOut_41 (tgt := 50) rfl rfl rfl (fun q14 => ?_) (fun q14 => ?_)
      · replace h := xif_f q14 h
        exact hk l4_9 h
      · replace h := xif_t q14 h
        refine g_inc_4 dX4_shareOut_44 (by decide) rfl ?_
        refine g_goto dX4_shareOut_47 (tgt := 22) rfl ?_
        exact ih (l4_9 + 1) h
theorem s_X4_shareOut_4 {q : Int × xW} {k : Int → Int → xW → Option (Int × xW)} (hk : ∀ (l1_24 : Int) (l2_25 : Int) (s26 : xW), k l1_24 l2_25 s26 = some q → xG 1 0 0 mX4_shareOut 86 [vR 92, vI l1_24, vI l2_25, vX, vX] [] 155 s26 (xRv (vI q.1) q.2)) : ∀ (f : Nat) (l1_1 : Int) (l2_2 : Int) (s3 : xW), F_X4_shareOut_4  f l1_1 l2_2 s3 k = some q → xG 1 0 0 mX4_shareOut 4 [vR 92, vI l1_1, vI l2_2, vX, vX] [] 155 s3 (xRv (vI q.1) q.2) := by
  intro f
  induction f with
  | zero => intro l1_1 l2_2 s3 h; cases h
  | succ f ih =>
    intro l1_1 l2_2 s3 h
    unfold F_X4_shareOut_4 at h
    refine g_iln dX4_shareOut_4 rfl rfl ?_
    refine g_aln dX4_shareOut_5 rfl rfl (by decide) ?_
    refine g_getI 0 dX4_shareOut_6 fl_X4_9 rfl rfl ?_
    refine g_wge dX4_shareOut_9 (tgt := 86) rfl rfl rfl (fun q4 => ?_) (fun q4 => ?_)
    · replace h := xif_f q4 h
      exact hk l1_1 l2_2 s3 h
    · replace h := xif_t q4 h
      refine g_aln dX4_shareOut_12 rfl rfl (by decide) ?_
      refine g_getC 97 dX4_shareOut_13 fl_X4_28 rfl (by decide) ?_
      refine g_iln dX4_shareOut_16 rfl rfl ?_
      obtain ⟨hg5, h⟩ := xgd_e h
      refine g_iald 8 dX4_shareOut_17 rfl hg5 (by decide) ?_
      refine g_istn_3 dX4_shareOut_18 (by decide) rfl ?_
      refine g_ic dX4_shareOut_19 ?_
      refine g_ist_4 dX4_shareOut_20 (by decide) rfl ?_
      refine s_X4_shareOut_22 (fun l4_16 h => ?_) xN _ h
      refine g_iln dX4_shareOut_50 rfl rfl ?_
      refine g_il dX4_shareOut_51 rfl ?_
      refine g_ic dX4_shareOut_53 ?_
      refine g_iadd dX4_shareOut_54 ?_
      refine g_wmax dX4_shareOut_55 mx_X4_47 rfl rfl (by decide) rfl ?_
      refine g_istn_1 dX4_shareOut_58 (by decide) rfl ?_
      refine g_aln dX4_shareOut_59 rfl rfl (by decide) ?_
      refine g_getC 98 dX4_shareOut_60 fl_X4_31 rfl (by decide) ?_
      refine g_iln dX4_shareOut_63 rfl rfl ?_
      refine g_il dX4_shareOut_64 rfl ?_
      obtain ⟨hg17, h⟩ := xgd_e h
      obtain ⟨s18, e19, h⟩ := xlt_e h
      refine h_iast 8 dX4_shareOut_66 rfl hg17 (by decide) e19 ?_
      refine g_aln dX4_shareOut_67 rfl rfl (by decide) ?_
      refine g_getC 99 dX4_shareOut_68 fl_X4_34 rfl (by decide) ?_
      refine g_il dX4_shareOut_71 rfl ?_
      refine g_aln dX4_shareOut_73 rfl rfl (by decide) ?_
      refine g_getC 96 dX4_shareOut_74 fl_X4_25 rfl (by decide) ?_
      refine g_iln dX4_shareOut_77 rfl rfl ?_
      obtain ⟨hg20, h⟩ := xgd_e h
      refine g_iald 8 dX4_shareOut_78 rfl hg20 (by decide) ?_
      obtain ⟨hg21, h⟩ := xgd_e h
      obtain ⟨s22, e23, h⟩ := xlt_e h
      refine h_iast 8 dX4_shareOut_79 rfl hg21 (by decide) e23 ?_
      refine g_inc_2 dX4_shareOut_80 (by decide) rfl ?_
      refine g_goto dX4_shareOut_83 (tgt := 4) rfl ?_
      refine g_drop_3 ?_
      refine g_drop_4 ?_
      exact ih (max (xw l1_1) (xw (l4_16 + 1))) (l2_2 + 1) s22 h
theorem s_X4_shareOut {s0 : xW} {q : Int × xW} (h : F_X4_shareOut  s0 = some q) : xC 1 0 0 mX4_shareOut [vR 92] 155 s0 (xRv (vI q.1) q.2) := by
  refine xC.of [vR 92, vX, vX, vX, vX] (by decide +kernel) (Nat.le_of_ble_eq_true rfl) rfl ?_
  unfold F_X4_shareOut at h
  refine g_ic dX4_shareOut_0 ?_
  refine g_istn_1 dX4_shareOut_1 (by decide) rfl ?_
  refine g_ic dX4_shareOut_2 ?_
  refine g_istn_2 dX4_shareOut_3 (by decide) rfl ?_
  refine s_X4_shareOut_4 (fun l1_27 l2_28 s29 h => ?_) xN _ _ _ h
  refine g_iln dX4_shareOut_86 rfl rfl ?_
  exact g_rI rfl dX4_shareOut_87 h
theorem dX10_hands_0 : decode cX10_hands 0 = .ok (.aload_n 0, 1) := by decide +kernel
theorem dX10_hands_1 : decode cX10_hands 1 = .ok (.invokevirtual 173, 3) := by decide +kernel
theorem dX10_hands_4 : decode cX10_hands 4 = .ok (.aload_n 0, 1) := by decide +kernel
theorem dX10_hands_5 : decode cX10_hands 5 = .ok (.getfield 75, 3) := by decide +kernel
theorem dX10_hands_8 : decode cX10_hands 8 = .ok (.invokevirtual 251, 3) := by decide +kernel
theorem dX10_hands_11 : decode cX10_hands 11 = .ok (.aload_n 0, 1) := by decide +kernel
theorem dX10_hands_12 : decode cX10_hands 12 = .ok (.getfield 75, 3) := by decide +kernel
theorem dX10_hands_15 : decode cX10_hands 15 = .ok (.invokevirtual 319, 3) := by decide +kernel
theorem dX10_hands_18 : decode cX10_hands 18 = .ok (.istore_n 1, 1) := by decide +kernel
theorem dX10_hands_19 : decode cX10_hands 19 = .ok (.aload_n 0, 1) := by decide +kernel
theorem dX10_hands_20 : decode cX10_hands 20 = .ok (.getfield 19, 3) := by decide +kernel
theorem dX10_hands_23 : decode cX10_hands 23 = .ok (.invokevirtual 254, 3) := by decide +kernel
theorem dX10_hands_26 : decode cX10_hands 26 = .ok (.iconst 0, 1) := by decide +kernel
theorem dX10_hands_27 : decode cX10_hands 27 = .ok (.istore_n 2, 1) := by decide +kernel
theorem dX10_hands_28 : decode cX10_hands 28 = .ok (.iload_n 2, 1) := by decide +kernel
theorem dX10_hands_29 : decode cX10_hands 29 = .ok (.aload_n 0, 1) := by decide +kernel
theorem dX10_hands_30 : decode cX10_hands 30 = .ok (.getfield 75, 3) := by decide +kernel
theorem dX10_hands_33 : decode cX10_hands 33 = .ok (.getfield 131, 3) := by decide +kernel
theorem dX10_hands_36 : decode cX10_hands 36 = .ok (.if_icmp .ge 26, 3) := by decide +kernel
theorem dX10_hands_39 : decode cX10_hands 39 = .ok (.aload_n 0, 1) := by decide +kernel
theorem dX10_hands_40 : decode cX10_hands 40 = .ok (.getfield 19, 3) := by decide +kernel
theorem dX10_hands_43 : decode cX10_hands 43 = .ok (.aload_n 0, 1) := by decide +kernel
theorem dX10_hands_44 : decode cX10_hands 44 = .ok (.getfield 75, 3) := by decide +kernel
theorem dX10_hands_47 : decode cX10_hands 47 = .ok (.getfield 322, 3) := by decide +kernel
theorem dX10_hands_50 : decode cX10_hands 50 = .ok (.iload_n 2, 1) := by decide +kernel
theorem dX10_hands_51 : decode cX10_hands 51 = .ok (.iaload, 1) := by decide +kernel
theorem dX10_hands_52 : decode cX10_hands 52 = .ok (.i2l, 1) := by decide +kernel
theorem dX10_hands_53 : decode cX10_hands 53 = .ok (.invokevirtual 258, 3) := by decide +kernel
theorem dX10_hands_56 : decode cX10_hands 56 = .ok (.iinc 2 1, 3) := by decide +kernel
theorem dX10_hands_59 : decode cX10_hands 59 = .ok (.goto (-31), 3) := by decide +kernel
theorem dX10_hands_62 : decode cX10_hands 62 = .ok (.iload_n 1, 1) := by decide +kernel
theorem dX10_hands_63 : decode cX10_hands 63 = .ok (.ireturn, 1) := by decide +kernel
theorem s_X10_hands_28 {l1_10 : Int} {q : Int × xW} {k : Int → xW → Option (Int × xW)} (hk : ∀ (l2_17 : Int) (s18 : xW), k l2_17 s18 = some q → xG 5 0 0 mX10_hands 62 [vR 0, vI l1_10, vI l2_17] [] 155 s18 (xRv (vI q.1) q.2)) : ∀ (f : Nat) (l2_11 : Int) (s12 : xW), F_X10_hands_28 l1_10 f l2_11 s12 k = some q → xG 5 0 0 mX10_hands 28 [vR 0, vI l1_10, vI l2_11] [] 155 s12 (xRv (vI q.1) q.2) := by
  intro f
  induction f with
  | zero => intro l2_11 s12 h; cases h
  | succ f ih =>
    intro l2_11 s12 h
    unfold F_X10_hands_28 at h
    refine g_iln dX10_hands_28 rfl rfl ?_
    refine g_aln dX10_hands_29 rfl rfl (by decide) ?_
    refine g_getC 92 dX10_hands_30 fl_X10_75 rfl (by decide) ?_
    refine g_getI 0 dX10_hands_33 fl_X10_131 rfl rfl ?_
    refine g_wge dX10_hands_36 (tgt := 62) rfl rfl rfl (fun q13 => ?_) (fun q13 => ?_)
    · replace h := xif_f q13 h
      exact hk l2_11 s12 h
    · replace h := xif_t q13 h
      refine g_aln dX10_hands_39 rfl rfl (by decide) ?_
      refine g_getC 3 dX10_hands_40 fl_X10_19 rfl (by decide) ?_
      refine g_aln dX10_hands_43 rfl rfl (by decide) ?_
      refine g_getC 92 dX10_hands_44 fl_X10_75 rfl (by decide) ?_
      refine g_getC 98 dX10_hands_47 fl_X10_322 rfl (by decide) ?_
      refine g_iln dX10_hands_50 rfl rfl ?_
      obtain ⟨hg14, h⟩ := xgd_e h
      refine g_iald 8 dX10_hands_51 rfl hg14 (by decide) ?_
      refine g_wi2l dX10_hands_52 rfl ?_
      obtain ⟨s16, e15, h⟩ := xbp_e h
      refine g_cV10 dX10_hands_53 ml_X10_258 rfl (s_X6_add e15) (by decide) rfl ?_
      refine g_inc_2 dX10_hands_56 (by decide) rfl ?_
      refine g_goto dX10_hands_59 (tgt := 28) rfl ?_
      exact ih (l2_11 + 1) s16 h
theorem s_X10_hands {s0 : xW} {q : Int × xW} (h : F_X10_hands  s0 = some q) : xC 5 0 0 mX10_hands [vR 0] 155 s0 (xRv (vI q.1) q.2) := by
  refine xC.of [vR 0, vX, vX] (by decide +kernel) (Nat.le_of_ble_eq_true rfl) rfl ?_
  unfold F_X10_hands at h
  refine g_aln dX10_hands_0 rfl rfl (by decide) ?_
  obtain ⟨s2, e1, h⟩ := xbp_e h
  refine g_cV00 dX10_hands_1 ml_X10_173 rfl (s_X10_planToday e1) (by decide) rfl ?_
  refine g_aln dX10_hands_4 rfl rfl (by decide) ?_
  refine g_getC 92 dX10_hands_5 fl_X10_75 rfl (by decide) ?_
  obtain ⟨s4, e3, h⟩ := xbp_e h
  refine g_cV00 dX10_hands_8 ml_X10_251 rfl (s_X4_sort e3) (by decide) rfl ?_
  refine g_aln dX10_hands_11 rfl rfl (by decide) ?_
  refine g_getC 92 dX10_hands_12 fl_X10_75 rfl (by decide) ?_
  obtain ⟨r6, s7, e5, h⟩ := xbd_e h
  refine g_cV0v dX10_hands_15 ml_X10_319 rfl (s_X4_shareOut e5) (by decide) rfl ?_
  refine g_istn_1 dX10_hands_18 (by decide) rfl ?_
  refine g_aln dX10_hands_19 rfl rfl (by decide) ?_
  refine g_getC 3 dX10_hands_20 fl_X10_19 rfl (by decide) ?_
  obtain ⟨s9, e8, h⟩ := xbp_e h
  refine g_cV00 dX10_hands_23 ml_X10_254 rfl (s_X6_clear e8) (by decide) rfl ?_
  refine g_ic dX10_hands_26 ?_
  refine g_istn_2 dX10_hands_27 (by decide) rfl ?_
  refine s_X10_hands_28 (fun l2_19 s20 h => ?_) xN _ _ h
  refine g_iln dX10_hands_62 rfl rfl ?_
  exact g_rI rfl dX10_hands_63 h
theorem dX10_hauls_0 : decode cX10_hauls 0 = .ok (.aload_n 0, 1) := by decide +kernel
theorem dX10_hauls_1 : decode cX10_hauls 1 = .ok (.getfield 53, 3) := by decide +kernel
theorem dX10_hauls_4 : decode cX10_hauls 4 = .ok (.aload_n 0, 1) := by decide +kernel
theorem dX10_hauls_5 : decode cX10_hauls 5 = .ok (.getfield 46, 3) := by decide +kernel
theorem dX10_hauls_8 : decode cX10_hauls 8 = .ok (.invokevirtual 198, 3) := by decide +kernel
theorem dX10_hauls_11 : decode cX10_hauls 11 = .ok (.aload_n 0, 1) := by decide +kernel
theorem dX10_hauls_12 : decode cX10_hauls 12 = .ok (.aload_n 0, 1) := by decide +kernel
theorem dX10_hauls_13 : decode cX10_hauls 13 = .ok (.iload_n 1, 1) := by decide +kernel
theorem dX10_hauls_14 : decode cX10_hauls 14 = .ok (.iload_n 2, 1) := by decide +kernel
theorem dX10_hauls_15 : decode cX10_hauls 15 = .ok (.invokevirtual 211, 3) := by decide +kernel
theorem dX10_hauls_18 : decode cX10_hauls 18 = .ok (.invokevirtual 205, 3) := by decide +kernel
theorem dX10_hauls_21 : decode cX10_hauls 21 = .ok (.ireturn, 1) := by decide +kernel
theorem s_X10_hauls {a1 a2 : Int} {s0 : xW} {q : Int × xW} (h : F_X10_hauls a1 a2 s0 = some q) : xC 3 0 0 mX10_hauls [vR 0, vI a1, vI a2] 155 s0 (xRv (vI q.1) q.2) := by
  refine xC.of [vR 0, vI a1, vI a2] (by decide +kernel) (Nat.le_of_ble_eq_true rfl) rfl ?_
  unfold F_X10_hauls at h
  refine g_aln dX10_hauls_0 rfl rfl (by decide) ?_
  refine g_getC 21 dX10_hauls_1 fl_X10_53 rfl (by decide) ?_
  refine g_aln dX10_hauls_4 rfl rfl (by decide) ?_
  refine g_getC 17 dX10_hauls_5 fl_X10_46 rfl (by decide) ?_
  obtain ⟨s2, e1, h⟩ := xbp_e h
  refine g_cV10 dX10_hauls_8 ml_X10_198 rfl (s_X3_note e1) (by decide) rfl ?_
  refine g_aln dX10_hauls_11 rfl rfl (by decide) ?_
  refine g_aln dX10_hauls_12 rfl rfl (by decide) ?_
  refine g_iln dX10_hauls_13 rfl rfl ?_
  refine g_iln dX10_hauls_14 rfl rfl ?_
  obtain ⟨r4, s5, e3, h⟩ := xbd_e h
  refine g_cV2v dX10_hauls_15 ml_X10_211 rfl (s_X10_haul e3) (by decide) rfl ?_
  obtain ⟨r7, s8, e6, h⟩ := xbd_e h
  refine g_cV1v dX10_hauls_18 ml_X10_205 rfl (s_X10_noted e6) (by decide) rfl ?_
  exact g_rI rfl dX10_hauls_21 h
theorem dX5_add_0 : decode cX5_add 0 = .ok (.aload_n 0, 1) := by decide +kernel
theorem dX5_add_1 : decode cX5_add 1 = .ok (.getfield 18, 3) := by decide +kernel
theorem dX5_add_4 : decode cX5_add 4 = .ok (.bipush 10, 2) := by decide +kernel
theorem dX5_add_6 : decode cX5_add 6 = .ok (.if_icmp .lt 5, 3) := by decide +kernel
theorem dX5_add_9 : decode cX5_add 9 = .ok (.iconst 0, 1) := by decide +kernel
theorem dX5_add_10 : decode cX5_add 10 = .ok (.ireturn, 1) := by decide +kernel
theorem dX5_add_11 : decode cX5_add 11 = .ok (.aload_n 0, 1) := by decide +kernel
theorem dX5_add_12 : decode cX5_add 12 = .ok (.getfield 11, 3) := by decide +kernel
theorem dX5_add_15 : decode cX5_add 15 = .ok (.aload_n 0, 1) := by decide +kernel
theorem dX5_add_16 : decode cX5_add 16 = .ok (.getfield 18, 3) := by decide +kernel
theorem dX5_add_19 : decode cX5_add 19 = .ok (.iload_n 1, 1) := by decide +kernel
theorem dX5_add_20 : decode cX5_add 20 = .ok (.iastore, 1) := by decide +kernel
theorem dX5_add_21 : decode cX5_add 21 = .ok (.aload_n 0, 1) := by decide +kernel
theorem dX5_add_22 : decode cX5_add 22 = .ok (.getfield 15, 3) := by decide +kernel
theorem dX5_add_25 : decode cX5_add 25 = .ok (.aload_n 0, 1) := by decide +kernel
theorem dX5_add_26 : decode cX5_add 26 = .ok (.getfield 18, 3) := by decide +kernel
theorem dX5_add_29 : decode cX5_add 29 = .ok (.iload_n 2, 1) := by decide +kernel
theorem dX5_add_30 : decode cX5_add 30 = .ok (.iastore, 1) := by decide +kernel
theorem dX5_add_31 : decode cX5_add 31 = .ok (.aload_n 0, 1) := by decide +kernel
theorem dX5_add_32 : decode cX5_add 32 = .ok (.dup, 1) := by decide +kernel
theorem dX5_add_33 : decode cX5_add 33 = .ok (.getfield 18, 3) := by decide +kernel
theorem dX5_add_36 : decode cX5_add 36 = .ok (.iconst 1, 1) := by decide +kernel
theorem dX5_add_37 : decode cX5_add 37 = .ok (.iadd, 1) := by decide +kernel
theorem dX5_add_38 : decode cX5_add 38 = .ok (.putfield 18, 3) := by decide +kernel
theorem dX5_add_41 : decode cX5_add 41 = .ok (.iconst 1, 1) := by decide +kernel
theorem dX5_add_42 : decode cX5_add 42 = .ok (.ireturn, 1) := by decide +kernel
theorem s_X5_add {a1 a2 : Int} {s0 : xW} {q : Int × xW} (h : F_X5_add a1 a2 s0 = some q) : xC 0 0 0 mX5_add [vR 100, vI a1, vI a2] 155 s0 (xRv (vI q.1) q.2) := by
  refine xC.of [vR 100, vI a1, vI a2] (by decide +kernel) (Nat.le_of_ble_eq_true rfl) rfl ?_
  unfold F_X5_add at h
  refine g_aln dX5_add_0 rfl rfl (by decide) ?_
  refine g_getI 2 dX5_add_1 fl_X5_18 rfl rfl ?_
  refine g_bi dX5_add_4 (by decide) ?_
  refine g_wlt dX5_add_6 (tgt := 11) rfl rfl (xw_id (by decide)) (fun q1 => ?_) (fun q1 => ?_)
  · replace h := xif_f q1 h
    refine g_aln dX5_add_11 rfl rfl (by decide) ?_
    refine g_getC 101 dX5_add_12 fl_X5_11 rfl (by decide) ?_
    refine g_aln dX5_add_15 rfl rfl (by decide) ?_
    refine g_getI 2 dX5_add_16 fl_X5_18 rfl rfl ?_
    refine g_iln dX5_add_19 rfl rfl ?_
    obtain ⟨hg2, h⟩ := xgd_e h
    obtain ⟨s3, e4, h⟩ := xlt_e h
    refine h_iast 10 dX5_add_20 rfl hg2 (by decide) e4 ?_
    refine g_aln dX5_add_21 rfl rfl (by decide) ?_
    refine g_getC 102 dX5_add_22 fl_X5_15 rfl (by decide) ?_
    refine g_aln dX5_add_25 rfl rfl (by decide) ?_
    refine g_getI 2 dX5_add_26 fl_X5_18 rfl rfl ?_
    refine g_iln dX5_add_29 rfl rfl ?_
    obtain ⟨hg5, h⟩ := xgd_e h
    obtain ⟨s6, e7, h⟩ := xlt_e h
    refine h_iast 10 dX5_add_30 rfl hg5 (by decide) e7 ?_
    refine g_aln dX5_add_31 rfl rfl (by decide) ?_
    refine g_dup dX5_add_32 rfl ?_
    refine g_getI 2 dX5_add_33 fl_X5_18 rfl rfl ?_
    refine g_ic dX5_add_36 ?_
    refine g_iadd dX5_add_37 ?_
    obtain ⟨s8, e9, h⟩ := xlt_e h
    refine h_putI 2 dX5_add_38 fl_X5_18 rfl rfl e9 ?_
    refine g_ic dX5_add_41 ?_
    exact g_rZ rfl dX5_add_42 (by decide) h
  · replace h := xif_t q1 h
    refine g_ic dX5_add_9 ?_
    exact g_rZ rfl dX5_add_10 (by decide) h
theorem dX10_heard_0 : decode cX10_heard 0 = .ok (.aload_n 0, 1) := by decide +kernel
theorem dX10_heard_1 : decode cX10_heard 1 = .ok (.iload_n 1, 1) := by decide +kernel
theorem dX10_heard_2 : decode cX10_heard 2 = .ok (.invokevirtual 142, 3) := by decide +kernel
theorem dX10_heard_5 : decode cX10_heard 5 = .ok (.ifCond .eq 26, 3) := by decide +kernel
theorem dX10_heard_8 : decode cX10_heard 8 = .ok (.iload_n 2, 1) := by decide +kernel
theorem dX10_heard_9 : decode cX10_heard 9 = .ok (.ifCond .lt 22, 3) := by decide +kernel
theorem dX10_heard_12 : decode cX10_heard 12 = .ok (.iload_n 2, 1) := by decide +kernel
theorem dX10_heard_13 : decode cX10_heard 13 = .ok (.sipush 199, 3) := by decide +kernel
theorem dX10_heard_16 : decode cX10_heard 16 = .ok (.if_icmp .gt 15, 3) := by decide +kernel
theorem dX10_heard_19 : decode cX10_heard 19 = .ok (.aload_n 0, 1) := by decide +kernel
theorem dX10_heard_20 : decode cX10_heard 20 = .ok (.getfield 82, 3) := by decide +kernel
theorem dX10_heard_23 : decode cX10_heard 23 = .ok (.iload_n 1, 1) := by decide +kernel
theorem dX10_heard_24 : decode cX10_heard 24 = .ok (.iload_n 2, 1) := by decide +kernel
theorem dX10_heard_25 : decode cX10_heard 25 = .ok (.invokevirtual 331, 3) := by decide +kernel
theorem dX10_heard_28 : decode cX10_heard 28 = .ok (.ifCond .ne 5, 3) := by decide +kernel
theorem dX10_heard_31 : decode cX10_heard 31 = .ok (.iconst (-1), 1) := by decide +kernel
theorem dX10_heard_32 : decode cX10_heard 32 = .ok (.ireturn, 1) := by decide +kernel
theorem dX10_heard_33 : decode cX10_heard 33 = .ok (.aload_n 0, 1) := by decide +kernel
theorem dX10_heard_34 : decode cX10_heard 34 = .ok (.getfield 82, 3) := by decide +kernel
theorem dX10_heard_37 : decode cX10_heard 37 = .ok (.getfield 333, 3) := by decide +kernel
theorem dX10_heard_40 : decode cX10_heard 40 = .ok (.ireturn, 1) := by decide +kernel
theorem s_X10_heard {a1 a2 : Int} {s0 : xW} {q : Int × xW} (h : F_X10_heard a1 a2 s0 = some q) : xC 1 0 0 mX10_heard [vR 0, vI a1, vI a2] 155 s0 (xRv (vI q.1) q.2) := by
  refine xC.of [vR 0, vI a1, vI a2] (by decide +kernel) (Nat.le_of_ble_eq_true rfl) rfl ?_
  unfold F_X10_heard at h
  refine g_aln dX10_heard_0 rfl rfl (by decide) ?_
  refine g_iln dX10_heard_1 rfl rfl ?_
  obtain ⟨r2, e1, h⟩ := xbp_e h
  refine g_cV1v dX10_heard_2 ml_X10_142 rfl (s_X10_isHouse e1) (by decide) rfl ?_
  obtain ⟨j4, ej5, h⟩ := xjn_e h
  have hj6 : ∀ (s3 : xW), j4 s3 = some q → xG 1 0 0 mX10_heard 31 [vX, vX, vX] [] 155 s3 (xRv (vI q.1) q.2) := by
    intro s3 h
    rw [ej5] at h
    refine g_ic dX10_heard_31 ?_
    exact g_rI rfl dX10_heard_32 h
  clear ej5
  refine g_yeq dX10_heard_5 (tgt := 31) rfl rfl (fun q7 => ?_) (fun q7 => ?_)
  · replace h := xif_f q7 h
    refine g_drop_0 ?_
    refine g_drop_1 ?_
    refine g_drop_2 ?_
    exact hj6 s0 h
  · replace h := xif_t q7 h
    refine g_iln dX10_heard_8 rfl rfl ?_
    refine g_ylt dX10_heard_9 (tgt := 31) rfl rfl (fun q8 => ?_) (fun q8 => ?_)
    · replace h := xif_f q8 h
      refine g_drop_0 ?_
      refine g_drop_1 ?_
      refine g_drop_2 ?_
      exact hj6 s0 h
    · replace h := xif_t q8 h
      refine g_iln dX10_heard_12 rfl rfl ?_
      refine g_si dX10_heard_13 (by decide) ?_
      refine g_wgt dX10_heard_16 (tgt := 31) rfl rfl (xw_id (by decide)) (fun q9 => ?_) (fun q9 => ?_)
      · replace h := xif_f q9 h
        refine g_drop_0 ?_
        refine g_drop_1 ?_
        refine g_drop_2 ?_
        exact hj6 s0 h
      · replace h := xif_t q9 h
        refine g_aln dX10_heard_19 rfl rfl (by decide) ?_
        refine g_getC 100 dX10_heard_20 fl_X10_82 rfl (by decide) ?_
        refine g_iln dX10_heard_23 rfl rfl ?_
        refine g_iln dX10_heard_24 rfl rfl ?_
        obtain ⟨r11, s12, e10, h⟩ := xbd_e h
        refine g_cV2v dX10_heard_25 ml_X10_331 rfl (s_X5_add e10) (by decide) rfl ?_
        refine g_yne dX10_heard_28 (tgt := 33) rfl rfl (fun q13 => ?_) (fun q13 => ?_)
        · replace h := xif_f q13 h
          refine g_aln dX10_heard_33 rfl rfl (by decide) ?_
          refine g_getC 100 dX10_heard_34 fl_X10_82 rfl (by decide) ?_
          refine g_getI 2 dX10_heard_37 fl_X10_333 rfl rfl ?_
          exact g_rI rfl dX10_heard_40 h
        · replace h := xif_t q13 h
          refine g_drop_0 ?_
          refine g_drop_1 ?_
          refine g_drop_2 ?_
          exact hj6 s12 h
theorem dX10_setHill_0 : decode cX10_setHill 0 = .ok (.iload_n 1, 1) := by decide +kernel
theorem dX10_setHill_1 : decode cX10_setHill 1 = .ok (.iload_n 2, 1) := by decide +kernel
theorem dX10_setHill_2 : decode cX10_setHill 2 = .ok (.invokestatic 432, 3) := by decide +kernel
theorem dX10_setHill_5 : decode cX10_setHill 5 = .ok (.istore_n 3, 1) := by decide +kernel
theorem dX10_setHill_6 : decode cX10_setHill 6 = .ok (.iload_n 3, 1) := by decide +kernel
theorem dX10_setHill_7 : decode cX10_setHill 7 = .ok (.iconst (-1), 1) := by decide +kernel
theorem dX10_setHill_8 : decode cX10_setHill 8 = .ok (.if_icmp .ne 5, 3) := by decide +kernel
theorem dX10_setHill_11 : decode cX10_setHill 11 = .ok (.iconst (-1), 1) := by decide +kernel
theorem dX10_setHill_12 : decode cX10_setHill 12 = .ok (.ireturn, 1) := by decide +kernel
theorem dX10_setHill_13 : decode cX10_setHill 13 = .ok (.aload_n 0, 1) := by decide +kernel
theorem dX10_setHill_14 : decode cX10_setHill 14 = .ok (.getfield 46, 3) := by decide +kernel
theorem dX10_setHill_17 : decode cX10_setHill 17 = .ok (.getfield 438, 3) := by decide +kernel
theorem dX10_setHill_20 : decode cX10_setHill 20 = .ok (.iload_n 3, 1) := by decide +kernel
theorem dX10_setHill_21 : decode cX10_setHill 21 = .ok (.invokestatic 435, 3) := by decide +kernel
theorem dX10_setHill_24 : decode cX10_setHill 24 = .ok (.istore 4, 2) := by decide +kernel
theorem dX10_setHill_26 : decode cX10_setHill 26 = .ok (.aload_n 0, 1) := by decide +kernel
theorem dX10_setHill_27 : decode cX10_setHill 27 = .ok (.getfield 46, 3) := by decide +kernel
theorem dX10_setHill_30 : decode cX10_setHill 30 = .ok (.iload_n 3, 1) := by decide +kernel
theorem dX10_setHill_31 : decode cX10_setHill 31 = .ok (.putfield 438, 3) := by decide +kernel
theorem dX10_setHill_34 : decode cX10_setHill 34 = .ok (.iload 4, 2) := by decide +kernel
theorem dX10_setHill_36 : decode cX10_setHill 36 = .ok (.ireturn, 1) := by decide +kernel
theorem s_X10_setHill {a1 a2 : Int} {s0 : xW} {q : Int × xW} (h : F_X10_setHill a1 a2 s0 = some q) : xC 2 0 0 mX10_setHill [vR 0, vI a1, vI a2] 155 s0 (xRv (vI q.1) q.2) := by
  refine xC.of [vR 0, vI a1, vI a2, vX, vX] (by decide +kernel) (Nat.le_of_ble_eq_true rfl) rfl ?_
  unfold F_X10_setHill at h
  refine g_iln dX10_setHill_0 rfl rfl ?_
  refine g_iln dX10_setHill_1 rfl rfl ?_
  obtain ⟨r2, e1, h⟩ := xbp_e h
  refine g_cS2v dX10_setHill_2 ml_X10_432 (s_X10_placeOf e1) (by decide) rfl ?_
  refine g_istn_3 dX10_setHill_5 (by decide) rfl ?_
  refine g_iln dX10_setHill_6 rfl rfl ?_
  refine g_ic dX10_setHill_7 ?_
  refine g_wne dX10_setHill_8 (tgt := 13) rfl rfl (xw_id (by decide)) (fun q3 => ?_) (fun q3 => ?_)
  · replace h := xif_f q3 h
    refine g_aln dX10_setHill_13 rfl rfl (by decide) ?_
    refine g_getC 17 dX10_setHill_14 fl_X10_46 rfl (by decide) ?_
    refine g_getI 1 dX10_setHill_17 fl_X10_438 rfl rfl ?_
    refine g_iln dX10_setHill_20 rfl rfl ?_
    obtain ⟨r5, e4, h⟩ := xbp_e h
    refine g_cS2v dX10_setHill_21 ml_X10_435 (s_X10_far e4) (by decide) rfl ?_
    refine g_ist_4 dX10_setHill_24 (by decide) rfl ?_
    refine g_aln dX10_setHill_26 rfl rfl (by decide) ?_
    refine g_getC 17 dX10_setHill_27 fl_X10_46 rfl (by decide) ?_
    refine g_iln dX10_setHill_30 rfl rfl ?_
    obtain ⟨s6, e7, h⟩ := xlt_e h
    refine h_putI 1 dX10_setHill_31 fl_X10_438 rfl rfl e7 ?_
    refine g_il dX10_setHill_34 rfl ?_
    exact g_rI rfl dX10_setHill_36 h
  · replace h := xif_t q3 h
    refine g_ic dX10_setHill_11 ?_
    exact g_rI rfl dX10_setHill_12 h
theorem dX10_hill_0 : decode cX10_hill 0 = .ok (.aload_n 0, 1) := by decide +kernel
theorem dX10_hill_1 : decode cX10_hill 1 = .ok (.getfield 53, 3) := by decide +kernel
theorem dX10_hill_4 : decode cX10_hill 4 = .ok (.aload_n 0, 1) := by decide +kernel
theorem dX10_hill_5 : decode cX10_hill 5 = .ok (.getfield 46, 3) := by decide +kernel
theorem dX10_hill_8 : decode cX10_hill 8 = .ok (.invokevirtual 198, 3) := by decide +kernel
theorem dX10_hill_11 : decode cX10_hill 11 = .ok (.aload_n 0, 1) := by decide +kernel
theorem dX10_hill_12 : decode cX10_hill 12 = .ok (.aload_n 0, 1) := by decide +kernel
theorem dX10_hill_13 : decode cX10_hill 13 = .ok (.iload_n 1, 1) := by decide +kernel
theorem dX10_hill_14 : decode cX10_hill 14 = .ok (.iload_n 2, 1) := by decide +kernel
theorem dX10_hill_15 : decode cX10_hill 15 = .ok (.invokevirtual 221, 3) := by decide +kernel
theorem dX10_hill_18 : decode cX10_hill 18 = .ok (.invokevirtual 205, 3) := by decide +kernel
theorem dX10_hill_21 : decode cX10_hill 21 = .ok (.ireturn, 1) := by decide +kernel
theorem s_X10_hill {a1 a2 : Int} {s0 : xW} {q : Int × xW} (h : F_X10_hill a1 a2 s0 = some q) : xC 3 0 0 mX10_hill [vR 0, vI a1, vI a2] 155 s0 (xRv (vI q.1) q.2) := by
  refine xC.of [vR 0, vI a1, vI a2] (by decide +kernel) (Nat.le_of_ble_eq_true rfl) rfl ?_
  unfold F_X10_hill at h
  refine g_aln dX10_hill_0 rfl rfl (by decide) ?_
  refine g_getC 21 dX10_hill_1 fl_X10_53 rfl (by decide) ?_
  refine g_aln dX10_hill_4 rfl rfl (by decide) ?_
  refine g_getC 17 dX10_hill_5 fl_X10_46 rfl (by decide) ?_
  obtain ⟨s2, e1, h⟩ := xbp_e h
  refine g_cV10 dX10_hill_8 ml_X10_198 rfl (s_X3_note e1) (by decide) rfl ?_
  refine g_aln dX10_hill_11 rfl rfl (by decide) ?_
  refine g_aln dX10_hill_12 rfl rfl (by decide) ?_
  refine g_iln dX10_hill_13 rfl rfl ?_
  refine g_iln dX10_hill_14 rfl rfl ?_
  obtain ⟨r4, s5, e3, h⟩ := xbd_e h
  refine g_cV2v dX10_hill_15 ml_X10_221 rfl (s_X10_setHill e3) (by decide) rfl ?_
  obtain ⟨r7, s8, e6, h⟩ := xbd_e h
  refine g_cV1v dX10_hill_18 ml_X10_205 rfl (s_X10_noted e6) (by decide) rfl ?_
  exact g_rI rfl dX10_hill_21 h
theorem dX4_holdBack_0 : decode cX4_holdBack 0 = .ok (.aload_n 0, 1) := by decide +kernel
theorem dX4_holdBack_1 : decode cX4_holdBack 1 = .ok (.getfield 22, 3) := by decide +kernel
theorem dX4_holdBack_4 : decode cX4_holdBack 4 = .ok (.iload_n 1, 1) := by decide +kernel
theorem dX4_holdBack_5 : decode cX4_holdBack 5 = .ok (.dup2, 1) := by decide +kernel
theorem dX4_holdBack_6 : decode cX4_holdBack 6 = .ok (.iaload, 1) := by decide +kernel
theorem dX4_holdBack_7 : decode cX4_holdBack 7 = .ok (.iconst 1, 1) := by decide +kernel
theorem dX4_holdBack_8 : decode cX4_holdBack 8 = .ok (.iadd, 1) := by decide +kernel
theorem dX4_holdBack_9 : decode cX4_holdBack 9 = .ok (.iastore, 1) := by decide +kernel
theorem dX4_holdBack_10 : decode cX4_holdBack 10 = .ok (.aload_n 0, 1) := by decide +kernel
theorem dX4_holdBack_11 : decode cX4_holdBack 11 = .ok (.getfield 25, 3) := by decide +kernel
theorem dX4_holdBack_14 : decode cX4_holdBack 14 = .ok (.iload_n 1, 1) := by decide +kernel
theorem dX4_holdBack_15 : decode cX4_holdBack 15 = .ok (.dup2, 1) := by decide +kernel
theorem dX4_holdBack_16 : decode cX4_holdBack 16 = .ok (.iaload, 1) := by decide +kernel
theorem dX4_holdBack_17 : decode cX4_holdBack 17 = .ok (.iconst 1, 1) := by decide +kernel
theorem dX4_holdBack_18 : decode cX4_holdBack 18 = .ok (.iadd, 1) := by decide +kernel
theorem dX4_holdBack_19 : decode cX4_holdBack 19 = .ok (.iastore, 1) := by decide +kernel
theorem dX4_holdBack_20 : decode cX4_holdBack 20 = .ok (.return_, 1) := by decide +kernel
theorem s_X4_holdBack {a1 : Int} {s0 : xW} {q : xW} (h : F_X4_holdBack a1 s0 = some q) : xC 0 0 0 mX4_holdBack [vR 92, vI a1] 155 s0 (xR0 q) := by
  refine xC.of [vR 92, vI a1] (by decide +kernel) (Nat.le_of_ble_eq_true rfl) rfl ?_
  unfold F_X4_holdBack at h
  refine g_aln dX4_holdBack_0 rfl rfl (by decide) ?_
  refine g_getC 95 dX4_holdBack_1 fl_X4_22 rfl (by decide) ?_
  refine g_iln dX4_holdBack_4 rfl rfl ?_
  refine g_dup2 dX4_holdBack_5 rfl rfl ?_
  obtain ⟨hg1, h⟩ := xgd_e h
  refine g_iald 8 dX4_holdBack_6 rfl hg1 (by decide) ?_
  refine g_ic dX4_holdBack_7 ?_
  refine g_iadd dX4_holdBack_8 ?_
  obtain ⟨hg2, h⟩ := xgd_e h
  obtain ⟨s3, e4, h⟩ := xlt_e h
  refine h_iast 8 dX4_holdBack_9 rfl hg2 (by decide) e4 ?_
  refine g_aln dX4_holdBack_10 rfl rfl (by decide) ?_
  refine g_getC 96 dX4_holdBack_11 fl_X4_25 rfl (by decide) ?_
  refine g_iln dX4_holdBack_14 rfl rfl ?_
  refine g_dup2 dX4_holdBack_15 rfl rfl ?_
  obtain ⟨hg5, h⟩ := xgd_e h
  refine g_iald 8 dX4_holdBack_16 rfl hg5 (by decide) ?_
  refine g_ic dX4_holdBack_17 ?_
  refine g_iadd dX4_holdBack_18 ?_
  obtain ⟨hg6, h⟩ := xgd_e h
  obtain ⟨s7, e8, h⟩ := xlt_e h
  refine h_iast 8 dX4_holdBack_19 rfl hg6 (by decide) e8 ?_
  exact g_rV rfl dX4_holdBack_20 h
theorem dX10_holds_0 : decode cX10_holds 0 = .ok (.aload_n 0, 1) := by decide +kernel
theorem dX10_holds_1 : decode cX10_holds 1 = .ok (.iload_n 1, 1) := by decide +kernel
theorem dX10_holds_2 : decode cX10_holds 2 = .ok (.invokevirtual 168, 3) := by decide +kernel
theorem dX10_holds_5 : decode cX10_holds 5 = .ok (.ifCond .ne 5, 3) := by decide +kernel
theorem dX10_holds_8 : decode cX10_holds 8 = .ok (.iconst (-1), 1) := by decide +kernel
theorem dX10_holds_9 : decode cX10_holds 9 = .ok (.ireturn, 1) := by decide +kernel
theorem dX10_holds_10 : decode cX10_holds 10 = .ok (.aload_n 0, 1) := by decide +kernel
theorem dX10_holds_11 : decode cX10_holds 11 = .ok (.invokevirtual 173, 3) := by decide +kernel
theorem dX10_holds_14 : decode cX10_holds 14 = .ok (.iconst 0, 1) := by decide +kernel
theorem dX10_holds_15 : decode cX10_holds 15 = .ok (.istore_n 2, 1) := by decide +kernel
theorem dX10_holds_16 : decode cX10_holds 16 = .ok (.iload_n 2, 1) := by decide +kernel
theorem dX10_holds_17 : decode cX10_holds 17 = .ok (.bipush 9, 2) := by decide +kernel
theorem dX10_holds_19 : decode cX10_holds 19 = .ok (.if_icmp .gt 47, 3) := by decide +kernel
theorem dX10_holds_22 : decode cX10_holds 22 = .ok (.aload_n 0, 1) := by decide +kernel
theorem dX10_holds_23 : decode cX10_holds 23 = .ok (.getfield 75, 3) := by decide +kernel
theorem dX10_holds_26 : decode cX10_holds 26 = .ok (.iload_n 1, 1) := by decide +kernel
theorem dX10_holds_27 : decode cX10_holds 27 = .ok (.invokevirtual 188, 3) := by decide +kernel
theorem dX10_holds_30 : decode cX10_holds 30 = .ok (.ifCond .ne 22, 3) := by decide +kernel
theorem dX10_holds_33 : decode cX10_holds 33 = .ok (.aload_n 0, 1) := by decide +kernel
theorem dX10_holds_34 : decode cX10_holds 34 = .ok (.getfield 19, 3) := by decide +kernel
theorem dX10_holds_37 : decode cX10_holds 37 = .ok (.aload_n 0, 1) := by decide +kernel
theorem dX10_holds_38 : decode cX10_holds 38 = .ok (.getfield 75, 3) := by decide +kernel
theorem dX10_holds_41 : decode cX10_holds 41 = .ok (.getfield 185, 3) := by decide +kernel
theorem dX10_holds_44 : decode cX10_holds 44 = .ok (.iload_n 1, 1) := by decide +kernel
theorem dX10_holds_45 : decode cX10_holds 45 = .ok (.iaload, 1) := by decide +kernel
theorem dX10_holds_46 : decode cX10_holds 46 = .ok (.i2l, 1) := by decide +kernel
theorem dX10_holds_47 : decode cX10_holds 47 = .ok (.invokevirtual 286, 3) := by decide +kernel
theorem dX10_holds_50 : decode cX10_holds 50 = .ok (.iload_n 2, 1) := by decide +kernel
theorem dX10_holds_51 : decode cX10_holds 51 = .ok (.ireturn, 1) := by decide +kernel
theorem dX10_holds_52 : decode cX10_holds 52 = .ok (.aload_n 0, 1) := by decide +kernel
theorem dX10_holds_53 : decode cX10_holds 53 = .ok (.getfield 75, 3) := by decide +kernel
theorem dX10_holds_56 : decode cX10_holds 56 = .ok (.iload_n 1, 1) := by decide +kernel
theorem dX10_holds_57 : decode cX10_holds 57 = .ok (.invokevirtual 315, 3) := by decide +kernel
theorem dX10_holds_60 : decode cX10_holds 60 = .ok (.iinc 2 1, 3) := by decide +kernel
theorem dX10_holds_63 : decode cX10_holds 63 = .ok (.goto (-47), 3) := by decide +kernel
theorem dX10_holds_66 : decode cX10_holds 66 = .ok (.bipush (-2), 2) := by decide +kernel
theorem dX10_holds_68 : decode cX10_holds 68 = .ok (.ireturn, 1) := by decide +kernel
theorem s_X10_holds_16 {l1_6 : Int} {q : Int × xW} {k : Int → xW → Option (Int × xW)} (hk : ∀ (l2_18 : Int) (s19 : xW), k l2_18 s19 = some q → xG 5 0 0 mX10_holds 66 [vR 0, vI l1_6, vI l2_18] [] 155 s19 (xRv (vI q.1) q.2)) : ∀ (f : Nat) (l2_7 : Int) (s8 : xW), F_X10_holds_16 l1_6 f l2_7 s8 k = some q → xG 5 0 0 mX10_holds 16 [vR 0, vI l1_6, vI l2_7] [] 155 s8 (xRv (vI q.1) q.2) := by
  intro f
  induction f with
  | zero => intro l2_7 s8 h; cases h
  | succ f ih =>
    intro l2_7 s8 h
    unfold F_X10_holds_16 at h
    refine g_iln dX10_holds_16 rfl rfl ?_
    refine g_bi dX10_holds_17 (by decide) ?_
    refine g_wgt dX10_holds_19 (tgt := 66) rfl rfl (xw_id (by decide)) (fun q9 => ?_) (fun q9 => ?_)
    · replace h := xif_f q9 h
      exact hk l2_7 s8 h
    · replace h := xif_t q9 h
      refine g_aln dX10_holds_22 rfl rfl (by decide) ?_
      refine g_getC 92 dX10_holds_23 fl_X10_75 rfl (by decide) ?_
      refine g_iln dX10_holds_26 rfl rfl ?_
      obtain ⟨r11, e10, h⟩ := xbp_e h
      refine g_cV1v dX10_holds_27 ml_X10_188 rfl (s_X4_foes e10) (by decide) rfl ?_
      refine g_yne dX10_holds_30 (tgt := 52) rfl rfl (fun q12 => ?_) (fun q12 => ?_)
      · replace h := xif_f q12 h
        refine g_aln dX10_holds_52 rfl rfl (by decide) ?_
        refine g_getC 92 dX10_holds_53 fl_X10_75 rfl (by decide) ?_
        refine g_iln dX10_holds_56 rfl rfl ?_
        obtain ⟨s14, e13, h⟩ := xbp_e h
        refine g_cV10 dX10_holds_57 ml_X10_315 rfl (s_X4_holdBack e13) (by decide) rfl ?_
        refine g_inc_2 dX10_holds_60 (by decide) rfl ?_
        refine g_goto dX10_holds_63 (tgt := 16) rfl ?_
        exact ih (l2_7 + 1) s14 h
      · replace h := xif_t q12 h
        refine g_aln dX10_holds_33 rfl rfl (by decide) ?_
        refine g_getC 3 dX10_holds_34 fl_X10_19 rfl (by decide) ?_
        refine g_aln dX10_holds_37 rfl rfl (by decide) ?_
        refine g_getC 92 dX10_holds_38 fl_X10_75 rfl (by decide) ?_
        refine g_getC 95 dX10_holds_41 fl_X10_185 rfl (by decide) ?_
        refine g_iln dX10_holds_44 rfl rfl ?_
        obtain ⟨hg15, h⟩ := xgd_e h
        refine g_iald 8 dX10_holds_45 rfl hg15 (by decide) ?_
        refine g_wi2l dX10_holds_46 rfl ?_
        obtain ⟨s17, e16, h⟩ := xbp_e h
        refine g_cV10 dX10_holds_47 ml_X10_286 rfl (s_X6_tell e16) (by decide) rfl ?_
        refine g_iln dX10_holds_50 rfl rfl ?_
        exact g_rI rfl dX10_holds_51 h
theorem s_X10_holds {a1 : Int} {s0 : xW} {q : Int × xW} (h : F_X10_holds a1 s0 = some q) : xC 5 0 0 mX10_holds [vR 0, vI a1] 155 s0 (xRv (vI q.1) q.2) := by
  refine xC.of [vR 0, vI a1, vX] (by decide +kernel) (Nat.le_of_ble_eq_true rfl) rfl ?_
  unfold F_X10_holds at h
  refine g_aln dX10_holds_0 rfl rfl (by decide) ?_
  refine g_iln dX10_holds_1 rfl rfl ?_
  obtain ⟨r2, e1, h⟩ := xbp_e h
  refine g_cV1v dX10_holds_2 ml_X10_168 rfl (s_X10_isDeed e1) (by decide) rfl ?_
  refine g_yne dX10_holds_5 (tgt := 10) rfl rfl (fun q3 => ?_) (fun q3 => ?_)
  · replace h := xif_f q3 h
    refine g_aln dX10_holds_10 rfl rfl (by decide) ?_
    obtain ⟨s5, e4, h⟩ := xbp_e h
    refine g_cV00 dX10_holds_11 ml_X10_173 rfl (s_X10_planToday e4) (by decide) rfl ?_
    refine g_ic dX10_holds_14 ?_
    refine g_istn_2 dX10_holds_15 (by decide) rfl ?_
    refine s_X10_holds_16 (fun l2_20 s21 h => ?_) xN _ _ h
    refine g_bi dX10_holds_66 (by decide) ?_
    exact g_rI rfl dX10_holds_68 h
  · replace h := xif_t q3 h
    refine g_ic dX10_holds_8 ?_
    exact g_rI rfl dX10_holds_9 h
theorem dX10_minuteOfGun_0 : decode cX10_minuteOfGun 0 = .ok (.aload_n 0, 1) := by decide +kernel
theorem dX10_minuteOfGun_1 : decode cX10_minuteOfGun 1 = .ok (.getfield 46, 3) := by decide +kernel
theorem dX10_minuteOfGun_4 : decode cX10_minuteOfGun 4 = .ok (.getfield 152, 3) := by decide +kernel
theorem dX10_minuteOfGun_7 : decode cX10_minuteOfGun 7 = .ok (.iload_n 1, 1) := by decide +kernel
theorem dX10_minuteOfGun_8 : decode cX10_minuteOfGun 8 = .ok (.iaload, 1) := by decide +kernel
theorem dX10_minuteOfGun_9 : decode cX10_minuteOfGun 9 = .ok (.istore_n 2, 1) := by decide +kernel
theorem dX10_minuteOfGun_10 : decode cX10_minuteOfGun 10 = .ok (.aload_n 0, 1) := by decide +kernel
theorem dX10_minuteOfGun_11 : decode cX10_minuteOfGun 11 = .ok (.getfield 68, 3) := by decide +kernel
theorem dX10_minuteOfGun_14 : decode cX10_minuteOfGun 14 = .ok (.aload_n 0, 1) := by decide +kernel
theorem dX10_minuteOfGun_15 : decode cX10_minuteOfGun 15 = .ok (.getfield 46, 3) := by decide +kernel
theorem dX10_minuteOfGun_18 : decode cX10_minuteOfGun 18 = .ok (.getfield 277, 3) := by decide +kernel
theorem dX10_minuteOfGun_21 : decode cX10_minuteOfGun 21 = .ok (.aload_n 0, 1) := by decide +kernel
theorem dX10_minuteOfGun_22 : decode cX10_minuteOfGun 22 = .ok (.getfield 30, 3) := by decide +kernel
theorem dX10_minuteOfGun_25 : decode cX10_minuteOfGun 25 = .ok (.aload_n 0, 1) := by decide +kernel
theorem dX10_minuteOfGun_26 : decode cX10_minuteOfGun 26 = .ok (.getfield 46, 3) := by decide +kernel
theorem dX10_minuteOfGun_29 : decode cX10_minuteOfGun 29 = .ok (.getfield 277, 3) := by decide +kernel
theorem dX10_minuteOfGun_32 : decode cX10_minuteOfGun 32 = .ok (.invokevirtual 280, 3) := by decide +kernel
theorem dX10_minuteOfGun_35 : decode cX10_minuteOfGun 35 = .ok (.aload_n 0, 1) := by decide +kernel
theorem dX10_minuteOfGun_36 : decode cX10_minuteOfGun 36 = .ok (.getfield 26, 3) := by decide +kernel
theorem dX10_minuteOfGun_39 : decode cX10_minuteOfGun 39 = .ok (.aload_n 0, 1) := by decide +kernel
theorem dX10_minuteOfGun_40 : decode cX10_minuteOfGun 40 = .ok (.getfield 46, 3) := by decide +kernel
theorem dX10_minuteOfGun_43 : decode cX10_minuteOfGun 43 = .ok (.getfield 277, 3) := by decide +kernel
theorem dX10_minuteOfGun_46 : decode cX10_minuteOfGun 46 = .ok (.invokevirtual 280, 3) := by decide +kernel
theorem dX10_minuteOfGun_49 : decode cX10_minuteOfGun 49 = .ok (.invokevirtual 442, 3) := by decide +kernel
theorem dX10_minuteOfGun_52 : decode cX10_minuteOfGun 52 = .ok (.aload_n 0, 1) := by decide +kernel
theorem dX10_minuteOfGun_53 : decode cX10_minuteOfGun 53 = .ok (.getfield 68, 3) := by decide +kernel
theorem dX10_minuteOfGun_56 : decode cX10_minuteOfGun 56 = .ok (.aload_n 0, 1) := by decide +kernel
theorem dX10_minuteOfGun_57 : decode cX10_minuteOfGun 57 = .ok (.getfield 36, 3) := by decide +kernel
theorem dX10_minuteOfGun_60 : decode cX10_minuteOfGun 60 = .ok (.aload_n 0, 1) := by decide +kernel
theorem dX10_minuteOfGun_61 : decode cX10_minuteOfGun 61 = .ok (.getfield 46, 3) := by decide +kernel
theorem dX10_minuteOfGun_64 : decode cX10_minuteOfGun 64 = .ok (.getfield 379, 3) := by decide +kernel
theorem dX10_minuteOfGun_67 : decode cX10_minuteOfGun 67 = .ok (.iload_n 2, 1) := by decide +kernel
theorem dX10_minuteOfGun_68 : decode cX10_minuteOfGun 68 = .ok (.invokestatic 435, 3) := by decide +kernel
theorem dX10_minuteOfGun_71 : decode cX10_minuteOfGun 71 = .ok (.iload_n 2, 1) := by decide +kernel
theorem dX10_minuteOfGun_72 : decode cX10_minuteOfGun 72 = .ok (.iconst 0, 1) := by decide +kernel
theorem dX10_minuteOfGun_73 : decode cX10_minuteOfGun 73 = .ok (.invokevirtual 446, 3) := by decide +kernel
theorem dX10_minuteOfGun_76 : decode cX10_minuteOfGun 76 = .ok (.ireturn, 1) := by decide +kernel
theorem s_X10_minuteOfGun {a1 : Int} {s0 : xW} {q : Int × xW} (h : F_X10_minuteOfGun a1 s0 = some q) : xC 3 0 0 mX10_minuteOfGun [vR 0, vI a1] 155 s0 (xRv (vI q.1) q.2) := by
  refine xC.of [vR 0, vI a1, vX] (by decide +kernel) (Nat.le_of_ble_eq_true rfl) rfl ?_
  unfold F_X10_minuteOfGun at h
  refine g_aln dX10_minuteOfGun_0 rfl rfl (by decide) ?_
  refine g_getC 17 dX10_minuteOfGun_1 fl_X10_46 rfl (by decide) ?_
  refine g_getC 18 dX10_minuteOfGun_4 fl_X10_152 rfl (by decide) ?_
  refine g_iln dX10_minuteOfGun_7 rfl rfl ?_
  obtain ⟨hg1, h⟩ := xgd_e h
  refine g_iald 8 dX10_minuteOfGun_8 rfl hg1 (by decide) ?_
  refine g_istn_2 dX10_minuteOfGun_9 (by decide) rfl ?_
  refine g_aln dX10_minuteOfGun_10 rfl rfl (by decide) ?_
  refine g_getC 89 dX10_minuteOfGun_11 fl_X10_68 rfl (by decide) ?_
  refine g_aln dX10_minuteOfGun_14 rfl rfl (by decide) ?_
  refine g_getC 17 dX10_minuteOfGun_15 fl_X10_46 rfl (by decide) ?_
  refine g_getI 5 dX10_minuteOfGun_18 fl_X10_277 rfl rfl ?_
  refine g_aln dX10_minuteOfGun_21 rfl rfl (by decide) ?_
  refine g_getC 7 dX10_minuteOfGun_22 fl_X10_30 rfl (by decide) ?_
  refine g_aln dX10_minuteOfGun_25 rfl rfl (by decide) ?_
  refine g_getC 17 dX10_minuteOfGun_26 fl_X10_46 rfl (by decide) ?_
  refine g_getI 5 dX10_minuteOfGun_29 fl_X10_277 rfl rfl ?_
  obtain ⟨r3, e2, h⟩ := xbp_e h
  refine g_cV1v dX10_minuteOfGun_32 ml_X10_280 rfl (s_X1_of e2) (by decide) rfl ?_
  refine g_aln dX10_minuteOfGun_35 rfl rfl (by decide) ?_
  refine g_getC 5 dX10_minuteOfGun_36 fl_X10_26 rfl (by decide) ?_
  refine g_aln dX10_minuteOfGun_39 rfl rfl (by decide) ?_
  refine g_getC 17 dX10_minuteOfGun_40 fl_X10_46 rfl (by decide) ?_
  refine g_getI 5 dX10_minuteOfGun_43 fl_X10_277 rfl rfl ?_
  obtain ⟨r5, e4, h⟩ := xbp_e h
  refine g_cV1v dX10_minuteOfGun_46 ml_X10_280 rfl (s_X1_of e4) (by decide) rfl ?_
  obtain ⟨s7, e6, h⟩ := xbp_e h
  refine g_cV30 dX10_minuteOfGun_49 ml_X10_442 rfl (s_X0_on e6) (by decide) rfl ?_
  refine g_aln dX10_minuteOfGun_52 rfl rfl (by decide) ?_
  refine g_getC 89 dX10_minuteOfGun_53 fl_X10_68 rfl (by decide) ?_
  refine g_aln dX10_minuteOfGun_56 rfl rfl (by decide) ?_
  obtain ⟨hg8, h⟩ := xgd_e h
  refine g_getR 4 dX10_minuteOfGun_57 fl_X10_36 rfl rfl ?_
  refine g_aln dX10_minuteOfGun_60 rfl rfl (by decide) ?_
  refine g_getC 17 dX10_minuteOfGun_61 fl_X10_46 rfl (by decide) ?_
  refine g_getI 0 dX10_minuteOfGun_64 fl_X10_379 rfl rfl ?_
  refine g_iln dX10_minuteOfGun_67 rfl rfl ?_
  obtain ⟨r10, e9, h⟩ := xbp_e h
  refine g_cS2v dX10_minuteOfGun_68 ml_X10_435 (s_X10_far e9) (by decide) rfl ?_
  refine g_iln dX10_minuteOfGun_71 rfl rfl ?_
  refine g_ic dX10_minuteOfGun_72 ?_
  obtain ⟨r12, s13, e11, h⟩ := xbd_e h
  refine g_cV4v dX10_minuteOfGun_73 ml_X10_446 rfl (s_X0_minute e11) (by decide) rfl ?_
  exact g_rI rfl dX10_minuteOfGun_76 h
theorem dX4_at_0 : decode cX4_at 0 = .ok (.iconst 0, 1) := by decide +kernel
theorem dX4_at_1 : decode cX4_at 1 = .ok (.istore_n 2, 1) := by decide +kernel
theorem dX4_at_2 : decode cX4_at 2 = .ok (.iconst 0, 1) := by decide +kernel
theorem dX4_at_3 : decode cX4_at 3 = .ok (.istore_n 3, 1) := by decide +kernel
theorem dX4_at_4 : decode cX4_at 4 = .ok (.iload_n 3, 1) := by decide +kernel
theorem dX4_at_5 : decode cX4_at 5 = .ok (.aload_n 0, 1) := by decide +kernel
theorem dX4_at_6 : decode cX4_at 6 = .ok (.getfield 9, 3) := by decide +kernel
theorem dX4_at_9 : decode cX4_at 9 = .ok (.if_icmp .ge 29, 3) := by decide +kernel
theorem dX4_at_12 : decode cX4_at 12 = .ok (.iload_n 2, 1) := by decide +kernel
theorem dX4_at_13 : decode cX4_at 13 = .ok (.aload_n 0, 1) := by decide +kernel
theorem dX4_at_14 : decode cX4_at 14 = .ok (.getfield 15, 3) := by decide +kernel
theorem dX4_at_17 : decode cX4_at 17 = .ok (.iload_n 3, 1) := by decide +kernel
theorem dX4_at_18 : decode cX4_at 18 = .ok (.iaload, 1) := by decide +kernel
theorem dX4_at_19 : decode cX4_at 19 = .ok (.iload_n 1, 1) := by decide +kernel
theorem dX4_at_20 : decode cX4_at 20 = .ok (.if_icmp .ne 9, 3) := by decide +kernel
theorem dX4_at_23 : decode cX4_at 23 = .ok (.iconst 1, 1) := by decide +kernel
theorem dX4_at_24 : decode cX4_at 24 = .ok (.iload_n 3, 1) := by decide +kernel
theorem dX4_at_25 : decode cX4_at 25 = .ok (.ishl, 1) := by decide +kernel
theorem dX4_at_26 : decode cX4_at 26 = .ok (.goto 4, 3) := by decide +kernel
theorem dX4_at_29 : decode cX4_at 29 = .ok (.iconst 0, 1) := by decide +kernel
theorem dX4_at_30 : decode cX4_at 30 = .ok (.ior, 1) := by decide +kernel
theorem dX4_at_31 : decode cX4_at 31 = .ok (.istore_n 2, 1) := by decide +kernel
theorem dX4_at_32 : decode cX4_at 32 = .ok (.iinc 3 1, 3) := by decide +kernel
theorem dX4_at_35 : decode cX4_at 35 = .ok (.goto (-31), 3) := by decide +kernel
theorem dX4_at_38 : decode cX4_at 38 = .ok (.iload_n 2, 1) := by decide +kernel
theorem dX4_at_39 : decode cX4_at 39 = .ok (.ireturn, 1) := by decide +kernel
theorem s_X4_at_4 {s4 : xW} {l1_1 : Int} {q : Int} {k : Int → Int → Option (Int)} (hk : ∀ (l2_11 : Int) (l3_12 : Int), k l2_11 l3_12 = some q → xG 0 0 0 mX4_at 38 [vR 92, vI l1_1, vI l2_11, vI l3_12] [] 155 s4 (xRv (vI q) s4)) : ∀ (f : Nat) (l2_2 : Int) (l3_3 : Int), F_X4_at_4 l1_1 s4 f l2_2 l3_3 k = some q → xG 0 0 0 mX4_at 4 [vR 92, vI l1_1, vI l2_2, vI l3_3] [] 155 s4 (xRv (vI q) s4) := by
  intro f
  induction f with
  | zero => intro l2_2 l3_3 h; cases h
  | succ f ih =>
    intro l2_2 l3_3 h
    unfold F_X4_at_4 at h
    refine g_iln dX4_at_4 rfl rfl ?_
    refine g_aln dX4_at_5 rfl rfl (by decide) ?_
    refine g_getI 0 dX4_at_6 fl_X4_9 rfl rfl ?_
    refine g_wge dX4_at_9 (tgt := 38) rfl rfl rfl (fun q5 => ?_) (fun q5 => ?_)
    · replace h := xif_f q5 h
      exact hk l2_2 l3_3 h
    · replace h := xif_t q5 h
      refine g_iln dX4_at_12 rfl rfl ?_
      refine g_aln dX4_at_13 rfl rfl (by decide) ?_
      refine g_getC 93 dX4_at_14 fl_X4_15 rfl (by decide) ?_
      refine g_iln dX4_at_17 rfl rfl ?_
      obtain ⟨hg6, h⟩ := xgd_e h
      refine g_iald 8 dX4_at_18 rfl hg6 (by decide) ?_
      refine g_iln dX4_at_19 rfl rfl ?_
      obtain ⟨v8, e9, h⟩ := xlt_e h
      have hj10 : xG 0 0 0 mX4_at 30 [vR 92, vI l1_1, vX, vI l3_3] [vI v8, vI l2_2] 155 s4 (xRv (vI q) s4) := by
        refine g_ior dX4_at_30 ?_
        refine g_istn_2 dX4_at_31 (by decide) rfl ?_
        refine g_inc_3 dX4_at_32 (by decide) rfl ?_
        refine g_goto dX4_at_35 (tgt := 4) rfl ?_
        exact ih (xor' l2_2 v8) (l3_3 + 1) h
      refine g_wne dX4_at_20 (tgt := 29) rfl rfl rfl (fun c7 => ?_) (fun c7 => ?_)
      · skip
        refine g_ic dX4_at_29 ?_
        refine g_drop_2 ?_
        exact g_vq ((if_neg c7).symm.trans e9) hj10
      · skip
        refine g_ic dX4_at_23 ?_
        refine g_iln dX4_at_24 rfl rfl ?_
        refine g_ishl dX4_at_25 ?_
        refine g_goto dX4_at_26 (tgt := 30) rfl ?_
        refine g_drop_2 ?_
        exact g_vq ((if_pos c7).symm.trans e9) hj10
theorem s_X4_at {a1 : Int} {s0 : xW} {q : Int} (h : F_X4_at a1 s0 = some q) : xC 0 0 0 mX4_at [vR 92, vI a1] 155 s0 (xRv (vI q) s0) := by
  refine xC.of [vR 92, vI a1, vX, vX] (by decide +kernel) (Nat.le_of_ble_eq_true rfl) rfl ?_
  unfold F_X4_at at h
  refine g_ic dX4_at_0 ?_
  refine g_istn_2 dX4_at_1 (by decide) rfl ?_
  refine g_ic dX4_at_2 ?_
  refine g_istn_3 dX4_at_3 (by decide) rfl ?_
  refine s_X4_at_4 (fun l2_13 l3_14 h => ?_) xN _ _ h
  refine g_iln dX4_at_38 rfl rfl ?_
  exact g_pI rfl dX4_at_39 h
theorem dX10_house_0 : decode cX10_house 0 = .ok (.aload_n 0, 1) := by decide +kernel
theorem dX10_house_1 : decode cX10_house 1 = .ok (.iload_n 1, 1) := by decide +kernel
theorem dX10_house_2 : decode cX10_house 2 = .ok (.invokevirtual 142, 3) := by decide +kernel
theorem dX10_house_5 : decode cX10_house 5 = .ok (.ifCond .eq 12, 3) := by decide +kernel
theorem dX10_house_8 : decode cX10_house 8 = .ok (.iload_n 2, 1) := by decide +kernel
theorem dX10_house_9 : decode cX10_house 9 = .ok (.ifCond .lt 8, 3) := by decide +kernel
theorem dX10_house_12 : decode cX10_house 12 = .ok (.iload_n 2, 1) := by decide +kernel
theorem dX10_house_13 : decode cX10_house 13 = .ok (.iconst 5, 1) := by decide +kernel
theorem dX10_house_14 : decode cX10_house 14 = .ok (.if_icmp .le 13, 3) := by decide +kernel
theorem dX10_house_17 : decode cX10_house 17 = .ok (.new 145, 3) := by decide +kernel
theorem dX10_house_20 : decode cX10_house 20 = .ok (.dup, 1) := by decide +kernel
theorem dX10_house_21 : decode cX10_house 21 = .ok (.ldc 147, 2) := by decide +kernel
theorem dX10_house_23 : decode cX10_house 23 = .ok (.invokespecial 149, 3) := by decide +kernel
theorem dX10_house_26 : decode cX10_house 26 = .ok (.athrow, 1) := by decide +kernel
theorem dX10_house_27 : decode cX10_house 27 = .ok (.iload_n 2, 1) := by decide +kernel
theorem dX10_house_28 : decode cX10_house 28 = .ok (.tableswitch 84 0 4 #[36, 49, 62, 72, 78], 36) := by decide +kernel
theorem dX10_house_64 : decode cX10_house 64 = .ok (.aload_n 0, 1) := by decide +kernel
theorem dX10_house_65 : decode cX10_house 65 = .ok (.getfield 46, 3) := by decide +kernel
theorem dX10_house_68 : decode cX10_house 68 = .ok (.getfield 152, 3) := by decide +kernel
theorem dX10_house_71 : decode cX10_house 71 = .ok (.iload_n 1, 1) := by decide +kernel
theorem dX10_house_72 : decode cX10_house 72 = .ok (.iaload, 1) := by decide +kernel
theorem dX10_house_73 : decode cX10_house 73 = .ok (.bipush 10, 2) := by decide +kernel
theorem dX10_house_75 : decode cX10_house 75 = .ok (.idiv, 1) := by decide +kernel
theorem dX10_house_76 : decode cX10_house 76 = .ok (.ireturn, 1) := by decide +kernel
theorem dX10_house_77 : decode cX10_house 77 = .ok (.aload_n 0, 1) := by decide +kernel
theorem dX10_house_78 : decode cX10_house 78 = .ok (.getfield 46, 3) := by decide +kernel
theorem dX10_house_81 : decode cX10_house 81 = .ok (.getfield 152, 3) := by decide +kernel
theorem dX10_house_84 : decode cX10_house 84 = .ok (.iload_n 1, 1) := by decide +kernel
theorem dX10_house_85 : decode cX10_house 85 = .ok (.iaload, 1) := by decide +kernel
theorem dX10_house_86 : decode cX10_house 86 = .ok (.bipush 10, 2) := by decide +kernel
theorem dX10_house_88 : decode cX10_house 88 = .ok (.irem, 1) := by decide +kernel
theorem dX10_house_89 : decode cX10_house 89 = .ok (.ireturn, 1) := by decide +kernel
theorem dX10_house_90 : decode cX10_house 90 = .ok (.aload_n 0, 1) := by decide +kernel
theorem dX10_house_91 : decode cX10_house 91 = .ok (.getfield 46, 3) := by decide +kernel
theorem dX10_house_94 : decode cX10_house 94 = .ok (.getfield 155, 3) := by decide +kernel
theorem dX10_house_97 : decode cX10_house 97 = .ok (.iload_n 1, 1) := by decide +kernel
theorem dX10_house_98 : decode cX10_house 98 = .ok (.iaload, 1) := by decide +kernel
theorem dX10_house_99 : decode cX10_house 99 = .ok (.ireturn, 1) := by decide +kernel
theorem dX10_house_100 : decode cX10_house 100 = .ok (.aload_n 0, 1) := by decide +kernel
theorem dX10_house_101 : decode cX10_house 101 = .ok (.iload_n 1, 1) := by decide +kernel
theorem dX10_house_102 : decode cX10_house 102 = .ok (.invokevirtual 158, 3) := by decide +kernel
theorem dX10_house_105 : decode cX10_house 105 = .ok (.ireturn, 1) := by decide +kernel
theorem dX10_house_106 : decode cX10_house 106 = .ok (.aload_n 0, 1) := by decide +kernel
theorem dX10_house_107 : decode cX10_house 107 = .ok (.iload_n 1, 1) := by decide +kernel
theorem dX10_house_108 : decode cX10_house 108 = .ok (.invokevirtual 162, 3) := by decide +kernel
theorem dX10_house_111 : decode cX10_house 111 = .ok (.ireturn, 1) := by decide +kernel
theorem dX10_house_112 : decode cX10_house 112 = .ok (.aload_n 0, 1) := by decide +kernel
theorem dX10_house_113 : decode cX10_house 113 = .ok (.getfield 75, 3) := by decide +kernel
theorem dX10_house_116 : decode cX10_house 116 = .ok (.iload_n 1, 1) := by decide +kernel
theorem dX10_house_117 : decode cX10_house 117 = .ok (.invokevirtual 165, 3) := by decide +kernel
theorem dX10_house_120 : decode cX10_house 120 = .ok (.ireturn, 1) := by decide +kernel
theorem s_X10_house {a1 a2 : Int} {s0 : xW} {q : Int × xW} (h : F_X10_house a1 a2 s0 = some q) : xC 4 0 0 mX10_house [vR 0, vI a1, vI a2] 155 s0 (xRv (vI q.1) q.2) := by
  refine xC.of [vR 0, vI a1, vI a2] (by decide +kernel) (Nat.le_of_ble_eq_true rfl) rfl ?_
  unfold F_X10_house at h
  refine g_aln dX10_house_0 rfl rfl (by decide) ?_
  refine g_iln dX10_house_1 rfl rfl ?_
  obtain ⟨r2, e1, h⟩ := xbp_e h
  refine g_cV1v dX10_house_2 ml_X10_142 rfl (s_X10_isHouse e1) (by decide) rfl ?_
  obtain ⟨j3, ej4, h⟩ := xjn_e h
  have hj5 : j3  = some q → xG 4 0 0 mX10_house 17 [vX, vX, vX] [] 155 s0 (xRv (vI q.1) q.2) := by
    intro  h
    rw [ej4] at h
    cases h
  clear ej4
  refine g_yeq dX10_house_5 (tgt := 17) rfl rfl (fun q6 => ?_) (fun q6 => ?_)
  · replace h := xif_f q6 h
    refine g_drop_0 ?_
    refine g_drop_1 ?_
    refine g_drop_2 ?_
    exact hj5  h
  · replace h := xif_t q6 h
    refine g_iln dX10_house_8 rfl rfl ?_
    refine g_ylt dX10_house_9 (tgt := 17) rfl rfl (fun q7 => ?_) (fun q7 => ?_)
    · replace h := xif_f q7 h
      refine g_drop_0 ?_
      refine g_drop_1 ?_
      refine g_drop_2 ?_
      exact hj5  h
    · replace h := xif_t q7 h
      refine g_iln dX10_house_12 rfl rfl ?_
      refine g_ic dX10_house_13 ?_
      refine g_wle dX10_house_14 (tgt := 27) rfl rfl (xw_id (by decide)) (fun q8 => ?_) (fun q8 => ?_)
      · replace h := xif_f q8 h
        refine g_iln dX10_house_27 rfl rfl ?_
        by_cases q9 : (xw a2) = 0
        · replace h := xif_t q9 h
          refine g_wtK dX10_house_28 q9 (by decide) (off := 36) rfl (tgt := 64) rfl ?_
          refine g_aln dX10_house_64 rfl rfl (by decide) ?_
          refine g_getC 17 dX10_house_65 fl_X10_46 rfl (by decide) ?_
          refine g_getC 18 dX10_house_68 fl_X10_152 rfl (by decide) ?_
          refine g_iln dX10_house_71 rfl rfl ?_
          obtain ⟨hg10, h⟩ := xgd_e h
          refine g_iald 8 dX10_house_72 rfl hg10 (by decide) ?_
          refine g_bi dX10_house_73 (by decide) ?_
          refine g_wdiv dX10_house_75 rfl (xw_id (by decide)) (by decide) ?_
          exact g_rI rfl dX10_house_76 h
        replace h := xif_f q9 h
        by_cases q11 : (xw a2) = 1
        · replace h := xif_t q11 h
          refine g_wtK dX10_house_28 q11 (by decide) (off := 49) rfl (tgt := 77) rfl ?_
          refine g_aln dX10_house_77 rfl rfl (by decide) ?_
          refine g_getC 17 dX10_house_78 fl_X10_46 rfl (by decide) ?_
          refine g_getC 18 dX10_house_81 fl_X10_152 rfl (by decide) ?_
          refine g_iln dX10_house_84 rfl rfl ?_
          obtain ⟨hg12, h⟩ := xgd_e h
          refine g_iald 8 dX10_house_85 rfl hg12 (by decide) ?_
          refine g_bi dX10_house_86 (by decide) ?_
          refine g_wrem dX10_house_88 rfl (xw_id (by decide)) (by decide) ?_
          exact g_rI rfl dX10_house_89 h
        replace h := xif_f q11 h
        by_cases q13 : (xw a2) = 2
        · replace h := xif_t q13 h
          refine g_wtK dX10_house_28 q13 (by decide) (off := 62) rfl (tgt := 90) rfl ?_
          refine g_aln dX10_house_90 rfl rfl (by decide) ?_
          refine g_getC 17 dX10_house_91 fl_X10_46 rfl (by decide) ?_
          refine g_getC 19 dX10_house_94 fl_X10_155 rfl (by decide) ?_
          refine g_iln dX10_house_97 rfl rfl ?_
          obtain ⟨hg14, h⟩ := xgd_e h
          refine g_iald 8 dX10_house_98 rfl hg14 (by decide) ?_
          exact g_rI rfl dX10_house_99 h
        replace h := xif_f q13 h
        by_cases q15 : (xw a2) = 3
        · replace h := xif_t q15 h
          refine g_wtK dX10_house_28 q15 (by decide) (off := 72) rfl (tgt := 100) rfl ?_
          refine g_aln dX10_house_100 rfl rfl (by decide) ?_
          refine g_iln dX10_house_101 rfl rfl ?_
          obtain ⟨r17, s18, e16, h⟩ := xbd_e h
          refine g_cV1v dX10_house_102 ml_X10_158 rfl (s_X10_minuteOfGun e16) (by decide) rfl ?_
          exact g_rI rfl dX10_house_105 h
        replace h := xif_f q15 h
        by_cases q19 : (xw a2) = 4
        · replace h := xif_t q19 h
          refine g_wtK dX10_house_28 q19 (by decide) (off := 78) rfl (tgt := 106) rfl ?_
          refine g_aln dX10_house_106 rfl rfl (by decide) ?_
          refine g_iln dX10_house_107 rfl rfl ?_
          obtain ⟨r21, s22, e20, h⟩ := xbd_e h
          refine g_cV1v dX10_house_108 ml_X10_162 rfl (s_X10_minuteOfEcho e20) (by decide) rfl ?_
          exact g_rI rfl dX10_house_111 h
        replace h := xif_f q19 h
        refine g_wtO dX10_house_28 rfl (by omega) (tgt := 112) rfl ?_
        refine g_aln dX10_house_112 rfl rfl (by decide) ?_
        refine g_getC 92 dX10_house_113 fl_X10_75 rfl (by decide) ?_
        refine g_iln dX10_house_116 rfl rfl ?_
        obtain ⟨r24, e23, h⟩ := xbp_e h
        refine g_cV1v dX10_house_117 ml_X10_165 rfl (s_X4_at e23) (by decide) rfl ?_
        exact g_rI rfl dX10_house_120 h
      · replace h := xif_t q8 h
        refine g_drop_0 ?_
        refine g_drop_1 ?_
        refine g_drop_2 ?_
        exact hj5  h
