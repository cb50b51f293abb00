theorem dX10_readHouses_0 : decode cX10_readHouses 0 = .ok (.iconst 0, 1) := by decide +kernel
theorem dX10_readHouses_1 : decode cX10_readHouses 1 = .ok (.istore_n 1, 1) := by decide +kernel
theorem dX10_readHouses_2 : decode cX10_readHouses 2 = .ok (.iload_n 1, 1) := by decide +kernel
theorem dX10_readHouses_3 : decode cX10_readHouses 3 = .ok (.aload_n 0, 1) := by decide +kernel
theorem dX10_readHouses_4 : decode cX10_readHouses 4 = .ok (.getfield 12, 3) := by decide +kernel
theorem dX10_readHouses_7 : decode cX10_readHouses 7 = .ok (.getfield 112, 3) := by decide +kernel
theorem dX10_readHouses_10 : decode cX10_readHouses 10 = .ok (.if_icmp .ge 27, 3) := by decide +kernel
theorem dX10_readHouses_13 : decode cX10_readHouses 13 = .ok (.iload_n 1, 1) := by decide +kernel
theorem dX10_readHouses_14 : decode cX10_readHouses 14 = .ok (.bipush 23, 2) := by decide +kernel
theorem dX10_readHouses_16 : decode cX10_readHouses 16 = .ok (.if_icmp .eq 11, 3) := by decide +kernel
theorem dX10_readHouses_19 : decode cX10_readHouses 19 = .ok (.aload_n 0, 1) := by decide +kernel
theorem dX10_readHouses_20 : decode cX10_readHouses 20 = .ok (.iload_n 1, 1) := by decide +kernel
theorem dX10_readHouses_21 : decode cX10_readHouses 21 = .ok (.invokevirtual 413, 3) := by decide +kernel
theorem dX10_readHouses_24 : decode cX10_readHouses 24 = .ok (.ifCond .ne 7, 3) := by decide +kernel
theorem dX10_readHouses_27 : decode cX10_readHouses 27 = .ok (.iconst (-1), 1) := by decide +kernel
theorem dX10_readHouses_28 : decode cX10_readHouses 28 = .ok (.iload_n 1, 1) := by decide +kernel
theorem dX10_readHouses_29 : decode cX10_readHouses 29 = .ok (.isub, 1) := by decide +kernel
theorem dX10_readHouses_30 : decode cX10_readHouses 30 = .ok (.ireturn, 1) := by decide +kernel
theorem dX10_readHouses_31 : decode cX10_readHouses 31 = .ok (.iinc 1 1, 3) := by decide +kernel
theorem dX10_readHouses_34 : decode cX10_readHouses 34 = .ok (.goto (-32), 3) := by decide +kernel
theorem dX10_readHouses_37 : decode cX10_readHouses 37 = .ok (.aload_n 0, 1) := by decide +kernel
theorem dX10_readHouses_38 : decode cX10_readHouses 38 = .ok (.getfield 12, 3) := by decide +kernel
theorem dX10_readHouses_41 : decode cX10_readHouses 41 = .ok (.getfield 112, 3) := by decide +kernel
theorem dX10_readHouses_44 : decode cX10_readHouses 44 = .ok (.ifCond .eq 16, 3) := by decide +kernel
theorem dX10_readHouses_47 : decode cX10_readHouses 47 = .ok (.aload_n 0, 1) := by decide +kernel
theorem dX10_readHouses_48 : decode cX10_readHouses 48 = .ok (.getfield 12, 3) := by decide +kernel
theorem dX10_readHouses_51 : decode cX10_readHouses 51 = .ok (.getfield 112, 3) := by decide +kernel
theorem dX10_readHouses_54 : decode cX10_readHouses 54 = .ok (.iconst 3, 1) := by decide +kernel
theorem dX10_readHouses_55 : decode cX10_readHouses 55 = .ok (.irem, 1) := by decide +kernel
theorem dX10_readHouses_56 : decode cX10_readHouses 56 = .ok (.iconst 2, 1) := by decide +kernel
theorem dX10_readHouses_57 : decode cX10_readHouses 57 = .ok (.if_icmp .ne 7, 3) := by decide +kernel
theorem dX10_readHouses_60 : decode cX10_readHouses 60 = .ok (.iconst 1, 1) := by decide +kernel
theorem dX10_readHouses_61 : decode cX10_readHouses 61 = .ok (.goto 4, 3) := by decide +kernel
theorem dX10_readHouses_64 : decode cX10_readHouses 64 = .ok (.iconst 0, 1) := by decide +kernel
theorem dX10_readHouses_65 : decode cX10_readHouses 65 = .ok (.istore_n 1, 1) := by decide +kernel
theorem dX10_readHouses_66 : decode cX10_readHouses 66 = .ok (.iload_n 1, 1) := by decide +kernel
theorem dX10_readHouses_67 : decode cX10_readHouses 67 = .ok (.ifCond .eq 17, 3) := by decide +kernel
theorem dX10_readHouses_70 : decode cX10_readHouses 70 = .ok (.aload_n 0, 1) := by decide +kernel
theorem dX10_readHouses_71 : decode cX10_readHouses 71 = .ok (.getfield 12, 3) := by decide +kernel
theorem dX10_readHouses_74 : decode cX10_readHouses 74 = .ok (.getfield 112, 3) := by decide +kernel
theorem dX10_readHouses_77 : decode cX10_readHouses 77 = .ok (.iconst 1, 1) := by decide +kernel
theorem dX10_readHouses_78 : decode cX10_readHouses 78 = .ok (.iadd, 1) := by decide +kernel
theorem dX10_readHouses_79 : decode cX10_readHouses 79 = .ok (.iconst 3, 1) := by decide +kernel
theorem dX10_readHouses_80 : decode cX10_readHouses 80 = .ok (.idiv, 1) := by decide +kernel
theorem dX10_readHouses_81 : decode cX10_readHouses 81 = .ok (.goto 12, 3) := by decide +kernel
theorem dX10_readHouses_84 : decode cX10_readHouses 84 = .ok (.iconst (-1), 1) := by decide +kernel
theorem dX10_readHouses_85 : decode cX10_readHouses 85 = .ok (.aload_n 0, 1) := by decide +kernel
theorem dX10_readHouses_86 : decode cX10_readHouses 86 = .ok (.getfield 12, 3) := by decide +kernel
theorem dX10_readHouses_89 : decode cX10_readHouses 89 = .ok (.getfield 112, 3) := by decide +kernel
theorem dX10_readHouses_92 : decode cX10_readHouses 92 = .ok (.isub, 1) := by decide +kernel
theorem dX10_readHouses_93 : decode cX10_readHouses 93 = .ok (.ireturn, 1) := by decide +kernel
theorem s_X10_readHouses_2 {q : Int × xW} {k : Int → xW → Option (Int × xW)} (hk : ∀ (l1_13 : Int) (s14 : xW), k l1_13 s14 = some q → xG 3 0 0 mX10_readHouses 37 [vR 0, vI l1_13] [] 155 s14 (xRv (vI q.1) q.2)) : ∀ (f : Nat) (l1_1 : Int) (s2 : xW), F_X10_readHouses_2  f l1_1 s2 k = some q → xG 3 0 0 mX10_readHouses 2 [vR 0, vI l1_1] [] 155 s2 (xRv (vI q.1) q.2) := by
  intro f
  induction f with
  | zero => intro l1_1 s2 h; cases h
  | succ f ih =>
    intro l1_1 s2 h
    unfold F_X10_readHouses_2 at h
    refine g_iln dX10_readHouses_2 rfl rfl ?_
    refine g_aln dX10_readHouses_3 rfl rfl (by decide) ?_
    refine g_getC 1 dX10_readHouses_4 fl_X10_12 rfl (by decide) ?_
    refine g_getI 1 dX10_readHouses_7 fl_X10_112 rfl rfl ?_
    refine g_wge dX10_readHouses_10 (tgt := 37) rfl rfl rfl (fun q3 => ?_) (fun q3 => ?_)
    · replace h := xif_f q3 h
      exact hk l1_1 s2 h
    · replace h := xif_t q3 h
      refine g_iln dX10_readHouses_13 rfl rfl ?_
      refine g_bi dX10_readHouses_14 (by decide) ?_
      obtain ⟨j5, ej6, h⟩ := xjn_e h
      have hj7 : ∀ (s4 : xW), j5 s4 = some q → xG 3 0 0 mX10_readHouses 27 [vX, vI l1_1] [] 155 s4 (xRv (vI q.1) q.2) := by
        intro s4 h
        rw [ej6] at h
        refine g_ic dX10_readHouses_27 ?_
        refine g_iln dX10_readHouses_28 rfl rfl ?_
        refine g_isub dX10_readHouses_29 ?_
        exact g_rI rfl dX10_readHouses_30 h
      clear ej6
      refine g_weq dX10_readHouses_16 (tgt := 27) rfl rfl (xw_id (by decide)) (fun q8 => ?_) (fun q8 => ?_)
      · replace h := xif_f q8 h
        refine g_drop_0 ?_
        exact hj7 s2 h
      · replace h := xif_t q8 h
        refine g_aln dX10_readHouses_19 rfl rfl (by decide) ?_
        refine g_iln dX10_readHouses_20 rfl rfl ?_
        obtain ⟨r10, s11, e9, h⟩ := xbd_e h
        refine g_cV1v dX10_readHouses_21 ml_X10_413 rfl (s_X10_fitsHouse e9) (by decide) rfl ?_
        refine g_yne dX10_readHouses_24 (tgt := 31) rfl rfl (fun q12 => ?_) (fun q12 => ?_)
        · replace h := xif_f q12 h
          refine g_inc_1 dX10_readHouses_31 (by decide) rfl ?_
          refine g_goto dX10_readHouses_34 (tgt := 2) rfl ?_
          exact ih (l1_1 + 1) s11 h
        · replace h := xif_t q12 h
          refine g_drop_0 ?_
          exact hj7 s11 h
theorem s_X10_readHouses {s0 : xW} {q : Int × xW} (h : F_X10_readHouses  s0 = some q) : xC 3 0 0 mX10_readHouses [vR 0] 155 s0 (xRv (vI q.1) q.2) := by
  refine xC.of [vR 0, vX] (by decide +kernel) (Nat.le_of_ble_eq_true rfl) rfl ?_
  unfold F_X10_readHouses at h
  refine g_ic dX10_readHouses_0 ?_
  refine g_istn_1 dX10_readHouses_1 (by decide) rfl ?_
  refine s_X10_readHouses_2 (fun l1_15 s16 h => ?_) xN _ _ h
  refine g_aln dX10_readHouses_37 rfl rfl (by decide) ?_
  refine g_getC 1 dX10_readHouses_38 fl_X10_12 rfl (by decide) ?_
  refine g_getI 1 dX10_readHouses_41 fl_X10_112 rfl rfl ?_
  obtain ⟨j18, ej19, h⟩ := xjn_e h
  have hj20 : ∀ (t17 : Int), j18 t17 = some q → xG 3 0 0 mX10_readHouses 65 [vR 0, vX] [vI t17] 155 s16 (xRv (vI q.1) q.2) := by
    intro t17 h
    rw [ej19] at h
    refine g_istn_1 dX10_readHouses_65 (by decide) rfl ?_
    refine g_iln dX10_readHouses_66 rfl rfl ?_
    obtain ⟨j22, ej23, h⟩ := xjn_e h
    have hj24 : ∀ (t21 : Int), j22 t21 = some q → xG 3 0 0 mX10_readHouses 93 [vX, vX] [vI t21] 155 s16 (xRv (vI q.1) q.2) := by
      intro t21 h
      rw [ej23] at h
      exact g_rI rfl dX10_readHouses_93 h
    clear ej23
    refine g_yeq dX10_readHouses_67 (tgt := 84) rfl rfl (fun q25 => ?_) (fun q25 => ?_)
    · replace h := xif_f q25 h
      refine g_ic dX10_readHouses_84 ?_
      refine g_aln dX10_readHouses_85 rfl rfl (by decide) ?_
      refine g_getC 1 dX10_readHouses_86 fl_X10_12 rfl (by decide) ?_
      refine g_getI 1 dX10_readHouses_89 fl_X10_112 rfl rfl ?_
      refine g_isub dX10_readHouses_92 ?_
      refine g_drop_0 ?_
      refine g_drop_1 ?_
      exact hj24 ((-1) - (s16 1 1)) h
    · replace h := xif_t q25 h
      refine g_aln dX10_readHouses_70 rfl rfl (by decide) ?_
      refine g_getC 1 dX10_readHouses_71 fl_X10_12 rfl (by decide) ?_
      refine g_getI 1 dX10_readHouses_74 fl_X10_112 rfl rfl ?_
      refine g_ic dX10_readHouses_77 ?_
      refine g_iadd dX10_readHouses_78 ?_
      refine g_ic dX10_readHouses_79 ?_
      refine g_wdiv dX10_readHouses_80 rfl (xw_id (by decide)) (by decide) ?_
      refine g_goto dX10_readHouses_81 (tgt := 93) rfl ?_
      refine g_drop_0 ?_
      refine g_drop_1 ?_
      exact hj24 (Int.tdiv (xw ((s16 1 1) + 1)) 3) h
  clear ej19
  obtain ⟨j26, ej27, h⟩ := xjn_e h
  have hj28 : j26  = some q → xG 3 0 0 mX10_readHouses 60 [vR 0, vX] [] 155 s16 (xRv (vI q.1) q.2) := by
    intro  h
    rw [ej27] at h
    refine g_ic dX10_readHouses_60 ?_
    refine g_goto dX10_readHouses_61 (tgt := 65) rfl ?_
    exact hj20 1 h
  clear ej27
  refine g_yeq dX10_readHouses_44 (tgt := 60) rfl rfl (fun q29 => ?_) (fun q29 => ?_)
  · replace h := xif_f q29 h
    refine g_drop_1 ?_
    exact hj28  h
  · replace h := xif_t q29 h
    refine g_aln dX10_readHouses_47 rfl rfl (by decide) ?_
    refine g_getC 1 dX10_readHouses_48 fl_X10_12 rfl (by decide) ?_
    refine g_getI 1 dX10_readHouses_51 fl_X10_112 rfl rfl ?_
    refine g_ic dX10_readHouses_54 ?_
    refine g_wrem dX10_readHouses_55 rfl (xw_id (by decide)) (by decide) ?_
    refine g_ic dX10_readHouses_56 ?_
    refine g_wne dX10_readHouses_57 (tgt := 64) rfl rfl (xw_id (by decide)) (fun q30 => ?_) (fun q30 => ?_)
    · replace h := xif_f q30 h
      refine g_ic dX10_readHouses_64 ?_
      refine g_drop_1 ?_
      exact hj20 0 h
    · replace h := xif_t q30 h
      refine g_drop_1 ?_
      exact hj28  h
theorem dX10_houses_0 : decode cX10_houses 0 = .ok (.aload_n 0, 1) := by decide +kernel
theorem dX10_houses_1 : decode cX10_houses 1 = .ok (.invokevirtual 118, 3) := by decide +kernel
theorem dX10_houses_4 : decode cX10_houses 4 = .ok (.istore_n 1, 1) := by decide +kernel
theorem dX10_houses_5 : decode cX10_houses 5 = .ok (.iload_n 1, 1) := by decide +kernel
theorem dX10_houses_6 : decode cX10_houses 6 = .ok (.ifCond .le 17, 3) := by decide +kernel
theorem dX10_houses_9 : decode cX10_houses 9 = .ok (.aload_n 0, 1) := by decide +kernel
theorem dX10_houses_10 : decode cX10_houses 10 = .ok (.dup, 1) := by decide +kernel
theorem dX10_houses_11 : decode cX10_houses 11 = .ok (.getfield 93, 3) := by decide +kernel
theorem dX10_houses_14 : decode cX10_houses 14 = .ok (.iload_n 1, 1) := by decide +kernel
theorem dX10_houses_15 : decode cX10_houses 15 = .ok (.iadd, 1) := by decide +kernel
theorem dX10_houses_16 : decode cX10_houses 16 = .ok (.putfield 93, 3) := by decide +kernel
theorem dX10_houses_19 : decode cX10_houses 19 = .ok (.aload_n 0, 1) := by decide +kernel
theorem dX10_houses_20 : decode cX10_houses 20 = .ok (.invokevirtual 122, 3) := by decide +kernel
theorem dX10_houses_23 : decode cX10_houses 23 = .ok (.aload_n 0, 1) := by decide +kernel
theorem dX10_houses_24 : decode cX10_houses 24 = .ok (.getfield 12, 3) := by decide +kernel
theorem dX10_houses_27 : decode cX10_houses 27 = .ok (.invokevirtual 125, 3) := by decide +kernel
theorem dX10_houses_30 : decode cX10_houses 30 = .ok (.iload_n 1, 1) := by decide +kernel
theorem dX10_houses_31 : decode cX10_houses 31 = .ok (.ireturn, 1) := by decide +kernel
theorem s_X10_houses {s0 : xW} {q : Int × xW} (h : F_X10_houses  s0 = some q) : xC 4 0 0 mX10_houses [vR 0] 155 s0 (xRv (vI q.1) q.2) := by
  refine xC.of [vR 0, vX] (by decide +kernel) (Nat.le_of_ble_eq_true rfl) rfl ?_
  unfold F_X10_houses at h
  refine g_aln dX10_houses_0 rfl rfl (by decide) ?_
  obtain ⟨r2, s3, e1, h⟩ := xbd_e h
  refine g_cV0v dX10_houses_1 ml_X10_118 rfl (s_X10_readHouses e1) (by decide) rfl ?_
  refine g_istn_1 dX10_houses_4 (by decide) rfl ?_
  refine g_iln dX10_houses_5 rfl rfl ?_
  obtain ⟨j5, ej6, h⟩ := xjn_e h
  have hj7 : ∀ (s4 : xW), j5 s4 = some q → xG 4 0 0 mX10_houses 23 [vR 0, vI r2] [] 155 s4 (xRv (vI q.1) q.2) := by
    intro s4 h
    rw [ej6] at h
    refine g_aln dX10_houses_23 rfl rfl (by decide) ?_
    refine g_getC 1 dX10_houses_24 fl_X10_12 rfl (by decide) ?_
    obtain ⟨s9, e8, h⟩ := xbp_e h
    refine g_cV00 dX10_houses_27 ml_X10_125 rfl (s_X8_clear e8) (by decide) rfl ?_
    refine g_iln dX10_houses_30 rfl rfl ?_
    exact g_rI rfl dX10_houses_31 h
  clear ej6
  refine g_yle dX10_houses_6 (tgt := 23) rfl rfl (fun q10 => ?_) (fun q10 => ?_)
  · replace h := xif_f q10 h
    exact hj7 s3 h
  · replace h := xif_t q10 h
    refine g_aln dX10_houses_9 rfl rfl (by decide) ?_
    refine g_dup dX10_houses_10 rfl ?_
    refine g_getI 14 dX10_houses_11 fl_X10_93 rfl rfl ?_
    refine g_iln dX10_houses_14 rfl rfl ?_
    refine g_iadd dX10_houses_15 ?_
    obtain ⟨s11, e12, h⟩ := xlt_e h
    refine h_putI 14 dX10_houses_16 fl_X10_93 rfl rfl e12 ?_
    refine g_aln dX10_houses_19 rfl rfl (by decide) ?_
    obtain ⟨s14, e13, h⟩ := xbp_e h
    refine g_cV00 dX10_houses_20 ml_X10_122 rfl (s_X10_forgetPast e13) (by decide) rfl ?_
    exact hj7 s14 h
theorem dX10_housesAt_0 : decode cX10_housesAt 0 = .ok (.iconst 0, 1) := by decide +kernel
theorem dX10_housesAt_1 : decode cX10_housesAt 1 = .ok (.istore_n 2, 1) := by decide +kernel
theorem dX10_housesAt_2 : decode cX10_housesAt 2 = .ok (.iconst 0, 1) := by decide +kernel
theorem dX10_housesAt_3 : decode cX10_housesAt 3 = .ok (.istore_n 3, 1) := by decide +kernel
theorem dX10_housesAt_4 : decode cX10_housesAt 4 = .ok (.iload_n 3, 1) := by decide +kernel
theorem dX10_housesAt_5 : decode cX10_housesAt 5 = .ok (.aload_n 0, 1) := by decide +kernel
theorem dX10_housesAt_6 : decode cX10_housesAt 6 = .ok (.getfield 93, 3) := by decide +kernel
theorem dX10_housesAt_9 : decode cX10_housesAt 9 = .ok (.if_icmp .ge 32, 3) := by decide +kernel
theorem dX10_housesAt_12 : decode cX10_housesAt 12 = .ok (.iload_n 2, 1) := by decide +kernel
theorem dX10_housesAt_13 : decode cX10_housesAt 13 = .ok (.aload_n 0, 1) := by decide +kernel
theorem dX10_housesAt_14 : decode cX10_housesAt 14 = .ok (.getfield 68, 3) := by decide +kernel
theorem dX10_housesAt_17 : decode cX10_housesAt 17 = .ok (.getfield 325, 3) := by decide +kernel
theorem dX10_housesAt_20 : decode cX10_housesAt 20 = .ok (.iload_n 3, 1) := by decide +kernel
theorem dX10_housesAt_21 : decode cX10_housesAt 21 = .ok (.iaload, 1) := by decide +kernel
theorem dX10_housesAt_22 : decode cX10_housesAt 22 = .ok (.iload_n 1, 1) := by decide +kernel
theorem dX10_housesAt_23 : decode cX10_housesAt 23 = .ok (.if_icmp .ne 9, 3) := by decide +kernel
theorem dX10_housesAt_26 : decode cX10_housesAt 26 = .ok (.iconst 1, 1) := by decide +kernel
theorem dX10_housesAt_27 : decode cX10_housesAt 27 = .ok (.iload_n 3, 1) := by decide +kernel
theorem dX10_housesAt_28 : decode cX10_housesAt 28 = .ok (.ishl, 1) := by decide +kernel
theorem dX10_housesAt_29 : decode cX10_housesAt 29 = .ok (.goto 4, 3) := by decide +kernel
theorem dX10_housesAt_32 : decode cX10_housesAt 32 = .ok (.iconst 0, 1) := by decide +kernel
theorem dX10_housesAt_33 : decode cX10_housesAt 33 = .ok (.ior, 1) := by decide +kernel
theorem dX10_housesAt_34 : decode cX10_housesAt 34 = .ok (.istore_n 2, 1) := by decide +kernel
theorem dX10_housesAt_35 : decode cX10_housesAt 35 = .ok (.iinc 3 1, 3) := by decide +kernel
theorem dX10_housesAt_38 : decode cX10_housesAt 38 = .ok (.goto (-34), 3) := by decide +kernel
theorem dX10_housesAt_41 : decode cX10_housesAt 41 = .ok (.iload_n 2, 1) := by decide +kernel
theorem dX10_housesAt_42 : decode cX10_housesAt 42 = .ok (.ireturn, 1) := by decide +kernel
theorem s_X10_housesAt_4 {s4 : xW} {l1_1 : Int} {q : Int} {k : Int → Int → Option (Int)} (hk : ∀ (l2_11 : Int) (l3_12 : Int), k l2_11 l3_12 = some q → xG 0 0 0 mX10_housesAt 41 [vR 0, vI l1_1, vI l2_11, vI l3_12] [] 155 s4 (xRv (vI q) s4)) : ∀ (f : Nat) (l2_2 : Int) (l3_3 : Int), F_X10_housesAt_4 l1_1 s4 f l2_2 l3_3 k = some q → xG 0 0 0 mX10_housesAt 4 [vR 0, vI l1_1, vI l2_2, vI l3_3] [] 155 s4 (xRv (vI q) s4) := by
  intro f
  induction f with
  | zero => intro l2_2 l3_3 h; cases h
  | succ f ih =>
    intro l2_2 l3_3 h
    unfold F_X10_housesAt_4 at h
    refine g_iln dX10_housesAt_4 rfl rfl ?_
    refine g_aln dX10_housesAt_5 rfl rfl (by decide) ?_
    refine g_getI 14 dX10_housesAt_6 fl_X10_93 rfl rfl ?_
    refine g_wge dX10_housesAt_9 (tgt := 41) rfl rfl rfl (fun q5 => ?_) (fun q5 => ?_)
    · replace h := xif_f q5 h
      exact hk l2_2 l3_3 h
    · replace h := xif_t q5 h
      refine g_iln dX10_housesAt_12 rfl rfl ?_
      refine g_aln dX10_housesAt_13 rfl rfl (by decide) ?_
      refine g_getC 89 dX10_housesAt_14 fl_X10_68 rfl (by decide) ?_
      refine g_getC 91 dX10_housesAt_17 fl_X10_325 rfl (by decide) ?_
      refine g_iln dX10_housesAt_20 rfl rfl ?_
      obtain ⟨hg6, h⟩ := xgd_e h
      refine g_iald 8 dX10_housesAt_21 rfl hg6 (by decide) ?_
      refine g_iln dX10_housesAt_22 rfl rfl ?_
      obtain ⟨v8, e9, h⟩ := xlt_e h
      have hj10 : xG 0 0 0 mX10_housesAt 33 [vR 0, vI l1_1, vX, vI l3_3] [vI v8, vI l2_2] 155 s4 (xRv (vI q) s4) := by
        refine g_ior dX10_housesAt_33 ?_
        refine g_istn_2 dX10_housesAt_34 (by decide) rfl ?_
        refine g_inc_3 dX10_housesAt_35 (by decide) rfl ?_
        refine g_goto dX10_housesAt_38 (tgt := 4) rfl ?_
        exact ih (xor' l2_2 v8) (l3_3 + 1) h
      refine g_wne dX10_housesAt_23 (tgt := 32) rfl rfl rfl (fun c7 => ?_) (fun c7 => ?_)
      · skip
        refine g_ic dX10_housesAt_32 ?_
        refine g_drop_2 ?_
        exact g_vq ((if_neg c7).symm.trans e9) hj10
      · skip
        refine g_ic dX10_housesAt_26 ?_
        refine g_iln dX10_housesAt_27 rfl rfl ?_
        refine g_ishl dX10_housesAt_28 ?_
        refine g_goto dX10_housesAt_29 (tgt := 33) rfl ?_
        refine g_drop_2 ?_
        exact g_vq ((if_pos c7).symm.trans e9) hj10
theorem s_X10_housesAt {a1 : Int} {s0 : xW} {q : Int} (h : F_X10_housesAt a1 s0 = some q) : xC 0 0 0 mX10_housesAt [vR 0, vI a1] 155 s0 (xRv (vI q) s0) := by
  refine xC.of [vR 0, vI a1, vX, vX] (by decide +kernel) (Nat.le_of_ble_eq_true rfl) rfl ?_
  unfold F_X10_housesAt at h
  refine g_ic dX10_housesAt_0 ?_
  refine g_istn_2 dX10_housesAt_1 (by decide) rfl ?_
  refine g_ic dX10_housesAt_2 ?_
  refine g_istn_3 dX10_housesAt_3 (by decide) rfl ?_
  refine s_X10_housesAt_4 (fun l2_13 l3_14 h => ?_) xN _ _ h
  refine g_iln dX10_housesAt_41 rfl rfl ?_
  exact g_pI rfl dX10_housesAt_42 h
theorem dX10_salute_0 : decode cX10_salute 0 = .ok (.iload_n 2, 1) := by decide +kernel
theorem dX10_salute_1 : decode cX10_salute 1 = .ok (.iload_n 1, 1) := by decide +kernel
theorem dX10_salute_2 : decode cX10_salute 2 = .ok (.if_icmp .lt 7, 3) := by decide +kernel
theorem dX10_salute_5 : decode cX10_salute 5 = .ok (.iload_n 0, 1) := by decide +kernel
theorem dX10_salute_6 : decode cX10_salute 6 = .ok (.goto 4, 3) := by decide +kernel
theorem dX10_salute_9 : decode cX10_salute 9 = .ok (.iconst 0, 1) := by decide +kernel
theorem dX10_salute_10 : decode cX10_salute 10 = .ok (.iload_n 1, 1) := by decide +kernel
theorem dX10_salute_11 : decode cX10_salute 11 = .ok (.isub, 1) := by decide +kernel
theorem dX10_salute_12 : decode cX10_salute 12 = .ok (.iload_n 1, 1) := by decide +kernel
theorem dX10_salute_13 : decode cX10_salute 13 = .ok (.iload_n 2, 1) := by decide +kernel
theorem dX10_salute_14 : decode cX10_salute 14 = .ok (.if_icmp .ge 7, 3) := by decide +kernel
theorem dX10_salute_17 : decode cX10_salute 17 = .ok (.iconst 2, 1) := by decide +kernel
theorem dX10_salute_18 : decode cX10_salute 18 = .ok (.goto 4, 3) := by decide +kernel
theorem dX10_salute_21 : decode cX10_salute 21 = .ok (.iconst 0, 1) := by decide +kernel
theorem dX10_salute_22 : decode cX10_salute 22 = .ok (.isub, 1) := by decide +kernel
theorem dX10_salute_23 : decode cX10_salute 23 = .ok (.ireturn, 1) := by decide +kernel
theorem s_X10_salute {a0 a1 a2 : Int} {s0 : xW} {q : Int} (h : F_X10_salute a0 a1 a2 s0 = some q) : xC 0 0 0 mX10_salute [vI a0, vI a1, vI a2] 155 s0 (xRv (vI q) s0) := by
  refine xC.of [vI a0, vI a1, vI a2] (by decide +kernel) (Nat.le_of_ble_eq_true rfl) rfl ?_
  unfold F_X10_salute at h
  refine g_iln dX10_salute_0 rfl rfl ?_
  refine g_iln dX10_salute_1 rfl rfl ?_
  obtain ⟨v2, e3, h⟩ := xlt_e h
  have hj4 : xG 0 0 0 mX10_salute 10 [vX, vI a1, vI a2] [vI v2] 155 s0 (xRv (vI q) s0) := by
    refine g_iln dX10_salute_10 rfl rfl ?_
    refine g_isub dX10_salute_11 ?_
    refine g_iln dX10_salute_12 rfl rfl ?_
    refine g_iln dX10_salute_13 rfl rfl ?_
    obtain ⟨v6, e7, h⟩ := xlt_e h
    have hj8 : xG 0 0 0 mX10_salute 22 [vX, vX, vX] [vI v6, vI (v2 - a1)] 155 s0 (xRv (vI q) s0) := by
      refine g_isub dX10_salute_22 ?_
      exact g_pI rfl dX10_salute_23 h
    refine g_wge dX10_salute_14 (tgt := 21) rfl rfl rfl (fun c5 => ?_) (fun c5 => ?_)
    · skip
      refine g_ic dX10_salute_21 ?_
      refine g_drop_1 ?_
      refine g_drop_2 ?_
      exact g_vq ((if_neg c5).symm.trans e7) hj8
    · skip
      refine g_ic dX10_salute_17 ?_
      refine g_goto dX10_salute_18 (tgt := 22) rfl ?_
      refine g_drop_1 ?_
      refine g_drop_2 ?_
      exact g_vq ((if_pos c5).symm.trans e7) hj8
  refine g_wlt dX10_salute_2 (tgt := 9) rfl rfl rfl (fun c1 => ?_) (fun c1 => ?_)
  · skip
    refine g_ic dX10_salute_9 ?_
    refine g_drop_0 ?_
    exact g_vq ((if_neg c1).symm.trans e3) hj4
  · skip
    refine g_iln dX10_salute_5 rfl rfl ?_
    refine g_goto dX10_salute_6 (tgt := 10) rfl ?_
    refine g_drop_0 ?_
    exact g_vq ((if_pos c1).symm.trans e3) hj4
theorem dX10_isContent_0 : decode cX10_isContent 0 = .ok (.iload_n 0, 1) := by decide +kernel
theorem dX10_isContent_1 : decode cX10_isContent 1 = .ok (.iload_n 1, 1) := by decide +kernel
theorem dX10_isContent_2 : decode cX10_isContent 2 = .ok (.iload_n 2, 1) := by decide +kernel
theorem dX10_isContent_3 : decode cX10_isContent 3 = .ok (.invokestatic 476, 3) := by decide +kernel
theorem dX10_isContent_6 : decode cX10_isContent 6 = .ok (.istore_n 3, 1) := by decide +kernel
theorem dX10_isContent_7 : decode cX10_isContent 7 = .ok (.iconst 0, 1) := by decide +kernel
theorem dX10_isContent_8 : decode cX10_isContent 8 = .ok (.istore 4, 2) := by decide +kernel
theorem dX10_isContent_10 : decode cX10_isContent 10 = .ok (.iload 4, 2) := by decide +kernel
theorem dX10_isContent_12 : decode cX10_isContent 12 = .ok (.bipush 9, 2) := by decide +kernel
theorem dX10_isContent_14 : decode cX10_isContent 14 = .ok (.if_icmp .gt 22, 3) := by decide +kernel
theorem dX10_isContent_17 : decode cX10_isContent 17 = .ok (.iload_n 0, 1) := by decide +kernel
theorem dX10_isContent_18 : decode cX10_isContent 18 = .ok (.iload 4, 2) := by decide +kernel
theorem dX10_isContent_20 : decode cX10_isContent 20 = .ok (.iload_n 2, 1) := by decide +kernel
theorem dX10_isContent_21 : decode cX10_isContent 21 = .ok (.invokestatic 476, 3) := by decide +kernel
theorem dX10_isContent_24 : decode cX10_isContent 24 = .ok (.iload_n 3, 1) := by decide +kernel
theorem dX10_isContent_25 : decode cX10_isContent 25 = .ok (.if_icmp .le 5, 3) := by decide +kernel
theorem dX10_isContent_28 : decode cX10_isContent 28 = .ok (.iconst 0, 1) := by decide +kernel
theorem dX10_isContent_29 : decode cX10_isContent 29 = .ok (.ireturn, 1) := by decide +kernel
theorem dX10_isContent_30 : decode cX10_isContent 30 = .ok (.iinc 4 1, 3) := by decide +kernel
theorem dX10_isContent_33 : decode cX10_isContent 33 = .ok (.goto (-23), 3) := by decide +kernel
theorem dX10_isContent_36 : decode cX10_isContent 36 = .ok (.iconst 1, 1) := by decide +kernel
theorem dX10_isContent_37 : decode cX10_isContent 37 = .ok (.ireturn, 1) := by decide +kernel
theorem s_X10_isContent_10 {s7 : xW} {l0_3 l2_4 l3_5 : Int} {q : Int} {k : Int → Option (Int)} (hk : ∀ (l4_12 : Int), k l4_12 = some q → xG 1 0 0 mX10_isContent 36 [vI l0_3, vX, vI l2_4, vI l3_5, vI l4_12] [] 155 s7 (xRv (vI q) s7)) : ∀ (f : Nat) (l4_6 : Int), F_X10_isContent_10 l0_3 l2_4 l3_5 s7 f l4_6 k = some q → xG 1 0 0 mX10_isContent 10 [vI l0_3, vX, vI l2_4, vI l3_5, vI l4_6] [] 155 s7 (xRv (vI q) s7) := by
  intro f
  induction f with
  | zero => intro l4_6 h; cases h
  | succ f ih =>
    intro l4_6 h
    unfold F_X10_isContent_10 at h
    refine g_il dX10_isContent_10 rfl ?_
    refine g_bi dX10_isContent_12 (by decide) ?_
    refine g_wgt dX10_isContent_14 (tgt := 36) rfl rfl (xw_id (by decide)) (fun q8 => ?_) (fun q8 => ?_)
    · replace h := xif_f q8 h
      exact hk l4_6 h
    · replace h := xif_t q8 h
      refine g_iln dX10_isContent_17 rfl rfl ?_
      refine g_il dX10_isContent_18 rfl ?_
      refine g_iln dX10_isContent_20 rfl rfl ?_
      obtain ⟨r10, e9, h⟩ := xbp_e h
      refine g_cS3v dX10_isContent_21 ml_X10_476 (s_X10_salute e9) (by decide) rfl ?_
      refine g_iln dX10_isContent_24 rfl rfl ?_
      refine g_wle dX10_isContent_25 (tgt := 30) rfl rfl rfl (fun q11 => ?_) (fun q11 => ?_)
      · replace h := xif_f q11 h
        refine g_inc_4 dX10_isContent_30 (by decide) rfl ?_
        refine g_goto dX10_isContent_33 (tgt := 10) rfl ?_
        exact ih (l4_6 + 1) h
      · replace h := xif_t q11 h
        refine g_ic dX10_isContent_28 ?_
        exact g_pZ rfl dX10_isContent_29 (by decide) h
theorem s_X10_isContent {a0 a1 a2 : Int} {s0 : xW} {q : Int} (h : F_X10_isContent a0 a1 a2 s0 = some q) : xC 1 0 0 mX10_isContent [vI a0, vI a1, vI a2] 155 s0 (xRv (vI q) s0) := by
  refine xC.of [vI a0, vI a1, vI a2, vX, vX] (by decide +kernel) (Nat.le_of_ble_eq_true rfl) rfl ?_
  unfold F_X10_isContent at h
  refine g_iln dX10_isContent_0 rfl rfl ?_
  refine g_iln dX10_isContent_1 rfl rfl ?_
  refine g_iln dX10_isContent_2 rfl rfl ?_
  obtain ⟨r2, e1, h⟩ := xbp_e h
  refine g_cS3v dX10_isContent_3 ml_X10_476 (s_X10_salute e1) (by decide) rfl ?_
  refine g_istn_3 dX10_isContent_6 (by decide) rfl ?_
  refine g_ic dX10_isContent_7 ?_
  refine g_ist_4 dX10_isContent_8 (by decide) rfl ?_
  refine g_drop_1 ?_
  refine s_X10_isContent_10 (fun l4_13 h => ?_) xN _ h
  refine g_ic dX10_isContent_36 ?_
  exact g_pZ rfl dX10_isContent_37 (by decide) h
theorem dX10_keep_0 : decode cX10_keep 0 = .ok (.iload_n 1, 1) := by decide +kernel
theorem dX10_keep_1 : decode cX10_keep 1 = .ok (.ifCond .lt 8, 3) := by decide +kernel
theorem dX10_keep_4 : decode cX10_keep 4 = .ok (.iload_n 1, 1) := by decide +kernel
theorem dX10_keep_5 : decode cX10_keep 5 = .ok (.iconst 3, 1) := by decide +kernel
theorem dX10_keep_6 : decode cX10_keep 6 = .ok (.if_icmp .lt 5, 3) := by decide +kernel
theorem dX10_keep_9 : decode cX10_keep 9 = .ok (.iconst 0, 1) := by decide +kernel
theorem dX10_keep_10 : decode cX10_keep 10 = .ok (.ireturn, 1) := by decide +kernel
theorem dX10_keep_11 : decode cX10_keep 11 = .ok (.aload_n 0, 1) := by decide +kernel
theorem dX10_keep_12 : decode cX10_keep 12 = .ok (.getfield 57, 3) := by decide +kernel
theorem dX10_keep_15 : decode cX10_keep 15 = .ok (.iload_n 1, 1) := by decide +kernel
theorem dX10_keep_16 : decode cX10_keep 16 = .ok (.aaload, 1) := by decide +kernel
theorem dX10_keep_17 : decode cX10_keep 17 = .ok (.aload_n 0, 1) := by decide +kernel
theorem dX10_keep_18 : decode cX10_keep 18 = .ok (.getfield 46, 3) := by decide +kernel
theorem dX10_keep_21 : decode cX10_keep 21 = .ok (.invokevirtual 398, 3) := by decide +kernel
theorem dX10_keep_24 : decode cX10_keep 24 = .ok (.aload_n 0, 1) := by decide +kernel
theorem dX10_keep_25 : decode cX10_keep 25 = .ok (.getfield 61, 3) := by decide +kernel
theorem dX10_keep_28 : decode cX10_keep 28 = .ok (.iload_n 1, 1) := by decide +kernel
theorem dX10_keep_29 : decode cX10_keep 29 = .ok (.iconst 1, 1) := by decide +kernel
theorem dX10_keep_30 : decode cX10_keep 30 = .ok (.bastore, 1) := by decide +kernel
theorem dX10_keep_31 : decode cX10_keep 31 = .ok (.iconst 1, 1) := by decide +kernel
theorem dX10_keep_32 : decode cX10_keep 32 = .ok (.ireturn, 1) := by decide +kernel
theorem s_X10_keep {a1 : Int} {s0 : xW} {q : Int × xW} (h : F_X10_keep a1 s0 = some q) : xC 2 0 0 mX10_keep [vR 0, vI a1] 155 s0 (xRv (vI q.1) q.2) := by
  refine xC.of [vR 0, vI a1] (by decide +kernel) (Nat.le_of_ble_eq_true rfl) rfl ?_
  unfold F_X10_keep at h
  refine g_iln dX10_keep_0 rfl rfl ?_
  obtain ⟨j1, ej2, h⟩ := xjn_e h
  have hj3 : j1  = some q → xG 2 0 0 mX10_keep 9 [vX, vX] [] 155 s0 (xRv (vI q.1) q.2) := by
    intro  h
    rw [ej2] at h
    refine g_ic dX10_keep_9 ?_
    exact g_rZ rfl dX10_keep_10 (by decide) h
  clear ej2
  refine g_ylt dX10_keep_1 (tgt := 9) rfl rfl (fun q4 => ?_) (fun q4 => ?_)
  · replace h := xif_f q4 h
    refine g_drop_0 ?_
    refine g_drop_1 ?_
    exact hj3  h
  · replace h := xif_t q4 h
    refine g_iln dX10_keep_4 rfl rfl ?_
    refine g_ic dX10_keep_5 ?_
    refine g_wlt dX10_keep_6 (tgt := 11) rfl rfl (xw_id (by decide)) (fun q5 => ?_) (fun q5 => ?_)
    · replace h := xif_f q5 h
      refine g_aln dX10_keep_11 rfl rfl (by decide) ?_
      refine g_getC 87 dX10_keep_12 fl_X10_57 rfl (by decide) ?_
      refine g_iln dX10_keep_15 rfl rfl ?_
      obtain ⟨hg6, h⟩ := xgd_e h
      obtain ⟨hg7, h⟩ := xgd_e h
      refine g_aald 3 109 dX10_keep_16 rfl rfl hg6 (by decide) ?_
      refine g_aln dX10_keep_17 rfl rfl (by decide) ?_
      refine g_getC 17 dX10_keep_18 fl_X10_46 rfl (by decide) ?_
      obtain ⟨s9, e8, h⟩ := xbp_e h
      refine g_cV10 dX10_keep_21 ml_X10_398 (xf_town_33 _ hg7) (s_X9_copy e8) (by decide) rfl ?_
      refine g_aln dX10_keep_24 rfl rfl (by decide) ?_
      refine g_getC 88 dX10_keep_25 fl_X10_61 rfl (by decide) ?_
      refine g_iln dX10_keep_28 rfl rfl ?_
      refine g_ic dX10_keep_29 ?_
      obtain ⟨hg10, h⟩ := xgd_e h
      obtain ⟨s11, e12, h⟩ := xlt_e h
      refine h_zast 3 dX10_keep_30 rfl hg10 (by decide) (by decide) e12 ?_
      refine g_ic dX10_keep_31 ?_
      exact g_rZ rfl dX10_keep_32 (by decide) h
    · replace h := xif_t q5 h
      refine g_drop_0 ?_
      refine g_drop_1 ?_
      exact hj3  h
theorem dX4_minuteBehind_0 : decode cX4_minuteBehind 0 = .ok (.iconst 0, 1) := by decide +kernel
theorem dX4_minuteBehind_1 : decode cX4_minuteBehind 1 = .ok (.istore_n 1, 1) := by decide +kernel
theorem dX4_minuteBehind_2 : decode cX4_minuteBehind 2 = .ok (.iconst 0, 1) := by decide +kernel
theorem dX4_minuteBehind_3 : decode cX4_minuteBehind 3 = .ok (.istore_n 2, 1) := by decide +kernel
theorem dX4_minuteBehind_4 : decode cX4_minuteBehind 4 = .ok (.iload_n 2, 1) := by decide +kernel
theorem dX4_minuteBehind_5 : decode cX4_minuteBehind 5 = .ok (.aload_n 0, 1) := by decide +kernel
theorem dX4_minuteBehind_6 : decode cX4_minuteBehind 6 = .ok (.getfield 9, 3) := by decide +kernel
theorem dX4_minuteBehind_9 : decode cX4_minuteBehind 9 = .ok (.if_icmp .ge 20, 3) := by decide +kernel
theorem dX4_minuteBehind_12 : decode cX4_minuteBehind 12 = .ok (.iload_n 1, 1) := by decide +kernel
theorem dX4_minuteBehind_13 : decode cX4_minuteBehind 13 = .ok (.aload_n 0, 1) := by decide +kernel
theorem dX4_minuteBehind_14 : decode cX4_minuteBehind 14 = .ok (.getfield 25, 3) := by decide +kernel
theorem dX4_minuteBehind_17 : decode cX4_minuteBehind 17 = .ok (.iload_n 2, 1) := by decide +kernel
theorem dX4_minuteBehind_18 : decode cX4_minuteBehind 18 = .ok (.iaload, 1) := by decide +kernel
theorem dX4_minuteBehind_19 : decode cX4_minuteBehind 19 = .ok (.invokestatic 47, 3) := by decide +kernel
theorem dX4_minuteBehind_22 : decode cX4_minuteBehind 22 = .ok (.istore_n 1, 1) := by decide +kernel
theorem dX4_minuteBehind_23 : decode cX4_minuteBehind 23 = .ok (.iinc 2 1, 3) := by decide +kernel
theorem dX4_minuteBehind_26 : decode cX4_minuteBehind 26 = .ok (.goto (-22), 3) := by decide +kernel
theorem dX4_minuteBehind_29 : decode cX4_minuteBehind 29 = .ok (.iload_n 1, 1) := by decide +kernel
theorem dX4_minuteBehind_30 : decode cX4_minuteBehind 30 = .ok (.ireturn, 1) := by decide +kernel
theorem s_X4_minuteBehind_4 {s3 : xW} {q : Int} {k : Int → Int → Option (Int)} (hk : ∀ (l1_6 : Int) (l2_7 : Int), k l1_6 l2_7 = some q → xG 1 0 0 mX4_minuteBehind 29 [vR 92, vI l1_6, vI l2_7] [] 155 s3 (xRv (vI q) s3)) : ∀ (f : Nat) (l1_1 : Int) (l2_2 : Int), F_X4_minuteBehind_4 s3 f l1_1 l2_2 k = some q → xG 1 0 0 mX4_minuteBehind 4 [vR 92, vI l1_1, vI l2_2] [] 155 s3 (xRv (vI q) s3) := by
  intro f
  induction f with
  | zero => intro l1_1 l2_2 h; cases h
  | succ f ih =>
    intro l1_1 l2_2 h
    unfold F_X4_minuteBehind_4 at h
    refine g_iln dX4_minuteBehind_4 rfl rfl ?_
    refine g_aln dX4_minuteBehind_5 rfl rfl (by decide) ?_
    refine g_getI 0 dX4_minuteBehind_6 fl_X4_9 rfl rfl ?_
    refine g_wge dX4_minuteBehind_9 (tgt := 29) rfl rfl rfl (fun q4 => ?_) (fun q4 => ?_)
    · replace h := xif_f q4 h
      exact hk l1_1 l2_2 h
    · replace h := xif_t q4 h
      refine g_iln dX4_minuteBehind_12 rfl rfl ?_
      refine g_aln dX4_minuteBehind_13 rfl rfl (by decide) ?_
      refine g_getC 96 dX4_minuteBehind_14 fl_X4_25 rfl (by decide) ?_
      refine g_iln dX4_minuteBehind_17 rfl rfl ?_
      obtain ⟨hg5, h⟩ := xgd_e h
      refine g_iald 8 dX4_minuteBehind_18 rfl hg5 (by decide) ?_
      refine g_wmax dX4_minuteBehind_19 mx_X4_47 rfl rfl (by decide) rfl ?_
      refine g_istn_1 dX4_minuteBehind_22 (by decide) rfl ?_
      refine g_inc_2 dX4_minuteBehind_23 (by decide) rfl ?_
      refine g_goto dX4_minuteBehind_26 (tgt := 4) rfl ?_
      exact ih (max (xw l1_1) (xw (s3 96 l2_2))) (l2_2 + 1) h
theorem s_X4_minuteBehind {s0 : xW} {q : Int} (h : F_X4_minuteBehind  s0 = some q) : xC 1 0 0 mX4_minuteBehind [vR 92] 155 s0 (xRv (vI q) s0) := by
  refine xC.of [vR 92, vX, vX] (by decide +kernel) (Nat.le_of_ble_eq_true rfl) rfl ?_
  unfold F_X4_minuteBehind at h
  refine g_ic dX4_minuteBehind_0 ?_
  refine g_istn_1 dX4_minuteBehind_1 (by decide) rfl ?_
  refine g_ic dX4_minuteBehind_2 ?_
  refine g_istn_2 dX4_minuteBehind_3 (by decide) rfl ?_
  refine s_X4_minuteBehind_4 (fun l1_8 l2_9 h => ?_) xN _ _ h
  refine g_iln dX4_minuteBehind_29 rfl rfl ?_
  exact g_pI rfl dX4_minuteBehind_30 h
theorem dX4_firstMinute_0 : decode cX4_firstMinute 0 = .ok (.aload_n 0, 1) := by decide +kernel
theorem dX4_firstMinute_1 : decode cX4_firstMinute 1 = .ok (.getfield 9, 3) := by decide +kernel
theorem dX4_firstMinute_4 : decode cX4_firstMinute 4 = .ok (.ifCond .le 12, 3) := by decide +kernel
theorem dX4_firstMinute_7 : decode cX4_firstMinute 7 = .ok (.aload_n 0, 1) := by decide +kernel
theorem dX4_firstMinute_8 : decode cX4_firstMinute 8 = .ok (.getfield 22, 3) := by decide +kernel
theorem dX4_firstMinute_11 : decode cX4_firstMinute 11 = .ok (.iconst 0, 1) := by decide +kernel
theorem dX4_firstMinute_12 : decode cX4_firstMinute 12 = .ok (.iaload, 1) := by decide +kernel
theorem dX4_firstMinute_13 : decode cX4_firstMinute 13 = .ok (.goto 4, 3) := by decide +kernel
theorem dX4_firstMinute_16 : decode cX4_firstMinute 16 = .ok (.iconst 0, 1) := by decide +kernel
theorem dX4_firstMinute_17 : decode cX4_firstMinute 17 = .ok (.istore_n 1, 1) := by decide +kernel
theorem dX4_firstMinute_18 : decode cX4_firstMinute 18 = .ok (.iconst 1, 1) := by decide +kernel
theorem dX4_firstMinute_19 : decode cX4_firstMinute 19 = .ok (.istore_n 2, 1) := by decide +kernel
theorem dX4_firstMinute_20 : decode cX4_firstMinute 20 = .ok (.iload_n 2, 1) := by decide +kernel
theorem dX4_firstMinute_21 : decode cX4_firstMinute 21 = .ok (.aload_n 0, 1) := by decide +kernel
theorem dX4_firstMinute_22 : decode cX4_firstMinute 22 = .ok (.getfield 9, 3) := by decide +kernel
theorem dX4_firstMinute_25 : decode cX4_firstMinute 25 = .ok (.if_icmp .ge 20, 3) := by decide +kernel
theorem dX4_firstMinute_28 : decode cX4_firstMinute 28 = .ok (.iload_n 1, 1) := by decide +kernel
theorem dX4_firstMinute_29 : decode cX4_firstMinute 29 = .ok (.aload_n 0, 1) := by decide +kernel
theorem dX4_firstMinute_30 : decode cX4_firstMinute 30 = .ok (.getfield 22, 3) := by decide +kernel
theorem dX4_firstMinute_33 : decode cX4_firstMinute 33 = .ok (.iload_n 2, 1) := by decide +kernel
theorem dX4_firstMinute_34 : decode cX4_firstMinute 34 = .ok (.iaload, 1) := by decide +kernel
theorem dX4_firstMinute_35 : decode cX4_firstMinute 35 = .ok (.invokestatic 41, 3) := by decide +kernel
theorem dX4_firstMinute_38 : decode cX4_firstMinute 38 = .ok (.istore_n 1, 1) := by decide +kernel
theorem dX4_firstMinute_39 : decode cX4_firstMinute 39 = .ok (.iinc 2 1, 3) := by decide +kernel
theorem dX4_firstMinute_42 : decode cX4_firstMinute 42 = .ok (.goto (-22), 3) := by decide +kernel
theorem dX4_firstMinute_45 : decode cX4_firstMinute 45 = .ok (.iload_n 1, 1) := by decide +kernel
theorem dX4_firstMinute_46 : decode cX4_firstMinute 46 = .ok (.ireturn, 1) := by decide +kernel
theorem s_X4_firstMinute_20 {s7 : xW} {q : Int} {k : Int → Int → Option (Int)} (hk : ∀ (l1_10 : Int) (l2_11 : Int), k l1_10 l2_11 = some q → xG 1 0 0 mX4_firstMinute 45 [vR 92, vI l1_10, vI l2_11] [] 155 s7 (xRv (vI q) s7)) : ∀ (f : Nat) (l1_5 : Int) (l2_6 : Int), F_X4_firstMinute_20 s7 f l1_5 l2_6 k = some q → xG 1 0 0 mX4_firstMinute 20 [vR 92, vI l1_5, vI l2_6] [] 155 s7 (xRv (vI q) s7) := by
  intro f
  induction f with
  | zero => intro l1_5 l2_6 h; cases h
  | succ f ih =>
    intro l1_5 l2_6 h
    unfold F_X4_firstMinute_20 at h
    refine g_iln dX4_firstMinute_20 rfl rfl ?_
    refine g_aln dX4_firstMinute_21 rfl rfl (by decide) ?_
    refine g_getI 0 dX4_firstMinute_22 fl_X4_9 rfl rfl ?_
    refine g_wge dX4_firstMinute_25 (tgt := 45) rfl rfl rfl (fun q8 => ?_) (fun q8 => ?_)
    · replace h := xif_f q8 h
      exact hk l1_5 l2_6 h
    · replace h := xif_t q8 h
      refine g_iln dX4_firstMinute_28 rfl rfl ?_
      refine g_aln dX4_firstMinute_29 rfl rfl (by decide) ?_
      refine g_getC 95 dX4_firstMinute_30 fl_X4_22 rfl (by decide) ?_
      refine g_iln dX4_firstMinute_33 rfl rfl ?_
      obtain ⟨hg9, h⟩ := xgd_e h
      refine g_iald 8 dX4_firstMinute_34 rfl hg9 (by decide) ?_
      refine g_wmin dX4_firstMinute_35 mx_X4_41 rfl rfl (by decide) rfl ?_
      refine g_istn_1 dX4_firstMinute_38 (by decide) rfl ?_
      refine g_inc_2 dX4_firstMinute_39 (by decide) rfl ?_
      refine g_goto dX4_firstMinute_42 (tgt := 20) rfl ?_
      exact ih (min (xw l1_5) (xw (s7 95 l2_6))) (l2_6 + 1) h
theorem s_X4_firstMinute {s0 : xW} {q : Int} (h : F_X4_firstMinute  s0 = some q) : xC 1 0 0 mX4_firstMinute [vR 92] 155 s0 (xRv (vI q) s0) := by
  refine xC.of [vR 92, vX, vX] (by decide +kernel) (Nat.le_of_ble_eq_true rfl) rfl ?_
  unfold F_X4_firstMinute at h
  refine g_aln dX4_firstMinute_0 rfl rfl (by decide) ?_
  refine g_getI 0 dX4_firstMinute_1 fl_X4_9 rfl rfl ?_
  obtain ⟨j2, ej3, h⟩ := xjn_e h
  have hj4 : ∀ (t1 : Int), j2 t1 = some q → xG 1 0 0 mX4_firstMinute 17 [vR 92, vX, vX] [vI t1] 155 s0 (xRv (vI q) s0) := by
    intro t1 h
    rw [ej3] at h
    refine g_istn_1 dX4_firstMinute_17 (by decide) rfl ?_
    refine g_ic dX4_firstMinute_18 ?_
    refine g_istn_2 dX4_firstMinute_19 (by decide) rfl ?_
    refine s_X4_firstMinute_20 (fun l1_12 l2_13 h => ?_) xN _ _ h
    refine g_iln dX4_firstMinute_45 rfl rfl ?_
    exact g_pI rfl dX4_firstMinute_46 h
  clear ej3
  refine g_yle dX4_firstMinute_4 (tgt := 16) rfl rfl (fun q14 => ?_) (fun q14 => ?_)
  · replace h := xif_f q14 h
    refine g_ic dX4_firstMinute_16 ?_
    exact hj4 0 h
  · replace h := xif_t q14 h
    refine g_aln dX4_firstMinute_7 rfl rfl (by decide) ?_
    refine g_getC 95 dX4_firstMinute_8 fl_X4_22 rfl (by decide) ?_
    refine g_ic dX4_firstMinute_11 ?_
    refine g_iald 8 dX4_firstMinute_12 rfl (by decide) (by decide) ?_
    refine g_goto dX4_firstMinute_13 (tgt := 17) rfl ?_
    exact hj4 (s0 95 0) h
theorem dX4_howMany_0 : decode cX4_howMany 0 = .ok (.iconst 0, 1) := by decide +kernel
theorem dX4_howMany_1 : decode cX4_howMany 1 = .ok (.istore_n 3, 1) := by decide +kernel
theorem dX4_howMany_2 : decode cX4_howMany 2 = .ok (.iconst 0, 1) := by decide +kernel
theorem dX4_howMany_3 : decode cX4_howMany 3 = .ok (.istore 4, 2) := by decide +kernel
theorem dX4_howMany_5 : decode cX4_howMany 5 = .ok (.iload 4, 2) := by decide +kernel
theorem dX4_howMany_7 : decode cX4_howMany 7 = .ok (.aload_n 0, 1) := by decide +kernel
theorem dX4_howMany_8 : decode cX4_howMany 8 = .ok (.getfield 9, 3) := by decide +kernel
theorem dX4_howMany_11 : decode cX4_howMany 11 = .ok (.if_icmp .ge 63, 3) := by decide +kernel
theorem dX4_howMany_14 : decode cX4_howMany 14 = .ok (.aload_n 0, 1) := by decide +kernel
theorem dX4_howMany_15 : decode cX4_howMany 15 = .ok (.getfield 22, 3) := by decide +kernel
theorem dX4_howMany_18 : decode cX4_howMany 18 = .ok (.iload 4, 2) := by decide +kernel
theorem dX4_howMany_20 : decode cX4_howMany 20 = .ok (.iaload, 1) := by decide +kernel
theorem dX4_howMany_21 : decode cX4_howMany 21 = .ok (.iload_n 1, 1) := by decide +kernel
theorem dX4_howMany_22 : decode cX4_howMany 22 = .ok (.if_icmp .gt 18, 3) := by decide +kernel
theorem dX4_howMany_25 : decode cX4_howMany 25 = .ok (.iload_n 1, 1) := by decide +kernel
theorem dX4_howMany_26 : decode cX4_howMany 26 = .ok (.aload_n 0, 1) := by decide +kernel
theorem dX4_howMany_27 : decode cX4_howMany 27 = .ok (.getfield 25, 3) := by decide +kernel
theorem dX4_howMany_30 : decode cX4_howMany 30 = .ok (.iload 4, 2) := by decide +kernel
theorem dX4_howMany_32 : decode cX4_howMany 32 = .ok (.iaload, 1) := by decide +kernel
theorem dX4_howMany_33 : decode cX4_howMany 33 = .ok (.if_icmp .ge 7, 3) := by decide +kernel
theorem dX4_howMany_36 : decode cX4_howMany 36 = .ok (.iconst 1, 1) := by decide +kernel
theorem dX4_howMany_37 : decode cX4_howMany 37 = .ok (.goto 4, 3) := by decide +kernel
theorem dX4_howMany_40 : decode cX4_howMany 40 = .ok (.iconst 0, 1) := by decide +kernel
theorem dX4_howMany_41 : decode cX4_howMany 41 = .ok (.istore 5, 2) := by decide +kernel
theorem dX4_howMany_43 : decode cX4_howMany 43 = .ok (.iload_n 3, 1) := by decide +kernel
theorem dX4_howMany_44 : decode cX4_howMany 44 = .ok (.iload 5, 2) := by decide +kernel
theorem dX4_howMany_46 : decode cX4_howMany 46 = .ok (.ifCond .eq 19, 3) := by decide +kernel
theorem dX4_howMany_49 : decode cX4_howMany 49 = .ok (.aload_n 0, 1) := by decide +kernel
theorem dX4_howMany_50 : decode cX4_howMany 50 = .ok (.getfield 19, 3) := by decide +kernel
theorem dX4_howMany_53 : decode cX4_howMany 53 = .ok (.iload 4, 2) := by decide +kernel
theorem dX4_howMany_55 : decode cX4_howMany 55 = .ok (.iaload, 1) := by decide +kernel
theorem dX4_howMany_56 : decode cX4_howMany 56 = .ok (.iload_n 2, 1) := by decide +kernel
theorem dX4_howMany_57 : decode cX4_howMany 57 = .ok (.iand, 1) := by decide +kernel
theorem dX4_howMany_58 : decode cX4_howMany 58 = .ok (.ifCond .eq 7, 3) := by decide +kernel
theorem dX4_howMany_61 : decode cX4_howMany 61 = .ok (.iconst 1, 1) := by decide +kernel
theorem dX4_howMany_62 : decode cX4_howMany 62 = .ok (.goto 4, 3) := by decide +kernel
theorem dX4_howMany_65 : decode cX4_howMany 65 = .ok (.iconst 0, 1) := by decide +kernel
theorem dX4_howMany_66 : decode cX4_howMany 66 = .ok (.iadd, 1) := by decide +kernel
theorem dX4_howMany_67 : decode cX4_howMany 67 = .ok (.istore_n 3, 1) := by decide +kernel
theorem dX4_howMany_68 : decode cX4_howMany 68 = .ok (.iinc 4 1, 3) := by decide +kernel
theorem dX4_howMany_71 : decode cX4_howMany 71 = .ok (.goto (-66), 3) := by decide +kernel
theorem dX4_howMany_74 : decode cX4_howMany 74 = .ok (.iload_n 3, 1) := by decide +kernel
theorem dX4_howMany_75 : decode cX4_howMany 75 = .ok (.ireturn, 1) := by decide +kernel
theorem s_X4_howMany_5 {s5 : xW} {l1_1 l2_2 : Int} {q : Int} {k : Int → Int → Option (Int)} (hk : ∀ (l3_28 : Int) (l4_29 : Int), k l3_28 l4_29 = some q → xG 0 0 0 mX4_howMany 74 [vR 92, vI l1_1, vI l2_2, vI l3_28, vI l4_29, vX] [] 155 s5 (xRv (vI q) s5)) : ∀ (f : Nat) (l3_3 : Int) (l4_4 : Int), F_X4_howMany_5 l1_1 l2_2 s5 f l3_3 l4_4 k = some q → xG 0 0 0 mX4_howMany 5 [vR 92, vI l1_1, vI l2_2, vI l3_3, vI l4_4, vX] [] 155 s5 (xRv (vI q) s5) := by
  intro f
  induction f with
  | zero => intro l3_3 l4_4 h; cases h
  | succ f ih =>
    intro l3_3 l4_4 h
    unfold F_X4_howMany_5 at h
    refine g_il dX4_howMany_5 rfl ?_
    refine g_aln dX4_howMany_7 rfl rfl (by decide) ?_
    refine g_getI 0 dX4_howMany_8 fl_X4_9 rfl rfl ?_
    refine g_wge dX4_howMany_11 (tgt := 74) rfl rfl rfl (fun q6 => ?_) (fun q6 => ?_)
    · replace h := xif_f q6 h
      exact hk l3_3 l4_4 h
    · replace h := xif_t q6 h
      refine g_aln dX4_howMany_14 rfl rfl (by decide) ?_
      refine g_getC 95 dX4_howMany_15 fl_X4_22 rfl (by decide) ?_
      refine g_il dX4_howMany_18 rfl ?_
      obtain ⟨hg7, h⟩ := xgd_e h
      refine g_iald 8 dX4_howMany_20 rfl hg7 (by decide) ?_
      refine g_iln dX4_howMany_21 rfl rfl ?_
      obtain ⟨j9, ej10, h⟩ := xjn_e h
      have hj11 : ∀ (t8 : Int), j9 t8 = some q → xG 0 0 0 mX4_howMany 41 [vR 92, vI l1_1, vI l2_2, vI l3_3, vI l4_4, vX] [vI t8] 155 s5 (xRv (vI q) s5) := by
        intro t8 h
        rw [ej10] at h
        refine g_ist_5 dX4_howMany_41 (by decide) rfl ?_
        refine g_iln dX4_howMany_43 rfl rfl ?_
        refine g_il dX4_howMany_44 rfl ?_
        obtain ⟨j13, ej14, h⟩ := xjn_e h
        have hj15 : ∀ (t12 : Int), j13 t12 = some q → xG 0 0 0 mX4_howMany 66 [vR 92, vI l1_1, vI l2_2, vX, vI l4_4, vX] [vI t12, vI l3_3] 155 s5 (xRv (vI q) s5) := by
          intro t12 h
          rw [ej14] at h
          refine g_iadd dX4_howMany_66 ?_
          refine g_istn_3 dX4_howMany_67 (by decide) rfl ?_
          refine g_inc_4 dX4_howMany_68 (by decide) rfl ?_
          refine g_goto dX4_howMany_71 (tgt := 5) rfl ?_
          exact ih (l3_3 + t12) (l4_4 + 1) h
        clear ej14
        obtain ⟨j16, ej17, h⟩ := xjn_e h
        have hj18 : j16  = some q → xG 0 0 0 mX4_howMany 65 [vR 92, vI l1_1, vI l2_2, vX, vI l4_4, vX] [vI l3_3] 155 s5 (xRv (vI q) s5) := by
          intro  h
          rw [ej17] at h
          refine g_ic dX4_howMany_65 ?_
          exact hj15 0 h
        clear ej17
        refine g_yeq dX4_howMany_46 (tgt := 65) rfl rfl (fun q19 => ?_) (fun q19 => ?_)
        · replace h := xif_f q19 h
          refine g_drop_3 ?_
          refine g_drop_5 ?_
          exact hj18  h
        · replace h := xif_t q19 h
          refine g_aln dX4_howMany_49 rfl rfl (by decide) ?_
          refine g_getC 94 dX4_howMany_50 fl_X4_19 rfl (by decide) ?_
          refine g_il dX4_howMany_53 rfl ?_
          obtain ⟨hg20, h⟩ := xgd_e h
          refine g_iald 8 dX4_howMany_55 rfl hg20 (by decide) ?_
          refine g_iln dX4_howMany_56 rfl rfl ?_
          refine g_iand dX4_howMany_57 ?_
          refine g_yeq dX4_howMany_58 (tgt := 65) rfl rfl (fun q21 => ?_) (fun q21 => ?_)
          · replace h := xif_f q21 h
            refine g_drop_3 ?_
            refine g_drop_5 ?_
            exact hj18  h
          · replace h := xif_t q21 h
            refine g_ic dX4_howMany_61 ?_
            refine g_goto dX4_howMany_62 (tgt := 66) rfl ?_
            refine g_drop_3 ?_
            refine g_drop_5 ?_
            exact hj15 1 h
      clear ej10
      obtain ⟨j22, ej23, h⟩ := xjn_e h
      have hj24 : j22  = some q → xG 0 0 0 mX4_howMany 40 [vR 92, vI l1_1, vI l2_2, vI l3_3, vI l4_4, vX] [] 155 s5 (xRv (vI q) s5) := by
        intro  h
        rw [ej23] at h
        refine g_ic dX4_howMany_40 ?_
        exact hj11 0 h
      clear ej23
      refine g_wgt dX4_howMany_22 (tgt := 40) rfl rfl rfl (fun q25 => ?_) (fun q25 => ?_)
      · replace h := xif_f q25 h
        exact hj24  h
      · replace h := xif_t q25 h
        refine g_iln dX4_howMany_25 rfl rfl ?_
        refine g_aln dX4_howMany_26 rfl rfl (by decide) ?_
        refine g_getC 96 dX4_howMany_27 fl_X4_25 rfl (by decide) ?_
        refine g_il dX4_howMany_30 rfl ?_
        obtain ⟨hg26, h⟩ := xgd_e h
        refine g_iald 8 dX4_howMany_32 rfl hg26 (by decide) ?_
        refine g_wge dX4_howMany_33 (tgt := 40) rfl rfl rfl (fun q27 => ?_) (fun q27 => ?_)
        · replace h := xif_f q27 h
          exact hj24  h
        · replace h := xif_t q27 h
          refine g_ic dX4_howMany_36 ?_
          refine g_goto dX4_howMany_37 (tgt := 41) rfl ?_
          exact hj11 1 h
theorem s_X4_howMany {a1 a2 : Int} {s0 : xW} {q : Int} (h : F_X4_howMany a1 a2 s0 = some q) : xC 0 0 0 mX4_howMany [vR 92, vI a1, vI a2] 155 s0 (xRv (vI q) s0) := by
  refine xC.of [vR 92, vI a1, vI a2, vX, vX, vX] (by decide +kernel) (Nat.le_of_ble_eq_true rfl) rfl ?_
  unfold F_X4_howMany at h
  refine g_ic dX4_howMany_0 ?_
  refine g_istn_3 dX4_howMany_1 (by decide) rfl ?_
  refine g_ic dX4_howMany_2 ?_
  refine g_ist_4 dX4_howMany_3 (by decide) rfl ?_
  refine s_X4_howMany_5 (fun l3_30 l4_31 h => ?_) xN _ _ h
  refine g_iln dX4_howMany_74 rfl rfl ?_
  exact g_pI rfl dX4_howMany_75 h
theorem dX10_lane_0 : decode cX10_lane 0 = .ok (.iload_n 1, 1) := by decide +kernel
theorem dX10_lane_1 : decode cX10_lane 1 = .ok (.ifCond .lt 8, 3) := by decide +kernel
theorem dX10_lane_4 : decode cX10_lane 4 = .ok (.iload_n 1, 1) := by decide +kernel
theorem dX10_lane_5 : decode cX10_lane 5 = .ok (.iconst 4, 1) := by decide +kernel
theorem dX10_lane_6 : decode cX10_lane 6 = .ok (.if_icmp .lt 5, 3) := by decide +kernel
theorem dX10_lane_9 : decode cX10_lane 9 = .ok (.iconst (-1), 1) := by decide +kernel
theorem dX10_lane_10 : decode cX10_lane 10 = .ok (.ireturn, 1) := by decide +kernel
theorem dX10_lane_11 : decode cX10_lane 11 = .ok (.aload_n 0, 1) := by decide +kernel
theorem dX10_lane_12 : decode cX10_lane 12 = .ok (.invokevirtual 173, 3) := by decide +kernel
theorem dX10_lane_15 : decode cX10_lane 15 = .ok (.iconst 0, 1) := by decide +kernel
theorem dX10_lane_16 : decode cX10_lane 16 = .ok (.istore_n 2, 1) := by decide +kernel
theorem dX10_lane_17 : decode cX10_lane 17 = .ok (.iconst 0, 1) := by decide +kernel
theorem dX10_lane_18 : decode cX10_lane 18 = .ok (.istore_n 3, 1) := by decide +kernel
theorem dX10_lane_19 : decode cX10_lane 19 = .ok (.iconst (-1), 1) := by decide +kernel
theorem dX10_lane_20 : decode cX10_lane 20 = .ok (.istore 4, 2) := by decide +kernel
theorem dX10_lane_22 : decode cX10_lane 22 = .ok (.aload_n 0, 1) := by decide +kernel
theorem dX10_lane_23 : decode cX10_lane 23 = .ok (.getfield 75, 3) := by decide +kernel
theorem dX10_lane_26 : decode cX10_lane 26 = .ok (.invokevirtual 268, 3) := by decide +kernel
theorem dX10_lane_29 : decode cX10_lane 29 = .ok (.istore 5, 2) := by decide +kernel
theorem dX10_lane_31 : decode cX10_lane 31 = .ok (.aload_n 0, 1) := by decide +kernel
theorem dX10_lane_32 : decode cX10_lane 32 = .ok (.getfield 75, 3) := by decide +kernel
theorem dX10_lane_35 : decode cX10_lane 35 = .ok (.invokevirtual 265, 3) := by decide +kernel
theorem dX10_lane_38 : decode cX10_lane 38 = .ok (.istore 6, 2) := by decide +kernel
theorem dX10_lane_40 : decode cX10_lane 40 = .ok (.iload 6, 2) := by decide +kernel
theorem dX10_lane_42 : decode cX10_lane 42 = .ok (.iload 5, 2) := by decide +kernel
theorem dX10_lane_44 : decode cX10_lane 44 = .ok (.if_icmp .ge 49, 3) := by decide +kernel
theorem dX10_lane_47 : decode cX10_lane 47 = .ok (.aload_n 0, 1) := by decide +kernel
theorem dX10_lane_48 : decode cX10_lane 48 = .ok (.getfield 75, 3) := by decide +kernel
theorem dX10_lane_51 : decode cX10_lane 51 = .ok (.iload 6, 2) := by decide +kernel
theorem dX10_lane_53 : decode cX10_lane 53 = .ok (.iconst 1, 1) := by decide +kernel
theorem dX10_lane_54 : decode cX10_lane 54 = .ok (.iload_n 1, 1) := by decide +kernel
theorem dX10_lane_55 : decode cX10_lane 55 = .ok (.ishl, 1) := by decide +kernel
theorem dX10_lane_56 : decode cX10_lane 56 = .ok (.invokevirtual 271, 3) := by decide +kernel
theorem dX10_lane_59 : decode cX10_lane 59 = .ok (.istore 7, 2) := by decide +kernel
theorem dX10_lane_61 : decode cX10_lane 61 = .ok (.iload_n 2, 1) := by decide +kernel
theorem dX10_lane_62 : decode cX10_lane 62 = .ok (.iload 7, 2) := by decide +kernel
theorem dX10_lane_64 : decode cX10_lane 64 = .ok (.ifCond .le 7, 3) := by decide +kernel
theorem dX10_lane_67 : decode cX10_lane 67 = .ok (.iconst 1, 1) := by decide +kernel
theorem dX10_lane_68 : decode cX10_lane 68 = .ok (.goto 4, 3) := by decide +kernel
theorem dX10_lane_71 : decode cX10_lane 71 = .ok (.iconst 0, 1) := by decide +kernel
theorem dX10_lane_72 : decode cX10_lane 72 = .ok (.iadd, 1) := by decide +kernel
theorem dX10_lane_73 : decode cX10_lane 73 = .ok (.istore_n 2, 1) := by decide +kernel
theorem dX10_lane_74 : decode cX10_lane 74 = .ok (.iload 7, 2) := by decide +kernel
theorem dX10_lane_76 : decode cX10_lane 76 = .ok (.iload_n 3, 1) := by decide +kernel
theorem dX10_lane_77 : decode cX10_lane 77 = .ok (.if_icmp .le 10, 3) := by decide +kernel
theorem dX10_lane_80 : decode cX10_lane 80 = .ok (.iload 7, 2) := by decide +kernel
theorem dX10_lane_82 : decode cX10_lane 82 = .ok (.istore_n 3, 1) := by decide +kernel
theorem dX10_lane_83 : decode cX10_lane 83 = .ok (.iload 6, 2) := by decide +kernel
theorem dX10_lane_85 : decode cX10_lane 85 = .ok (.istore 4, 2) := by decide +kernel
theorem dX10_lane_87 : decode cX10_lane 87 = .ok (.iinc 6 1, 3) := by decide +kernel
theorem dX10_lane_90 : decode cX10_lane 90 = .ok (.goto (-50), 3) := by decide +kernel
theorem dX10_lane_93 : decode cX10_lane 93 = .ok (.aload_n 0, 1) := by decide +kernel
theorem dX10_lane_94 : decode cX10_lane 94 = .ok (.getfield 19, 3) := by decide +kernel
theorem dX10_lane_97 : decode cX10_lane 97 = .ok (.iload_n 3, 1) := by decide +kernel
theorem dX10_lane_98 : decode cX10_lane 98 = .ok (.i2l, 1) := by decide +kernel
theorem dX10_lane_99 : decode cX10_lane 99 = .ok (.iload 4, 2) := by decide +kernel
theorem dX10_lane_101 : decode cX10_lane 101 = .ok (.i2l, 1) := by decide +kernel
theorem dX10_lane_102 : decode cX10_lane 102 = .ok (.invokevirtual 242, 3) := by decide +kernel
theorem dX10_lane_105 : decode cX10_lane 105 = .ok (.iload_n 2, 1) := by decide +kernel
theorem dX10_lane_106 : decode cX10_lane 106 = .ok (.ireturn, 1) := by decide +kernel
theorem s_X10_lane_40 {s18 : xW} {l1_12 l5_16 : Int} {q : Int × xW} {k : Int → Int → Int → Int → Option (Int × xW)} (hk : ∀ (l2_32 : Int) (l3_33 : Int) (l4_34 : Int) (l6_35 : Int), k l2_32 l3_33 l4_34 l6_35 = some q → xG 5 0 0 mX10_lane 93 [vR 0, vI l1_12, vI l2_32, vI l3_33, vI l4_34, vI l5_16, vI l6_35, vX] [] 155 s18 (xRv (vI q.1) q.2)) : ∀ (f : Nat) (l2_13 : Int) (l3_14 : Int) (l4_15 : Int) (l6_17 : Int), F_X10_lane_40 l1_12 l5_16 s18 f l2_13 l3_14 l4_15 l6_17 k = some q → xG 5 0 0 mX10_lane 40 [vR 0, vI l1_12, vI l2_13, vI l3_14, vI l4_15, vI l5_16, vI l6_17, vX] [] 155 s18 (xRv (vI q.1) q.2) := by
  intro f
  induction f with
  | zero => intro l2_13 l3_14 l4_15 l6_17 h; cases h
  | succ f ih =>
    intro l2_13 l3_14 l4_15 l6_17 h
    unfold F_X10_lane_40 at h
    refine g_il dX10_lane_40 rfl ?_
    refine g_il dX10_lane_42 rfl ?_
    refine g_wge dX10_lane_44 (tgt := 93) rfl rfl rfl (fun q19 => ?_) (fun q19 => ?_)
    · replace h := xif_f q19 h
      exact hk l2_13 l3_14 l4_15 l6_17 h
    · replace h := xif_t q19 h
      refine g_aln dX10_lane_47 rfl rfl (by decide) ?_
      refine g_getC 92 dX10_lane_48 fl_X10_75 rfl (by decide) ?_
      refine g_il dX10_lane_51 rfl ?_
      refine g_ic dX10_lane_53 ?_
      refine g_iln dX10_lane_54 rfl rfl ?_
      refine g_ishl dX10_lane_55 ?_
      obtain ⟨r21, e20, h⟩ := xbp_e h
      refine g_cV2v dX10_lane_56 ml_X10_271 rfl (s_X4_howMany e20) (by decide) rfl ?_
      refine g_ist_7 dX10_lane_59 (by decide) rfl ?_
      refine g_iln dX10_lane_61 rfl rfl ?_
      refine g_il dX10_lane_62 rfl ?_
      obtain ⟨v23, e24, h⟩ := xlt_e h
      have hj25 : xG 5 0 0 mX10_lane 72 [vR 0, vI l1_12, vX, vI l3_14, vI l4_15, vI l5_16, vI l6_17, vI r21] [vI v23, vI l2_13] 155 s18 (xRv (vI q.1) q.2) := by
        refine g_iadd dX10_lane_72 ?_
        refine g_istn_2 dX10_lane_73 (by decide) rfl ?_
        refine g_il dX10_lane_74 rfl ?_
        refine g_iln dX10_lane_76 rfl rfl ?_
        obtain ⟨j28, ej29, h⟩ := xjn_e h
        have hj30 : ∀ (l3_26 : Int) (l4_27 : Int), j28 l3_26 l4_27 = some q → xG 5 0 0 mX10_lane 87 [vR 0, vI l1_12, vI (l2_13 + v23), vI l3_26, vI l4_27, vI l5_16, vI l6_17, vX] [] 155 s18 (xRv (vI q.1) q.2) := by
          intro l3_26 l4_27 h
          rw [ej29] at h
          refine g_inc_6 dX10_lane_87 (by decide) rfl ?_
          refine g_goto dX10_lane_90 (tgt := 40) rfl ?_
          exact ih (l2_13 + v23) l3_26 l4_27 (l6_17 + 1) h
        clear ej29
        refine g_wle dX10_lane_77 (tgt := 87) rfl rfl rfl (fun q31 => ?_) (fun q31 => ?_)
        · replace h := xif_f q31 h
          refine g_drop_7 ?_
          exact hj30 l3_14 l4_15 h
        · replace h := xif_t q31 h
          refine g_il dX10_lane_80 rfl ?_
          refine g_istn_3 dX10_lane_82 (by decide) rfl ?_
          refine g_il dX10_lane_83 rfl ?_
          refine g_ist_4 dX10_lane_85 (by decide) rfl ?_
          refine g_drop_7 ?_
          exact hj30 r21 l6_17 h
      refine g_yle dX10_lane_64 (tgt := 71) rfl rfl (fun c22 => ?_) (fun c22 => ?_)
      · skip
        refine g_ic dX10_lane_71 ?_
        refine g_drop_2 ?_
        exact g_vq ((if_neg c22).symm.trans e24) hj25
      · skip
        refine g_ic dX10_lane_67 ?_
        refine g_goto dX10_lane_68 (tgt := 72) rfl ?_
        refine g_drop_2 ?_
        exact g_vq ((if_pos c22).symm.trans e24) hj25
theorem s_X10_lane {a1 : Int} {s0 : xW} {q : Int × xW} (h : F_X10_lane a1 s0 = some q) : xC 5 0 0 mX10_lane [vR 0, vI a1] 155 s0 (xRv (vI q.1) q.2) := by
  refine xC.of [vR 0, vI a1, vX, vX, vX, vX, vX, vX] (by decide +kernel) (Nat.le_of_ble_eq_true rfl) rfl ?_
  unfold F_X10_lane at h
  refine g_iln dX10_lane_0 rfl rfl ?_
  obtain ⟨j1, ej2, h⟩ := xjn_e h
  have hj3 : j1  = some q → xG 5 0 0 mX10_lane 9 [vX, vX, vX, vX, vX, vX, vX, vX] [] 155 s0 (xRv (vI q.1) q.2) := by
    intro  h
    rw [ej2] at h
    refine g_ic dX10_lane_9 ?_
    exact g_rI rfl dX10_lane_10 h
  clear ej2
  refine g_ylt dX10_lane_1 (tgt := 9) rfl rfl (fun q4 => ?_) (fun q4 => ?_)
  · replace h := xif_f q4 h
    refine g_drop_0 ?_
    refine g_drop_1 ?_
    exact hj3  h
  · replace h := xif_t q4 h
    refine g_iln dX10_lane_4 rfl rfl ?_
    refine g_ic dX10_lane_5 ?_
    refine g_wlt dX10_lane_6 (tgt := 11) rfl rfl (xw_id (by decide)) (fun q5 => ?_) (fun q5 => ?_)
    · replace h := xif_f q5 h
      refine g_aln dX10_lane_11 rfl rfl (by decide) ?_
      obtain ⟨s7, e6, h⟩ := xbp_e h
      refine g_cV00 dX10_lane_12 ml_X10_173 rfl (s_X10_planToday e6) (by decide) rfl ?_
      refine g_ic dX10_lane_15 ?_
      refine g_istn_2 dX10_lane_16 (by decide) rfl ?_
      refine g_ic dX10_lane_17 ?_
      refine g_istn_3 dX10_lane_18 (by decide) rfl ?_
      refine g_ic dX10_lane_19 ?_
      refine g_ist_4 dX10_lane_20 (by decide) rfl ?_
      refine g_aln dX10_lane_22 rfl rfl (by decide) ?_
      refine g_getC 92 dX10_lane_23 fl_X10_75 rfl (by decide) ?_
      obtain ⟨r9, e8, h⟩ := xbp_e h
      refine g_cV0v dX10_lane_26 ml_X10_268 rfl (s_X4_minuteBehind e8) (by decide) rfl ?_
      refine g_ist_5 dX10_lane_29 (by decide) rfl ?_
      refine g_aln dX10_lane_31 rfl rfl (by decide) ?_
      refine g_getC 92 dX10_lane_32 fl_X10_75 rfl (by decide) ?_
      obtain ⟨r11, e10, h⟩ := xbp_e h
      refine g_cV0v dX10_lane_35 ml_X10_265 rfl (s_X4_firstMinute e10) (by decide) rfl ?_
      refine g_ist_6 dX10_lane_38 (by decide) rfl ?_
      refine s_X10_lane_40 (fun l2_36 l3_37 l4_38 l6_39 h => ?_) xN _ _ _ _ h
      refine g_aln dX10_lane_93 rfl rfl (by decide) ?_
      refine g_getC 3 dX10_lane_94 fl_X10_19 rfl (by decide) ?_
      refine g_iln dX10_lane_97 rfl rfl ?_
      refine g_wi2l dX10_lane_98 rfl ?_
      refine g_il dX10_lane_99 rfl ?_
      refine g_wi2l dX10_lane_101 rfl ?_
      obtain ⟨s41, e40, h⟩ := xbp_e h
      refine g_cV20 dX10_lane_102 ml_X10_242 rfl (s_X6_tell_ e40) (by decide) rfl ?_
      refine g_iln dX10_lane_105 rfl rfl ?_
      exact g_rI rfl dX10_lane_106 h
    · replace h := xif_t q5 h
      refine g_drop_0 ?_
      refine g_drop_1 ?_
      exact hj3  h
theorem dX10_lastMinute_0 : decode cX10_lastMinute 0 = .ok (.iconst 0, 1) := by decide +kernel
theorem dX10_lastMinute_1 : decode cX10_lastMinute 1 = .ok (.istore_n 1, 1) := by decide +kernel
theorem dX10_lastMinute_2 : decode cX10_lastMinute 2 = .ok (.iconst 0, 1) := by decide +kernel
theorem dX10_lastMinute_3 : decode cX10_lastMinute 3 = .ok (.istore_n 2, 1) := by decide +kernel
theorem dX10_lastMinute_4 : decode cX10_lastMinute 4 = .ok (.iload_n 2, 1) := by decide +kernel
theorem dX10_lastMinute_5 : decode cX10_lastMinute 5 = .ok (.aload_n 0, 1) := by decide +kernel
theorem dX10_lastMinute_6 : decode cX10_lastMinute 6 = .ok (.getfield 93, 3) := by decide +kernel
theorem dX10_lastMinute_9 : decode cX10_lastMinute 9 = .ok (.if_icmp .ge 23, 3) := by decide +kernel
theorem dX10_lastMinute_12 : decode cX10_lastMinute 12 = .ok (.iload_n 1, 1) := by decide +kernel
theorem dX10_lastMinute_13 : decode cX10_lastMinute 13 = .ok (.aload_n 0, 1) := by decide +kernel
theorem dX10_lastMinute_14 : decode cX10_lastMinute 14 = .ok (.getfield 68, 3) := by decide +kernel
theorem dX10_lastMinute_17 : decode cX10_lastMinute 17 = .ok (.getfield 325, 3) := by decide +kernel
theorem dX10_lastMinute_20 : decode cX10_lastMinute 20 = .ok (.iload_n 2, 1) := by decide +kernel
theorem dX10_lastMinute_21 : decode cX10_lastMinute 21 = .ok (.iaload, 1) := by decide +kernel
theorem dX10_lastMinute_22 : decode cX10_lastMinute 22 = .ok (.invokestatic 392, 3) := by decide +kernel
theorem dX10_lastMinute_25 : decode cX10_lastMinute 25 = .ok (.istore_n 1, 1) := by decide +kernel
theorem dX10_lastMinute_26 : decode cX10_lastMinute 26 = .ok (.iinc 2 1, 3) := by decide +kernel
theorem dX10_lastMinute_29 : decode cX10_lastMinute 29 = .ok (.goto (-25), 3) := by decide +kernel
theorem dX10_lastMinute_32 : decode cX10_lastMinute 32 = .ok (.iload_n 1, 1) := by decide +kernel
theorem dX10_lastMinute_33 : decode cX10_lastMinute 33 = .ok (.ireturn, 1) := by decide +kernel
theorem s_X10_lastMinute_4 {s3 : xW} {q : Int} {k : Int → Int → Option (Int)} (hk : ∀ (l1_6 : Int) (l2_7 : Int), k l1_6 l2_7 = some q → xG 1 0 0 mX10_lastMinute 32 [vR 0, vI l1_6, vI l2_7] [] 155 s3 (xRv (vI q) s3)) : ∀ (f : Nat) (l1_1 : Int) (l2_2 : Int), F_X10_lastMinute_4 s3 f l1_1 l2_2 k = some q → xG 1 0 0 mX10_lastMinute 4 [vR 0, vI l1_1, vI l2_2] [] 155 s3 (xRv (vI q) s3) := by
  intro f
  induction f with
  | zero => intro l1_1 l2_2 h; cases h
  | succ f ih =>
    intro l1_1 l2_2 h
    unfold F_X10_lastMinute_4 at h
    refine g_iln dX10_lastMinute_4 rfl rfl ?_
    refine g_aln dX10_lastMinute_5 rfl rfl (by decide) ?_
    refine g_getI 14 dX10_lastMinute_6 fl_X10_93 rfl rfl ?_
    refine g_wge dX10_lastMinute_9 (tgt := 32) rfl rfl rfl (fun q4 => ?_) (fun q4 => ?_)
    · replace h := xif_f q4 h
      exact hk l1_1 l2_2 h
    · replace h := xif_t q4 h
      refine g_iln dX10_lastMinute_12 rfl rfl ?_
      refine g_aln dX10_lastMinute_13 rfl rfl (by decide) ?_
      refine g_getC 89 dX10_lastMinute_14 fl_X10_68 rfl (by decide) ?_
      refine g_getC 91 dX10_lastMinute_17 fl_X10_325 rfl (by decide) ?_
      refine g_iln dX10_lastMinute_20 rfl rfl ?_
      obtain ⟨hg5, h⟩ := xgd_e h
      refine g_iald 8 dX10_lastMinute_21 rfl hg5 (by decide) ?_
      refine g_wmax dX10_lastMinute_22 mx_X10_392 rfl rfl (by decide) rfl ?_
      refine g_istn_1 dX10_lastMinute_25 (by decide) rfl ?_
      refine g_inc_2 dX10_lastMinute_26 (by decide) rfl ?_
      refine g_goto dX10_lastMinute_29 (tgt := 4) rfl ?_
      exact ih (max (xw l1_1) (xw (s3 91 l2_2))) (l2_2 + 1) h
theorem s_X10_lastMinute {s0 : xW} {q : Int} (h : F_X10_lastMinute  s0 = some q) : xC 1 0 0 mX10_lastMinute [vR 0] 155 s0 (xRv (vI q) s0) := by
  refine xC.of [vR 0, vX, vX] (by decide +kernel) (Nat.le_of_ble_eq_true rfl) rfl ?_
  unfold F_X10_lastMinute at h
  refine g_ic dX10_lastMinute_0 ?_
  refine g_istn_1 dX10_lastMinute_1 (by decide) rfl ?_
  refine g_ic dX10_lastMinute_2 ?_
  refine g_istn_2 dX10_lastMinute_3 (by decide) rfl ?_
  refine s_X10_lastMinute_4 (fun l1_8 l2_9 h => ?_) xN _ _ h
  refine g_iln dX10_lastMinute_32 rfl rfl ?_
  exact g_pI rfl dX10_lastMinute_33 h
theorem dX10_lasts_0 : decode cX10_lasts 0 = .ok (.iconst 0, 1) := by decide +kernel
theorem dX10_lasts_1 : decode cX10_lasts 1 = .ok (.istore_n 1, 1) := by decide +kernel
theorem dX10_lasts_2 : decode cX10_lasts 2 = .ok (.iconst 0, 1) := by decide +kernel
theorem dX10_lasts_3 : decode cX10_lasts 3 = .ok (.istore_n 2, 1) := by decide +kernel
theorem dX10_lasts_4 : decode cX10_lasts 4 = .ok (.iload_n 2, 1) := by decide +kernel
theorem dX10_lasts_5 : decode cX10_lasts 5 = .ok (.aload_n 0, 1) := by decide +kernel
theorem dX10_lasts_6 : decode cX10_lasts 6 = .ok (.getfield 46, 3) := by decide +kernel
theorem dX10_lasts_9 : decode cX10_lasts 9 = .ok (.getfield 288, 3) := by decide +kernel
theorem dX10_lasts_12 : decode cX10_lasts 12 = .ok (.if_icmp .ge 25, 3) := by decide +kernel
theorem dX10_lasts_15 : decode cX10_lasts 15 = .ok (.iload_n 1, 1) := by decide +kernel
theorem dX10_lasts_16 : decode cX10_lasts 16 = .ok (.aload_n 0, 1) := by decide +kernel
theorem dX10_lasts_17 : decode cX10_lasts 17 = .ok (.aload_n 0, 1) := by decide +kernel
theorem dX10_lasts_18 : decode cX10_lasts 18 = .ok (.getfield 46, 3) := by decide +kernel
theorem dX10_lasts_21 : decode cX10_lasts 21 = .ok (.getfield 277, 3) := by decide +kernel
theorem dX10_lasts_24 : decode cX10_lasts 24 = .ok (.iload_n 2, 1) := by decide +kernel
theorem dX10_lasts_25 : decode cX10_lasts 25 = .ok (.iadd, 1) := by decide +kernel
theorem dX10_lasts_26 : decode cX10_lasts 26 = .ok (.invokevirtual 283, 3) := by decide +kernel
theorem dX10_lasts_29 : decode cX10_lasts 29 = .ok (.iadd, 1) := by decide +kernel
theorem dX10_lasts_30 : decode cX10_lasts 30 = .ok (.istore_n 1, 1) := by decide +kernel
theorem dX10_lasts_31 : decode cX10_lasts 31 = .ok (.iinc 2 1, 3) := by decide +kernel
theorem dX10_lasts_34 : decode cX10_lasts 34 = .ok (.goto (-30), 3) := by decide +kernel
theorem dX10_lasts_37 : decode cX10_lasts 37 = .ok (.aload_n 0, 1) := by decide +kernel
theorem dX10_lasts_38 : decode cX10_lasts 38 = .ok (.getfield 19, 3) := by decide +kernel
theorem dX10_lasts_41 : decode cX10_lasts 41 = .ok (.iload_n 1, 1) := by decide +kernel
theorem dX10_lasts_42 : decode cX10_lasts 42 = .ok (.i2l, 1) := by decide +kernel
theorem dX10_lasts_43 : decode cX10_lasts 43 = .ok (.invokevirtual 286, 3) := by decide +kernel
theorem dX10_lasts_46 : decode cX10_lasts 46 = .ok (.aload_n 0, 1) := by decide +kernel
theorem dX10_lasts_47 : decode cX10_lasts 47 = .ok (.getfield 46, 3) := by decide +kernel
theorem dX10_lasts_50 : decode cX10_lasts 50 = .ok (.getfield 288, 3) := by decide +kernel
theorem dX10_lasts_53 : decode cX10_lasts 53 = .ok (.ireturn, 1) := by decide +kernel
theorem s_X10_lasts_4 {q : Int × xW} {k : Int → Int → xW → Option (Int × xW)} (hk : ∀ (l1_8 : Int) (l2_9 : Int) (s10 : xW), k l1_8 l2_9 s10 = some q → xG 5 0 0 mX10_lasts 37 [vR 0, vI l1_8, vI l2_9] [] 155 s10 (xRv (vI q.1) q.2)) : ∀ (f : Nat) (l1_1 : Int) (l2_2 : Int) (s3 : xW), F_X10_lasts_4  f l1_1 l2_2 s3 k = some q → xG 5 0 0 mX10_lasts 4 [vR 0, vI l1_1, vI l2_2] [] 155 s3 (xRv (vI q.1) q.2) := by
  intro f
  induction f with
  | zero => intro l1_1 l2_2 s3 h; cases h
  | succ f ih =>
    intro l1_1 l2_2 s3 h
    unfold F_X10_lasts_4 at h
    refine g_iln dX10_lasts_4 rfl rfl ?_
    refine g_aln dX10_lasts_5 rfl rfl (by decide) ?_
    refine g_getC 17 dX10_lasts_6 fl_X10_46 rfl (by decide) ?_
    refine g_getI 2 dX10_lasts_9 fl_X10_288 rfl rfl ?_
    refine g_wge dX10_lasts_12 (tgt := 37) rfl rfl rfl (fun q4 => ?_) (fun q4 => ?_)
    · replace h := xif_f q4 h
      exact hk l1_1 l2_2 s3 h
    · replace h := xif_t q4 h
      refine g_iln dX10_lasts_15 rfl rfl ?_
      refine g_aln dX10_lasts_16 rfl rfl (by decide) ?_
      refine g_aln dX10_lasts_17 rfl rfl (by decide) ?_
      refine g_getC 17 dX10_lasts_18 fl_X10_46 rfl (by decide) ?_
      refine g_getI 5 dX10_lasts_21 fl_X10_277 rfl rfl ?_
      refine g_iln dX10_lasts_24 rfl rfl ?_
      refine g_iadd dX10_lasts_25 ?_
      obtain ⟨r6, s7, e5, h⟩ := xbd_e h
      refine g_cV1v dX10_lasts_26 ml_X10_283 rfl (s_X10_pairsOn e5) (by decide) rfl ?_
      refine g_iadd dX10_lasts_29 ?_
      refine g_istn_1 dX10_lasts_30 (by decide) rfl ?_
      refine g_inc_2 dX10_lasts_31 (by decide) rfl ?_
      refine g_goto dX10_lasts_34 (tgt := 4) rfl ?_
      exact ih (l1_1 + r6) (l2_2 + 1) s7 h
theorem s_X10_lasts {s0 : xW} {q : Int × xW} (h : F_X10_lasts  s0 = some q) : xC 5 0 0 mX10_lasts [vR 0] 155 s0 (xRv (vI q.1) q.2) := by
  refine xC.of [vR 0, vX, vX] (by decide +kernel) (Nat.le_of_ble_eq_true rfl) rfl ?_
  unfold F_X10_lasts at h
  refine g_ic dX10_lasts_0 ?_
  refine g_istn_1 dX10_lasts_1 (by decide) rfl ?_
  refine g_ic dX10_lasts_2 ?_
  refine g_istn_2 dX10_lasts_3 (by decide) rfl ?_
  refine s_X10_lasts_4 (fun l1_11 l2_12 s13 h => ?_) xN _ _ _ h
  refine g_aln dX10_lasts_37 rfl rfl (by decide) ?_
  refine g_getC 3 dX10_lasts_38 fl_X10_19 rfl (by decide) ?_
  refine g_iln dX10_lasts_41 rfl rfl ?_
  refine g_wi2l dX10_lasts_42 rfl ?_
  obtain ⟨s15, e14, h⟩ := xbp_e h
  refine g_cV10 dX10_lasts_43 ml_X10_286 rfl (s_X6_tell e14) (by decide) rfl ?_
  refine g_aln dX10_lasts_46 rfl rfl (by decide) ?_
  refine g_getC 17 dX10_lasts_47 fl_X10_46 rfl (by decide) ?_
  refine g_getI 2 dX10_lasts_50 fl_X10_288 rfl rfl ?_
  exact g_rI rfl dX10_lasts_53 h
theorem dX7_takeFirst_0 : decode cX7_takeFirst 0 = .ok (.getstatic 42, 3) := by decide +kernel
theorem dX7_takeFirst_3 : decode cX7_takeFirst 3 = .ok (.iconst 0, 1) := by decide +kernel
theorem dX7_takeFirst_4 : decode cX7_takeFirst 4 = .ok (.aload_n 0, 1) := by decide +kernel
theorem dX7_takeFirst_5 : decode cX7_takeFirst 5 = .ok (.getfield 11, 3) := by decide +kernel
theorem dX7_takeFirst_8 : decode cX7_takeFirst 8 = .ok (.iconst 0, 1) := by decide +kernel
theorem dX7_takeFirst_9 : decode cX7_takeFirst 9 = .ok (.getstatic 42, 3) := by decide +kernel
theorem dX7_takeFirst_12 : decode cX7_takeFirst 12 = .ok (.arraylength, 1) := by decide +kernel
theorem dX7_takeFirst_13 : decode cX7_takeFirst 13 = .ok (.invokestatic 45, 3) := by decide +kernel
theorem dX7_takeFirst_16 : decode cX7_takeFirst 16 = .ok (.aload_n 0, 1) := by decide +kernel
theorem dX7_takeFirst_17 : decode cX7_takeFirst 17 = .ok (.getstatic 42, 3) := by decide +kernel
theorem dX7_takeFirst_20 : decode cX7_takeFirst 20 = .ok (.arraylength, 1) := by decide +kernel
theorem dX7_takeFirst_21 : decode cX7_takeFirst 21 = .ok (.putfield 15, 3) := by decide +kernel
theorem dX7_takeFirst_24 : decode cX7_takeFirst 24 = .ok (.return_, 1) := by decide +kernel
theorem wf_first : Cond.fieldLink "NoonGun$Rule" 42 "NoonGun$Rule" "FIRST" "[I" ∈ xTB := x_tb (tb1 91 (by decide +kernel)) rfl
theorem xfirst_cpy {σ : xW} {a : Int} : va_cpy (fun j : Nat => Int32.ofInt (xFst.getD j 0)) (fun j : Nat => Int32.ofInt (σ a j)) 0 0 7 = fun j : Nat => Int32.ofInt (xfirst σ a a j) := by
  funext j
  unfold va_cpy xfirst
  by_cases hj : (j : Int) < 7
  · rw [if_pos (by omega), if_pos ⟨rfl, by omega, hj⟩]
    congr 2
    simp
  · rw [if_neg (by omega), if_neg (by omega)]
section GF
variable {d bc bs : Nat} {L S : List xV} {σ : xW} {K : List xV → Nat → xW → Prop}
theorem g_first {a a1 : Int} {t : Nat} (ha : 0 ≤ a) (hf : xis 155 a 7 0 t = true) (hv : xfv 155 t (σ a 0) = vR a1) (hs1 : xia 155 a1 1 40 = true) (hdd : 1 ≤ d) (kk : xG d bc bs mX7_takeFirst 16 [vR a] [] 155 (xfirst σ a1) K) : xG d bc bs mX7_takeFirst 0 [vR a] [] 155 σ K := by
  intro E p l e R s m args below meth c mc ms Q F H locs cells slots ls hH hS h1 h2 hl
  obtain ⟨Fx, Fb, Fml, Fo, Ft, FK, ⟨Fr1, Fr2, Fr3, Fr4⟩, -, -⟩ := id F
  obtain ⟨t0, hZ, hX, hnA⟩ := FK.2.2.2.2.1
  have hlt : t0 < s.heap.size := by obtain ⟨scr, x1, -⟩ := hX; exact (Array.getElem?_eq_some_iff.mp x1).1
  obtain ⟨s0, s1, s2, s3⟩ := xia_spec hs1
  obtain ⟨C, T, N, ty, f1, f2, f3, f4, f5, f6, f7, f8⟩ := fl_X7_11
  obtain ⟨u0, u1, u2, u3, u4⟩ := xis_spec hf
  have hea := xp_get (E := E) (σ := σ) u0 u1
  rw [xe_obj u2, u3] at hea
  have hfv : (xfs E 155 (σ a) 0 (xsh a).2.2)[0]? = some (xr E (vR a1)) := by rw [xfs_get, u4]; simp [hv]
  have he1 := xp_get (E := E) (n := 155) (σ := σ) s0 s1
  rw [xe_int s2 (Or.inl rfl), s3] at he1
  have hw : nativeFrameWords "java/lang/System" "arraycopy" 5 ≤ 80 := by decide
  refine va_gets Fx Fb hZ hS Fo (Ft _ wf_first) (fun _ h => h) dX7_takeFirst_0 (lv_iconst Fx Fb dX7_takeFirst_3 rfl ?_)
  have hq := xl_get (i := 0) hl rfl (fun h => nomatch h)
  rw [xr_R ha] at hq
  refine lv_aload_n Fx Fb dX7_takeFirst_4 rfl hq ?_
  have hgo : W p l e R s m args below meth c H locs cells slots Q (F0 m 8 ls [xr E (vR a1), .int 0, .ref t0]) := by
    rw [xr_R s0]
    refine lv_iconst Fx Fb dX7_takeFirst_8 rfl (va_gets Fx Fb hZ hS Fo (Ft _ wf_first) (fun _ h => h) dX7_takeFirst_9 (va_slen Fx Fb hX hlt hnA hS dX7_takeFirst_12 ?_))
    refine va_copyx Fx Fb (by rw [Fml, hl.1]) Fo (Ft _ mc_X7_45) (Ft _ mm_copy.1) (Ft _ mm_copy.2.1) (Ft _ mm_copy.2.2) FK.1 hH.1 xp_D hS hX hlt hnA _ 0 he1 rfl (by decide) (by decide) (by decide) (by decide) (by decide) (by omega) (by show 0 + _ ≤ _; omega) dX7_takeFirst_13 fun H1 locs1 hP1 hD1 hS1 => ?_
    have hP2 : va_P E.2.2.1 xcls ((xp E 155 σ).set a1.toNat (E.1 + a1.toNat, .inl (E.2.2.2 1, 40, .inl (va_cpy (fun j : Nat => Int32.ofInt (xFst.getD j 0)) (fun j : Nat => Int32.ofInt (σ a1 j)) 0 0 7)))) H1 := hP1
    rw [xfirst_cpy, ← s3, ← xe_int (E := E) (n := 155) s2 (Or.inl rfl), xp_set (σ' := xfirst σ a1) s0 s1 (fun c' h => by funext j; unfold xfirst; rw [if_neg (fun z => h z.1)])] at hP2
    exact kk E p l e R s m args below meth c mc ms Q F H1 locs1 cells slots ls (xH155 hP2) hS1 h1 h2 hl
  rcases f8 with hq | ⟨host, hq⟩
  · exact va_get Fx Fb Ft f3 Fo FK.1 hH.1 _ hea f1 0 f2 (Ft _ hq) (fun _ h => h) hfv dX7_takeFirst_5 hgo
  · exact va_getN Fx Fb Ft f3 Fo FK.1 hH.1 _ hea f1 0 f2 ((FK.2.1 _ hq).use rfl) (fun _ h => h) hfv dX7_takeFirst_5 hgo
theorem g_first2 {a : Int} (kk : xG d bc bs mX7_takeFirst 21 [vR a] [vI 7, vR a] 155 σ K) (ha : 0 ≤ a) : xG d bc bs mX7_takeFirst 16 [vR a] [] 155 σ K := by
  refine g_aln dX7_takeFirst_16 rfl rfl ha ?_
  intro E p l e R s m args below meth c mc ms Q F H locs cells slots ls hH hS h1 h2 hl
  obtain ⟨Fx, Fb, Fml, Fo, Ft, FK, -⟩ := id F
  obtain ⟨t0, hZ, hX, hnA⟩ := FK.2.2.2.2.1
  have hlt : t0 < s.heap.size := by obtain ⟨scr, x1, -⟩ := hX; exact (Array.getElem?_eq_some_iff.mp x1).1
  have k2 := kk E p l e R s m args below meth c mc ms Q F H locs cells slots ls hH hS h1 h2 hl
  exact va_gets Fx Fb hZ hS Fo (Ft _ wf_first) (fun _ h => h) dX7_takeFirst_17 (va_slen Fx Fb hX hlt hnA hS dX7_takeFirst_20 k2)
end GF
theorem s_X7_takeFirst {a0 : Int} {s0 : xW} {q : xW} (h : F_X7_takeFirst a0 s0 = some q) : xC 1 0 0 mX7_takeFirst [vR a0] 155 s0 (xR0 q) := by
  refine xC.of [vR a0] (by decide +kernel) (Nat.le_of_ble_eq_true rfl) rfl ?_
  unfold F_X7_takeFirst at h
  obtain ⟨hm0, h⟩ := xgd_e h
  obtain ⟨s1, e1, h1⟩ := xlt_e h
  obtain ⟨s2, e2, h2⟩ := xlt_e h1
  subst e1
  refine g_first (a1 := a0 + 1) (t := (a0 + 1).toNat + 10) (xf_rule_0 _ hm0) (xf_rule_6 _ hm0) ?_ (xf_rule_8 _ hm0) (by decide) (g_first2 ?_ (xf_rule_0 _ hm0))
  · have := xf_rule_7 _ hm0
    unfold xfv
    rw [if_neg (by omega), if_neg (by omega), if_neg (by omega), if_neg (by omega), if_pos rfl]
    congr 1
    omega
  · refine h_putI 1 dX7_takeFirst_21 fl_X7_15 (xf_rule_5 _ hm0) rfl e2 ?_
    exact g_rV rfl dX7_takeFirst_24 h2
theorem dX7_await_0 : decode cX7_await 0 = .ok (.aload_n 0, 1) := by decide +kernel
theorem dX7_await_1 : decode cX7_await 1 = .ok (.getfield 26, 3) := by decide +kernel
theorem dX7_await_4 : decode cX7_await 4 = .ok (.bipush 40, 2) := by decide +kernel
theorem dX7_await_6 : decode cX7_await 6 = .ok (.if_icmp .ge 23, 3) := by decide +kernel
theorem dX7_await_9 : decode cX7_await 9 = .ok (.aload_n 0, 1) := by decide +kernel
theorem dX7_await_10 : decode cX7_await 10 = .ok (.getfield 22, 3) := by decide +kernel
theorem dX7_await_13 : decode cX7_await 13 = .ok (.aload_n 0, 1) := by decide +kernel
theorem dX7_await_14 : decode cX7_await 14 = .ok (.getfield 26, 3) := by decide +kernel
theorem dX7_await_17 : decode cX7_await 17 = .ok (.iload_n 1, 1) := by decide +kernel
theorem dX7_await_18 : decode cX7_await 18 = .ok (.castore, 1) := by decide +kernel
theorem dX7_await_19 : decode cX7_await 19 = .ok (.aload_n 0, 1) := by decide +kernel
theorem dX7_await_20 : decode cX7_await 20 = .ok (.dup, 1) := by decide +kernel
theorem dX7_await_21 : decode cX7_await 21 = .ok (.getfield 26, 3) := by decide +kernel
theorem dX7_await_24 : decode cX7_await 24 = .ok (.iconst 1, 1) := by decide +kernel
theorem dX7_await_25 : decode cX7_await 25 = .ok (.iadd, 1) := by decide +kernel
theorem dX7_await_26 : decode cX7_await 26 = .ok (.putfield 26, 3) := by decide +kernel
theorem dX7_await_29 : decode cX7_await 29 = .ok (.return_, 1) := by decide +kernel
theorem s_X7_await {a0 a1 : Int} {s0 : xW} {q : xW} (h : F_X7_await a0 a1 s0 = some q) : xC 0 0 0 mX7_await [vR a0, vI a1] 155 s0 (xR0 q) := by
  refine xC.of [vR a0, vI a1] (by decide +kernel) (Nat.le_of_ble_eq_true rfl) rfl ?_
  unfold F_X7_await at h
  obtain ⟨hm0, h⟩ := xgd_e h
  refine g_aln dX7_await_0 rfl rfl (xf_rule_0 _ hm0) ?_
  refine g_getI 4 dX7_await_1 fl_X7_26 (xf_rule_35 _ hm0) rfl ?_
  refine g_bi dX7_await_4 (by decide) ?_
  obtain ⟨j2, ej3, h⟩ := xjn_e h
  have hj4 : ∀ (s1 : xW), j2 s1 = some q → xG 0 0 0 mX7_await 29 [vX, vX] [] 155 s1 (xR0 q) := by
    intro s1 h
    rw [ej3] at h
    exact g_rV rfl dX7_await_29 h
  clear ej3
  refine g_wge dX7_await_6 (tgt := 29) rfl rfl (xw_id (by decide)) (fun q5 => ?_) (fun q5 => ?_)
  · replace h := xif_f q5 h
    refine g_drop_0 ?_
    refine g_drop_1 ?_
    exact hj4 s0 h
  · replace h := xif_t q5 h
    refine g_aln dX7_await_9 rfl rfl (xf_rule_0 _ hm0) ?_
    refine g_getC (a0 + 3) dX7_await_10 fl_X7_22 (xf_rule_36 _ hm0) (xf_rule_37 _ hm0) ?_
    refine g_aln dX7_await_13 rfl rfl (xf_rule_0 _ hm0) ?_
    refine g_getI 4 dX7_await_14 fl_X7_26 (xf_rule_35 _ hm0) rfl ?_
    refine g_iln dX7_await_17 rfl rfl ?_
    obtain ⟨hg6, h⟩ := xgd_e h
    obtain ⟨hg7, h⟩ := xgd_e h
    obtain ⟨s8, e9, h⟩ := xlt_e h
    refine h_cast 40 dX7_await_18 (xf_rule_38 _ hm0) hg6 (by decide) hg7 e9 ?_
    refine g_aln dX7_await_19 rfl rfl (xf_rule_0 _ hm0) ?_
    refine g_dup dX7_await_20 rfl ?_
    refine g_getI 4 dX7_await_21 fl_X7_26 (xf_rule_35 _ hm0) rfl ?_
    refine g_ic dX7_await_24 ?_
    refine g_iadd dX7_await_25 ?_
    obtain ⟨s10, e11, h⟩ := xlt_e h
    refine h_putI 4 dX7_await_26 fl_X7_26 (xf_rule_35 _ hm0) rfl e11 ?_
    refine g_drop_0 ?_
    refine g_drop_1 ?_
    exact hj4 s10 h
theorem dX7_step_0 : decode cX7_step 0 = .ok (.aload_n 0, 1) := by decide +kernel
theorem dX7_step_1 : decode cX7_step 1 = .ok (.getfield 15, 3) := by decide +kernel
theorem dX7_step_4 : decode cX7_step 4 = .ok (.bipush 40, 2) := by decide +kernel
theorem dX7_step_6 : decode cX7_step 6 = .ok (.if_icmp .ge 23, 3) := by decide +kernel
theorem dX7_step_9 : decode cX7_step 9 = .ok (.aload_n 0, 1) := by decide +kernel
theorem dX7_step_10 : decode cX7_step 10 = .ok (.getfield 11, 3) := by decide +kernel
theorem dX7_step_13 : decode cX7_step 13 = .ok (.aload_n 0, 1) := by decide +kernel
theorem dX7_step_14 : decode cX7_step 14 = .ok (.getfield 15, 3) := by decide +kernel
theorem dX7_step_17 : decode cX7_step 17 = .ok (.iload_n 1, 1) := by decide +kernel
theorem dX7_step_18 : decode cX7_step 18 = .ok (.iastore, 1) := by decide +kernel
theorem dX7_step_19 : decode cX7_step 19 = .ok (.aload_n 0, 1) := by decide +kernel
theorem dX7_step_20 : decode cX7_step 20 = .ok (.dup, 1) := by decide +kernel
theorem dX7_step_21 : decode cX7_step 21 = .ok (.getfield 15, 3) := by decide +kernel
theorem dX7_step_24 : decode cX7_step 24 = .ok (.iconst 1, 1) := by decide +kernel
theorem dX7_step_25 : decode cX7_step 25 = .ok (.iadd, 1) := by decide +kernel
theorem dX7_step_26 : decode cX7_step 26 = .ok (.putfield 15, 3) := by decide +kernel
theorem dX7_step_29 : decode cX7_step 29 = .ok (.return_, 1) := by decide +kernel
theorem s_X7_step {a0 a1 : Int} {s0 : xW} {q : xW} (h : F_X7_step a0 a1 s0 = some q) : xC 0 0 0 mX7_step [vR a0, vI a1] 155 s0 (xR0 q) := by
  refine xC.of [vR a0, vI a1] (by decide +kernel) (Nat.le_of_ble_eq_true rfl) rfl ?_
  unfold F_X7_step at h
  obtain ⟨hm0, h⟩ := xgd_e h
  refine g_aln dX7_step_0 rfl rfl (xf_rule_0 _ hm0) ?_
  refine g_getI 1 dX7_step_1 fl_X7_15 (xf_rule_5 _ hm0) rfl ?_
  refine g_bi dX7_step_4 (by decide) ?_
  obtain ⟨j2, ej3, h⟩ := xjn_e h
  have hj4 : ∀ (s1 : xW), j2 s1 = some q → xG 0 0 0 mX7_step 29 [vX, vX] [] 155 s1 (xR0 q) := by
    intro s1 h
    rw [ej3] at h
    exact g_rV rfl dX7_step_29 h
  clear ej3
  refine g_wge dX7_step_6 (tgt := 29) rfl rfl (xw_id (by decide)) (fun q5 => ?_) (fun q5 => ?_)
  · replace h := xif_f q5 h
    refine g_drop_0 ?_
    refine g_drop_1 ?_
    exact hj4 s0 h
  · replace h := xif_t q5 h
    refine g_aln dX7_step_9 rfl rfl (xf_rule_0 _ hm0) ?_
    refine g_getC (a0 + 1) dX7_step_10 fl_X7_11 (xf_rule_6 _ hm0) (xf_rule_7 _ hm0) ?_
    refine g_aln dX7_step_13 rfl rfl (xf_rule_0 _ hm0) ?_
    refine g_getI 1 dX7_step_14 fl_X7_15 (xf_rule_5 _ hm0) rfl ?_
    refine g_iln dX7_step_17 rfl rfl ?_
    obtain ⟨hg6, h⟩ := xgd_e h
    obtain ⟨s7, e8, h⟩ := xlt_e h
    refine h_iast 40 dX7_step_18 (xf_rule_8 _ hm0) hg6 (by decide) e8 ?_
    refine g_aln dX7_step_19 rfl rfl (xf_rule_0 _ hm0) ?_
    refine g_dup dX7_step_20 rfl ?_
    refine g_getI 1 dX7_step_21 fl_X7_15 (xf_rule_5 _ hm0) rfl ?_
    refine g_ic dX7_step_24 ?_
    refine g_iadd dX7_step_25 ?_
    obtain ⟨s9, e10, h⟩ := xlt_e h
    refine h_putI 1 dX7_step_26 fl_X7_15 (xf_rule_5 _ hm0) rfl e10 ?_
    refine g_drop_0 ?_
    refine g_drop_1 ?_
    exact hj4 s9 h
theorem dX7_beginsThing_0 : decode cX7_beginsThing 0 = .ok (.iload_n 1, 1) := by decide +kernel
theorem dX7_beginsThing_1 : decode cX7_beginsThing 1 = .ok (.bipush 45, 2) := by decide +kernel
theorem dX7_beginsThing_3 : decode cX7_beginsThing 3 = .ok (.if_icmp .ne 11, 3) := by decide +kernel
theorem dX7_beginsThing_6 : decode cX7_beginsThing 6 = .ok (.aload_n 0, 1) := by decide +kernel
theorem dX7_beginsThing_7 : decode cX7_beginsThing 7 = .ok (.bipush 126, 2) := by decide +kernel
theorem dX7_beginsThing_9 : decode cX7_beginsThing 9 = .ok (.invokevirtual 81, 3) := by decide +kernel
theorem dX7_beginsThing_12 : decode cX7_beginsThing 12 = .ok (.iconst 1, 1) := by decide +kernel
theorem dX7_beginsThing_13 : decode cX7_beginsThing 13 = .ok (.ireturn, 1) := by decide +kernel
theorem dX7_beginsThing_14 : decode cX7_beginsThing 14 = .ok (.iload_n 1, 1) := by decide +kernel
theorem dX7_beginsThing_15 : decode cX7_beginsThing 15 = .ok (.bipush 40, 2) := by decide +kernel
theorem dX7_beginsThing_17 : decode cX7_beginsThing 17 = .ok (.if_icmp .ne 32, 3) := by decide +kernel
theorem dX7_beginsThing_20 : decode cX7_beginsThing 20 = .ok (.aload_n 0, 1) := by decide +kernel
theorem dX7_beginsThing_21 : decode cX7_beginsThing 21 = .ok (.dup, 1) := by decide +kernel
theorem dX7_beginsThing_22 : decode cX7_beginsThing 22 = .ok (.getfield 29, 3) := by decide +kernel
theorem dX7_beginsThing_25 : decode cX7_beginsThing 25 = .ok (.iconst 1, 1) := by decide +kernel
theorem dX7_beginsThing_26 : decode cX7_beginsThing 26 = .ok (.iadd, 1) := by decide +kernel
theorem dX7_beginsThing_27 : decode cX7_beginsThing 27 = .ok (.putfield 29, 3) := by decide +kernel
theorem dX7_beginsThing_30 : decode cX7_beginsThing 30 = .ok (.aload_n 0, 1) := by decide +kernel
theorem dX7_beginsThing_31 : decode cX7_beginsThing 31 = .ok (.iload_n 1, 1) := by decide +kernel
theorem dX7_beginsThing_32 : decode cX7_beginsThing 32 = .ok (.invokevirtual 81, 3) := by decide +kernel
theorem dX7_beginsThing_35 : decode cX7_beginsThing 35 = .ok (.aload_n 0, 1) := by decide +kernel
theorem dX7_beginsThing_36 : decode cX7_beginsThing 36 = .ok (.getfield 29, 3) := by decide +kernel
theorem dX7_beginsThing_39 : decode cX7_beginsThing 39 = .ok (.iconst 4, 1) := by decide +kernel
theorem dX7_beginsThing_40 : decode cX7_beginsThing 40 = .ok (.if_icmp .gt 7, 3) := by decide +kernel
theorem dX7_beginsThing_43 : decode cX7_beginsThing 43 = .ok (.iconst 1, 1) := by decide +kernel
theorem dX7_beginsThing_44 : decode cX7_beginsThing 44 = .ok (.goto 4, 3) := by decide +kernel
theorem dX7_beginsThing_47 : decode cX7_beginsThing 47 = .ok (.iconst 0, 1) := by decide +kernel
theorem dX7_beginsThing_48 : decode cX7_beginsThing 48 = .ok (.ireturn, 1) := by decide +kernel
theorem dX7_beginsThing_49 : decode cX7_beginsThing 49 = .ok (.iload_n 1, 1) := by decide +kernel
theorem dX7_beginsThing_50 : decode cX7_beginsThing 50 = .ok (.bipush 48, 2) := by decide +kernel
theorem dX7_beginsThing_52 : decode cX7_beginsThing 52 = .ok (.if_icmp .lt 13, 3) := by decide +kernel
theorem dX7_beginsThing_55 : decode cX7_beginsThing 55 = .ok (.iload_n 1, 1) := by decide +kernel
theorem dX7_beginsThing_56 : decode cX7_beginsThing 56 = .ok (.bipush 57, 2) := by decide +kernel
theorem dX7_beginsThing_58 : decode cX7_beginsThing 58 = .ok (.if_icmp .gt 7, 3) := by decide +kernel
theorem dX7_beginsThing_61 : decode cX7_beginsThing 61 = .ok (.iconst 1, 1) := by decide +kernel
theorem dX7_beginsThing_62 : decode cX7_beginsThing 62 = .ok (.goto 4, 3) := by decide +kernel
theorem dX7_beginsThing_65 : decode cX7_beginsThing 65 = .ok (.iconst 0, 1) := by decide +kernel
theorem dX7_beginsThing_66 : decode cX7_beginsThing 66 = .ok (.istore_n 2, 1) := by decide +kernel
theorem dX7_beginsThing_67 : decode cX7_beginsThing 67 = .ok (.ldc 85, 2) := by decide +kernel
theorem dX7_beginsThing_69 : decode cX7_beginsThing 69 = .ok (.iload_n 1, 1) := by decide +kernel
theorem dX7_beginsThing_70 : decode cX7_beginsThing 70 = .ok (.invokevirtual 87, 3) := by decide +kernel
theorem dX7_beginsThing_73 : decode cX7_beginsThing 73 = .ok (.istore_n 3, 1) := by decide +kernel
theorem dX7_beginsThing_74 : decode cX7_beginsThing 74 = .ok (.iload_n 2, 1) := by decide +kernel
theorem dX7_beginsThing_75 : decode cX7_beginsThing 75 = .ok (.ifCond .ne 9, 3) := by decide +kernel
theorem dX7_beginsThing_78 : decode cX7_beginsThing 78 = .ok (.iload_n 3, 1) := by decide +kernel
theorem dX7_beginsThing_79 : decode cX7_beginsThing 79 = .ok (.ifCond .ge 5, 3) := by decide +kernel
theorem dX7_beginsThing_82 : decode cX7_beginsThing 82 = .ok (.iconst 0, 1) := by decide +kernel
theorem dX7_beginsThing_83 : decode cX7_beginsThing 83 = .ok (.ireturn, 1) := by decide +kernel
theorem dX7_beginsThing_84 : decode cX7_beginsThing 84 = .ok (.aload_n 0, 1) := by decide +kernel
theorem dX7_beginsThing_85 : decode cX7_beginsThing 85 = .ok (.iload_n 2, 1) := by decide +kernel
theorem dX7_beginsThing_86 : decode cX7_beginsThing 86 = .ok (.ifCond .eq 10, 3) := by decide +kernel
theorem dX7_beginsThing_89 : decode cX7_beginsThing 89 = .ok (.iload_n 1, 1) := by decide +kernel
theorem dX7_beginsThing_90 : decode cX7_beginsThing 90 = .ok (.bipush 48, 2) := by decide +kernel
theorem dX7_beginsThing_92 : decode cX7_beginsThing 92 = .ok (.isub, 1) := by decide +kernel
theorem dX7_beginsThing_93 : decode cX7_beginsThing 93 = .ok (.goto 8, 3) := by decide +kernel
theorem dX7_beginsThing_96 : decode cX7_beginsThing 96 = .ok (.sipush 1000, 3) := by decide +kernel
theorem dX7_beginsThing_99 : decode cX7_beginsThing 99 = .ok (.iload_n 3, 1) := by decide +kernel
theorem dX7_beginsThing_100 : decode cX7_beginsThing 100 = .ok (.iadd, 1) := by decide +kernel
theorem dX7_beginsThing_101 : decode cX7_beginsThing 101 = .ok (.invokevirtual 93, 3) := by decide +kernel
theorem dX7_beginsThing_104 : decode cX7_beginsThing 104 = .ok (.aload_n 0, 1) := by decide +kernel
theorem dX7_beginsThing_105 : decode cX7_beginsThing 105 = .ok (.iload_n 2, 1) := by decide +kernel
theorem dX7_beginsThing_106 : decode cX7_beginsThing 106 = .ok (.ifCond .eq 7, 3) := by decide +kernel
theorem dX7_beginsThing_109 : decode cX7_beginsThing 109 = .ok (.iconst 1, 1) := by decide +kernel
theorem dX7_beginsThing_110 : decode cX7_beginsThing 110 = .ok (.goto 4, 3) := by decide +kernel
theorem dX7_beginsThing_113 : decode cX7_beginsThing 113 = .ok (.iconst 3, 1) := by decide +kernel
theorem dX7_beginsThing_114 : decode cX7_beginsThing 114 = .ok (.putfield 32, 3) := by decide +kernel
theorem dX7_beginsThing_117 : decode cX7_beginsThing 117 = .ok (.aload_n 0, 1) := by decide +kernel
theorem dX7_beginsThing_118 : decode cX7_beginsThing 118 = .ok (.iconst 0, 1) := by decide +kernel
theorem dX7_beginsThing_119 : decode cX7_beginsThing 119 = .ok (.putfield 35, 3) := by decide +kernel
theorem dX7_beginsThing_122 : decode cX7_beginsThing 122 = .ok (.iconst 1, 1) := by decide +kernel
theorem dX7_beginsThing_123 : decode cX7_beginsThing 123 = .ok (.ireturn, 1) := by decide +kernel
theorem s_X7_beginsThing {a0 a1 : Int} {s0 : xW} {q : Int × xW} (h : F_X7_beginsThing a0 a1 s0 = some q) : xC 5 0 0 mX7_beginsThing [vR a0, vI a1] 155 s0 (xRv (vI q.1) q.2) := by
  refine xC.of [vR a0, vI a1, vX, vX] (by decide +kernel) (Nat.le_of_ble_eq_true rfl) rfl ?_
  unfold F_X7_beginsThing at h
  obtain ⟨hm0, h⟩ := xgd_e h
  refine g_iln dX7_beginsThing_0 rfl rfl ?_
  refine g_bi dX7_beginsThing_1 (by decide) ?_
  refine g_wne dX7_beginsThing_3 (tgt := 14) rfl rfl (xw_id (by decide)) (fun q1 => ?_) (fun q1 => ?_)
  · replace h := xif_f q1 h
    refine g_iln dX7_beginsThing_14 rfl rfl ?_
    refine g_bi dX7_beginsThing_15 (by decide) ?_
    refine g_wne dX7_beginsThing_17 (tgt := 49) rfl rfl (xw_id (by decide)) (fun q2 => ?_) (fun q2 => ?_)
    · replace h := xif_f q2 h
      refine g_iln dX7_beginsThing_49 rfl rfl ?_
      refine g_bi dX7_beginsThing_50 (by decide) ?_
      obtain ⟨v5, e6, h⟩ := xlt_e h
      have hj7 : xG 5 0 0 mX7_beginsThing 66 [vR a0, vI a1, vX, vX] [vI v5] 155 s0 (xRv (vI q.1) q.2) := by
        refine g_istn_2 dX7_beginsThing_66 (by decide) rfl ?_
        refine g_ldcS 1 dX7_beginsThing_67 rfl rfl rfl ?_
        refine g_iln dX7_beginsThing_69 rfl rfl ?_
        refine g_six 1 dX7_beginsThing_70 wl_NoonGunRule_87 rfl ⟨by decide, by decide⟩ (by decide) rfl ?_
        refine g_istn_3 dX7_beginsThing_73 (by decide) rfl ?_
        refine g_iln dX7_beginsThing_74 rfl rfl ?_
        obtain ⟨j8, ej9, h⟩ := xjn_e h
        have hj10 : j8  = some q → xG 5 0 0 mX7_beginsThing 84 [vR a0, vI a1, vI v5, vI (xix ([100, 119, 109, 120, 121, 110, 101] : List Int) a1)] [] 155 s0 (xRv (vI q.1) q.2) := by
          intro  h
          rw [ej9] at h
          refine g_aln dX7_beginsThing_84 rfl rfl (xf_rule_0 _ hm0) ?_
          refine g_iln dX7_beginsThing_85 rfl rfl ?_
          obtain ⟨v12, e13, h⟩ := xlt_e h
          have hj14 : xG 5 0 0 mX7_beginsThing 101 [vR a0, vX, vI v5, vX] [vI v12, vR a0] 155 s0 (xRv (vI q.1) q.2) := by
            obtain ⟨s16, e15, h⟩ := xbp_e h
            refine g_cV10 dX7_beginsThing_101 ml_X7_93 (xf_rule_1 _ hm0) (s_X7_step e15) (by decide) rfl ?_
            refine g_aln dX7_beginsThing_104 rfl rfl (xf_rule_0 _ hm0) ?_
            refine g_iln dX7_beginsThing_105 rfl rfl ?_
            obtain ⟨v18, e19, h⟩ := xlt_e h
            have hj20 : xG 5 0 0 mX7_beginsThing 114 [vR a0, vX, vX, vX] [vI v18, vR a0] 155 s16 (xRv (vI q.1) q.2) := by
              obtain ⟨s21, e22, h⟩ := xlt_e h
              refine h_putI 6 dX7_beginsThing_114 fl_X7_32 (xf_rule_2 _ hm0) rfl e22 ?_
              refine g_aln dX7_beginsThing_117 rfl rfl (xf_rule_0 _ hm0) ?_
              refine g_ic dX7_beginsThing_118 ?_
              obtain ⟨s23, e24, h⟩ := xlt_e h
              refine h_putZ 7 dX7_beginsThing_119 fl_X7_35 (xf_rule_3 _ hm0) (by decide) rfl e24 ?_
              refine g_ic dX7_beginsThing_122 ?_
              exact g_rZ rfl dX7_beginsThing_123 (by decide) h
            refine g_yeq dX7_beginsThing_106 (tgt := 113) rfl rfl (fun c17 => ?_) (fun c17 => ?_)
            · skip
              refine g_ic dX7_beginsThing_113 ?_
              refine g_drop_2 ?_
              exact g_vq ((if_neg c17).symm.trans e19) hj20
            · skip
              refine g_ic dX7_beginsThing_109 ?_
              refine g_goto dX7_beginsThing_110 (tgt := 114) rfl ?_
              refine g_drop_2 ?_
              exact g_vq ((if_pos c17).symm.trans e19) hj20
          refine g_yeq dX7_beginsThing_86 (tgt := 96) rfl rfl (fun c11 => ?_) (fun c11 => ?_)
          · skip
            refine g_si dX7_beginsThing_96 (by decide) ?_
            refine g_iln dX7_beginsThing_99 rfl rfl ?_
            refine g_iadd dX7_beginsThing_100 ?_
            refine g_drop_1 ?_
            refine g_drop_3 ?_
            exact g_vq ((if_neg c11).symm.trans e13) hj14
          · skip
            refine g_iln dX7_beginsThing_89 rfl rfl ?_
            refine g_bi dX7_beginsThing_90 (by decide) ?_
            refine g_isub dX7_beginsThing_92 ?_
            refine g_goto dX7_beginsThing_93 (tgt := 101) rfl ?_
            refine g_drop_1 ?_
            refine g_drop_3 ?_
            exact g_vq ((if_pos c11).symm.trans e13) hj14
        clear ej9
        refine g_yne dX7_beginsThing_75 (tgt := 84) rfl rfl (fun q25 => ?_) (fun q25 => ?_)
        · replace h := xif_f q25 h
          exact hj10  h
        · replace h := xif_t q25 h
          refine g_iln dX7_beginsThing_78 rfl rfl ?_
          refine g_yge dX7_beginsThing_79 (tgt := 84) rfl rfl (fun q26 => ?_) (fun q26 => ?_)
          · replace h := xif_f q26 h
            exact hj10  h
          · replace h := xif_t q26 h
            refine g_ic dX7_beginsThing_82 ?_
            exact g_rZ rfl dX7_beginsThing_83 (by decide) h
      refine g_wlt dX7_beginsThing_52 (tgt := 65) rfl rfl (xw_id (by decide)) (fun c3 => ?_) (fun c3 => ?_)
      · skip
        refine g_ic dX7_beginsThing_65 ?_
        exact g_vq ((if_neg c3).symm.trans e6) hj7
      · skip
        refine g_iln dX7_beginsThing_55 rfl rfl ?_
        refine g_bi dX7_beginsThing_56 (by decide) ?_
        refine g_wgt dX7_beginsThing_58 (tgt := 65) rfl rfl (xw_id (by decide)) (fun c4 => ?_) (fun c4 => ?_)
        · skip
          refine g_ic dX7_beginsThing_65 ?_
          exact g_vq (((if_pos c3).trans (if_neg c4)).symm.trans e6) hj7
        · skip
          refine g_ic dX7_beginsThing_61 ?_
          refine g_goto dX7_beginsThing_62 (tgt := 66) rfl ?_
          exact g_vq (((if_pos c3).trans (if_pos c4)).symm.trans e6) hj7
    · replace h := xif_t q2 h
      refine g_aln dX7_beginsThing_20 rfl rfl (xf_rule_0 _ hm0) ?_
      refine g_dup dX7_beginsThing_21 rfl ?_
      refine g_getI 5 dX7_beginsThing_22 fl_X7_29 (xf_rule_4 _ hm0) rfl ?_
      refine g_ic dX7_beginsThing_25 ?_
      refine g_iadd dX7_beginsThing_26 ?_
      obtain ⟨s27, e28, h⟩ := xlt_e h
      refine h_putI 5 dX7_beginsThing_27 fl_X7_29 (xf_rule_4 _ hm0) rfl e28 ?_
      refine g_aln dX7_beginsThing_30 rfl rfl (xf_rule_0 _ hm0) ?_
      refine g_iln dX7_beginsThing_31 rfl rfl ?_
      obtain ⟨s30, e29, h⟩ := xbp_e h
      refine g_cV10 dX7_beginsThing_32 ml_X7_81 (xf_rule_1 _ hm0) (s_X7_await e29) (by decide) rfl ?_
      refine g_aln dX7_beginsThing_35 rfl rfl (xf_rule_0 _ hm0) ?_
      refine g_getI 5 dX7_beginsThing_36 fl_X7_29 (xf_rule_4 _ hm0) rfl ?_
      refine g_ic dX7_beginsThing_39 ?_
      obtain ⟨v32, e33, h⟩ := xlt_e h
      have hj34 : xG 5 0 0 mX7_beginsThing 48 [vX, vX, vX, vX] [vI v32] 155 s30 (xRv (vI q.1) q.2) := by
        obtain ⟨hg35, h⟩ := xgd_e h
        exact g_rZ rfl dX7_beginsThing_48 hg35 h
      refine g_wgt dX7_beginsThing_40 (tgt := 47) rfl rfl (xw_id (by decide)) (fun c31 => ?_) (fun c31 => ?_)
      · skip
        refine g_ic dX7_beginsThing_47 ?_
        refine g_drop_0 ?_
        refine g_drop_1 ?_
        exact g_vq ((if_neg c31).symm.trans e33) hj34
      · skip
        refine g_ic dX7_beginsThing_43 ?_
        refine g_goto dX7_beginsThing_44 (tgt := 48) rfl ?_
        refine g_drop_0 ?_
        refine g_drop_1 ?_
        exact g_vq ((if_pos c31).symm.trans e33) hj34
  · replace h := xif_t q1 h
    refine g_aln dX7_beginsThing_6 rfl rfl (xf_rule_0 _ hm0) ?_
    refine g_bi dX7_beginsThing_7 (by decide) ?_
    obtain ⟨s37, e36, h⟩ := xbp_e h
    refine g_cV10 dX7_beginsThing_9 ml_X7_81 (xf_rule_1 _ hm0) (s_X7_await e36) (by decide) rfl ?_
    refine g_ic dX7_beginsThing_12 ?_
    exact g_rZ rfl dX7_beginsThing_13 (by decide) h
theorem dX7_goesOnNumber_0 : decode cX7_goesOnNumber 0 = .ok (.aload_n 0, 1) := by decide +kernel
theorem dX7_goesOnNumber_1 : decode cX7_goesOnNumber 1 = .ok (.getfield 32, 3) := by decide +kernel
theorem dX7_goesOnNumber_4 : decode cX7_goesOnNumber 4 = .ok (.iconst 3, 1) := by decide +kernel
theorem dX7_goesOnNumber_5 : decode cX7_goesOnNumber 5 = .ok (.if_icmp .ge 10, 3) := by decide +kernel
theorem dX7_goesOnNumber_8 : decode cX7_goesOnNumber 8 = .ok (.aload_n 0, 1) := by decide +kernel
theorem dX7_goesOnNumber_9 : decode cX7_goesOnNumber 9 = .ok (.getfield 15, 3) := by decide +kernel
theorem dX7_goesOnNumber_12 : decode cX7_goesOnNumber 12 = .ok (.ifCond .ne 5, 3) := by decide +kernel
theorem dX7_goesOnNumber_15 : decode cX7_goesOnNumber 15 = .ok (.iconst 0, 1) := by decide +kernel
theorem dX7_goesOnNumber_16 : decode cX7_goesOnNumber 16 = .ok (.ireturn, 1) := by decide +kernel
theorem dX7_goesOnNumber_17 : decode cX7_goesOnNumber 17 = .ok (.aload_n 0, 1) := by decide +kernel
theorem dX7_goesOnNumber_18 : decode cX7_goesOnNumber 18 = .ok (.dup, 1) := by decide +kernel
theorem dX7_goesOnNumber_19 : decode cX7_goesOnNumber 19 = .ok (.getfield 32, 3) := by decide +kernel
theorem dX7_goesOnNumber_22 : decode cX7_goesOnNumber 22 = .ok (.iconst 1, 1) := by decide +kernel
theorem dX7_goesOnNumber_23 : decode cX7_goesOnNumber 23 = .ok (.iadd, 1) := by decide +kernel
theorem dX7_goesOnNumber_24 : decode cX7_goesOnNumber 24 = .ok (.putfield 32, 3) := by decide +kernel
theorem dX7_goesOnNumber_27 : decode cX7_goesOnNumber 27 = .ok (.aload_n 0, 1) := by decide +kernel
theorem dX7_goesOnNumber_28 : decode cX7_goesOnNumber 28 = .ok (.getfield 11, 3) := by decide +kernel
theorem dX7_goesOnNumber_31 : decode cX7_goesOnNumber 31 = .ok (.aload_n 0, 1) := by decide +kernel
theorem dX7_goesOnNumber_32 : decode cX7_goesOnNumber 32 = .ok (.getfield 15, 3) := by decide +kernel
theorem dX7_goesOnNumber_35 : decode cX7_goesOnNumber 35 = .ok (.iconst 1, 1) := by decide +kernel
theorem dX7_goesOnNumber_36 : decode cX7_goesOnNumber 36 = .ok (.isub, 1) := by decide +kernel
theorem dX7_goesOnNumber_37 : decode cX7_goesOnNumber 37 = .ok (.aload_n 0, 1) := by decide +kernel
theorem dX7_goesOnNumber_38 : decode cX7_goesOnNumber 38 = .ok (.getfield 11, 3) := by decide +kernel
theorem dX7_goesOnNumber_41 : decode cX7_goesOnNumber 41 = .ok (.aload_n 0, 1) := by decide +kernel
theorem dX7_goesOnNumber_42 : decode cX7_goesOnNumber 42 = .ok (.getfield 15, 3) := by decide +kernel
theorem dX7_goesOnNumber_45 : decode cX7_goesOnNumber 45 = .ok (.iconst 1, 1) := by decide +kernel
theorem dX7_goesOnNumber_46 : decode cX7_goesOnNumber 46 = .ok (.isub, 1) := by decide +kernel
theorem dX7_goesOnNumber_47 : decode cX7_goesOnNumber 47 = .ok (.iaload, 1) := by decide +kernel
theorem dX7_goesOnNumber_48 : decode cX7_goesOnNumber 48 = .ok (.bipush 10, 2) := by decide +kernel
theorem dX7_goesOnNumber_50 : decode cX7_goesOnNumber 50 = .ok (.imul, 1) := by decide +kernel
theorem dX7_goesOnNumber_51 : decode cX7_goesOnNumber 51 = .ok (.iload_n 1, 1) := by decide +kernel
theorem dX7_goesOnNumber_52 : decode cX7_goesOnNumber 52 = .ok (.bipush 48, 2) := by decide +kernel
theorem dX7_goesOnNumber_54 : decode cX7_goesOnNumber 54 = .ok (.isub, 1) := by decide +kernel
theorem dX7_goesOnNumber_55 : decode cX7_goesOnNumber 55 = .ok (.iadd, 1) := by decide +kernel
theorem dX7_goesOnNumber_56 : decode cX7_goesOnNumber 56 = .ok (.iastore, 1) := by decide +kernel
theorem dX7_goesOnNumber_57 : decode cX7_goesOnNumber 57 = .ok (.iconst 1, 1) := by decide +kernel
theorem dX7_goesOnNumber_58 : decode cX7_goesOnNumber 58 = .ok (.ireturn, 1) := by decide +kernel
theorem s_X7_goesOnNumber {a0 a1 : Int} {s0 : xW} {q : Int × xW} (h : F_X7_goesOnNumber a0 a1 s0 = some q) : xC 0 0 0 mX7_goesOnNumber [vR a0, vI a1] 155 s0 (xRv (vI q.1) q.2) := by
  refine xC.of [vR a0, vI a1] (by decide +kernel) (Nat.le_of_ble_eq_true rfl) rfl ?_
  unfold F_X7_goesOnNumber at h
  obtain ⟨hm0, h⟩ := xgd_e h
  refine g_aln dX7_goesOnNumber_0 rfl rfl (xf_rule_0 _ hm0) ?_
  refine g_getI 6 dX7_goesOnNumber_1 fl_X7_32 (xf_rule_2 _ hm0) rfl ?_
  refine g_ic dX7_goesOnNumber_4 ?_
  obtain ⟨j1, ej2, h⟩ := xjn_e h
  have hj3 : j1  = some q → xG 0 0 0 mX7_goesOnNumber 15 [vX, vX] [] 155 s0 (xRv (vI q.1) q.2) := by
    intro  h
    rw [ej2] at h
    refine g_ic dX7_goesOnNumber_15 ?_
    exact g_rZ rfl dX7_goesOnNumber_16 (by decide) h
  clear ej2
  refine g_wge dX7_goesOnNumber_5 (tgt := 15) rfl rfl (xw_id (by decide)) (fun q4 => ?_) (fun q4 => ?_)
  · replace h := xif_f q4 h
    refine g_drop_0 ?_
    refine g_drop_1 ?_
    exact hj3  h
  · replace h := xif_t q4 h
    refine g_aln dX7_goesOnNumber_8 rfl rfl (xf_rule_0 _ hm0) ?_
    refine g_getI 1 dX7_goesOnNumber_9 fl_X7_15 (xf_rule_5 _ hm0) rfl ?_
    refine g_yne dX7_goesOnNumber_12 (tgt := 17) rfl rfl (fun q5 => ?_) (fun q5 => ?_)
    · replace h := xif_f q5 h
      refine g_aln dX7_goesOnNumber_17 rfl rfl (xf_rule_0 _ hm0) ?_
      refine g_dup dX7_goesOnNumber_18 rfl ?_
      refine g_getI 6 dX7_goesOnNumber_19 fl_X7_32 (xf_rule_2 _ hm0) rfl ?_
      refine g_ic dX7_goesOnNumber_22 ?_
      refine g_iadd dX7_goesOnNumber_23 ?_
      obtain ⟨s6, e7, h⟩ := xlt_e h
      refine h_putI 6 dX7_goesOnNumber_24 fl_X7_32 (xf_rule_2 _ hm0) rfl e7 ?_
      refine g_aln dX7_goesOnNumber_27 rfl rfl (xf_rule_0 _ hm0) ?_
      refine g_getC (a0 + 1) dX7_goesOnNumber_28 fl_X7_11 (xf_rule_6 _ hm0) (xf_rule_7 _ hm0) ?_
      refine g_aln dX7_goesOnNumber_31 rfl rfl (xf_rule_0 _ hm0) ?_
      refine g_getI 1 dX7_goesOnNumber_32 fl_X7_15 (xf_rule_5 _ hm0) rfl ?_
      refine g_ic dX7_goesOnNumber_35 ?_
      refine g_isub dX7_goesOnNumber_36 ?_
      refine g_aln dX7_goesOnNumber_37 rfl rfl (xf_rule_0 _ hm0) ?_
      refine g_getC (a0 + 1) dX7_goesOnNumber_38 fl_X7_11 (xf_rule_6 _ hm0) (xf_rule_7 _ hm0) ?_
      refine g_aln dX7_goesOnNumber_41 rfl rfl (xf_rule_0 _ hm0) ?_
      refine g_getI 1 dX7_goesOnNumber_42 fl_X7_15 (xf_rule_5 _ hm0) rfl ?_
      refine g_ic dX7_goesOnNumber_45 ?_
      refine g_isub dX7_goesOnNumber_46 ?_
      obtain ⟨hg8, h⟩ := xgd_e h
      refine g_iald 40 dX7_goesOnNumber_47 (xf_rule_8 _ hm0) hg8 (by decide) ?_
      refine g_bi dX7_goesOnNumber_48 (by decide) ?_
      refine g_imul dX7_goesOnNumber_50 ?_
      refine g_iln dX7_goesOnNumber_51 rfl rfl ?_
      refine g_bi dX7_goesOnNumber_52 (by decide) ?_
      refine g_isub dX7_goesOnNumber_54 ?_
      refine g_iadd dX7_goesOnNumber_55 ?_
      obtain ⟨hg9, h⟩ := xgd_e h
      obtain ⟨s10, e11, h⟩ := xlt_e h
      refine h_iast 40 dX7_goesOnNumber_56 (xf_rule_8 _ hm0) hg9 (by decide) e11 ?_
      refine g_ic dX7_goesOnNumber_57 ?_
      exact g_rZ rfl dX7_goesOnNumber_58 (by decide) h
    · replace h := xif_t q5 h
      refine g_drop_0 ?_
      refine g_drop_1 ?_
      exact hj3  h
theorem dX7_lastWaiting_0 : decode cX7_lastWaiting 0 = .ok (.aload_n 0, 1) := by decide +kernel
theorem dX7_lastWaiting_1 : decode cX7_lastWaiting 1 = .ok (.getfield 26, 3) := by decide +kernel
theorem dX7_lastWaiting_4 : decode cX7_lastWaiting 4 = .ok (.ifCond .le 17, 3) := by decide +kernel
theorem dX7_lastWaiting_7 : decode cX7_lastWaiting 7 = .ok (.aload_n 0, 1) := by decide +kernel
theorem dX7_lastWaiting_8 : decode cX7_lastWaiting 8 = .ok (.getfield 22, 3) := by decide +kernel
theorem dX7_lastWaiting_11 : decode cX7_lastWaiting 11 = .ok (.aload_n 0, 1) := by decide +kernel
theorem dX7_lastWaiting_12 : decode cX7_lastWaiting 12 = .ok (.getfield 26, 3) := by decide +kernel
theorem dX7_lastWaiting_15 : decode cX7_lastWaiting 15 = .ok (.iconst 1, 1) := by decide +kernel
theorem dX7_lastWaiting_16 : decode cX7_lastWaiting 16 = .ok (.isub, 1) := by decide +kernel
theorem dX7_lastWaiting_17 : decode cX7_lastWaiting 17 = .ok (.caload, 1) := by decide +kernel
theorem dX7_lastWaiting_18 : decode cX7_lastWaiting 18 = .ok (.goto 4, 3) := by decide +kernel
theorem dX7_lastWaiting_21 : decode cX7_lastWaiting 21 = .ok (.iconst 0, 1) := by decide +kernel
theorem dX7_lastWaiting_22 : decode cX7_lastWaiting 22 = .ok (.ireturn, 1) := by decide +kernel
theorem s_X7_lastWaiting {a0 : Int} {s0 : xW} {q : Int} (h : F_X7_lastWaiting a0 s0 = some q) : xC 0 0 0 mX7_lastWaiting [vR a0] 155 s0 (xRv (vI q) s0) := by
  refine xC.of [vR a0] (by decide +kernel) (Nat.le_of_ble_eq_true rfl) rfl ?_
  unfold F_X7_lastWaiting at h
  obtain ⟨hm0, h⟩ := xgd_e h
  refine g_aln dX7_lastWaiting_0 rfl rfl (xf_rule_0 _ hm0) ?_
  refine g_getI 4 dX7_lastWaiting_1 fl_X7_26 (xf_rule_35 _ hm0) rfl ?_
  obtain ⟨j2, ej3, h⟩ := xjn_e h
  have hj4 : ∀ (t1 : Int), j2 t1 = some q → xG 0 0 0 mX7_lastWaiting 22 [vX] [vI t1] 155 s0 (xRv (vI q) s0) := by
    intro t1 h
    rw [ej3] at h
    obtain ⟨hg5, h⟩ := xgd_e h
    exact g_pC rfl dX7_lastWaiting_22 hg5 h
  clear ej3
  refine g_yle dX7_lastWaiting_4 (tgt := 21) rfl rfl (fun q6 => ?_) (fun q6 => ?_)
  · replace h := xif_f q6 h
    refine g_ic dX7_lastWaiting_21 ?_
    refine g_drop_0 ?_
    exact hj4 0 h
  · replace h := xif_t q6 h
    refine g_aln dX7_lastWaiting_7 rfl rfl (xf_rule_0 _ hm0) ?_
    refine g_getC (a0 + 3) dX7_lastWaiting_8 fl_X7_22 (xf_rule_36 _ hm0) (xf_rule_37 _ hm0) ?_
    refine g_aln dX7_lastWaiting_11 rfl rfl (xf_rule_0 _ hm0) ?_
    refine g_getI 4 dX7_lastWaiting_12 fl_X7_26 (xf_rule_35 _ hm0) rfl ?_
    refine g_ic dX7_lastWaiting_15 ?_
    refine g_isub dX7_lastWaiting_16 ?_
    obtain ⟨hg7, h⟩ := xgd_e h
    refine g_cald 40 dX7_lastWaiting_17 (xf_rule_38 _ hm0) hg7 (by decide) ?_
    refine g_goto dX7_lastWaiting_18 (tgt := 22) rfl ?_
    refine g_drop_0 ?_
    exact hj4 (s0 (a0 + 3) ((s0 a0 4) - 1)) h
theorem dX7_binding_0 : decode cX7_binding 0 = .ok (.iload_n 0, 1) := by decide +kernel
theorem dX7_binding_1 : decode cX7_binding 1 = .ok (.lookupswitch 83 #[(42, 79), (43, 77), (45, 77), (47, 79), (60, 75), (61, 75), (62, 75), (126, 81)], 75) := by decide +kernel
theorem dX7_binding_76 : decode cX7_binding 76 = .ok (.iconst 1, 1) := by decide +kernel
theorem dX7_binding_77 : decode cX7_binding 77 = .ok (.ireturn, 1) := by decide +kernel
theorem dX7_binding_78 : decode cX7_binding 78 = .ok (.iconst 2, 1) := by decide +kernel
theorem dX7_binding_79 : decode cX7_binding 79 = .ok (.ireturn, 1) := by decide +kernel
theorem dX7_binding_80 : decode cX7_binding 80 = .ok (.iconst 3, 1) := by decide +kernel
theorem dX7_binding_81 : decode cX7_binding 81 = .ok (.ireturn, 1) := by decide +kernel
theorem dX7_binding_82 : decode cX7_binding 82 = .ok (.iconst 4, 1) := by decide +kernel
theorem dX7_binding_83 : decode cX7_binding 83 = .ok (.ireturn, 1) := by decide +kernel
theorem dX7_binding_84 : decode cX7_binding 84 = .ok (.iconst 0, 1) := by decide +kernel
theorem dX7_binding_85 : decode cX7_binding 85 = .ok (.ireturn, 1) := by decide +kernel
theorem s_X7_binding {a0 : Int} {s0 : xW} {q : Int} (h : F_X7_binding a0 s0 = some q) : xC 0 0 0 mX7_binding [vI a0] 155 s0 (xRv (vI q) s0) := by
  refine xC.of [vI a0] (by decide +kernel) (Nat.le_of_ble_eq_true rfl) rfl ?_
  unfold F_X7_binding at h
  refine g_iln dX7_binding_0 rfl rfl ?_
  obtain ⟨j1, ej2, h⟩ := xjn_e h
  have hj3 : j1  = some q → xG 0 0 0 mX7_binding 80 [vX] [] 155 s0 (xRv (vI q) s0) := by
    intro  h
    rw [ej2] at h
    refine g_ic dX7_binding_80 ?_
    exact g_pI rfl dX7_binding_81 h
  clear ej2
  obtain ⟨j4, ej5, h⟩ := xjn_e h
  have hj6 : j4  = some q → xG 0 0 0 mX7_binding 78 [vX] [] 155 s0 (xRv (vI q) s0) := by
    intro  h
    rw [ej5] at h
    refine g_ic dX7_binding_78 ?_
    exact g_pI rfl dX7_binding_79 h
  clear ej5
  obtain ⟨j7, ej8, h⟩ := xjn_e h
  have hj9 : j7  = some q → xG 0 0 0 mX7_binding 76 [vX] [] 155 s0 (xRv (vI q) s0) := by
    intro  h
    rw [ej8] at h
    refine g_ic dX7_binding_76 ?_
    exact g_pI rfl dX7_binding_77 h
  clear ej8
  by_cases q10 : (xw a0) = 42
  · replace h := xif_t q10 h
    refine g_wlK dX7_binding_1 q10 (by decide) (off := 79) (by decide) (tgt := 80) rfl ?_
    refine g_drop_0 ?_
    exact hj3  h
  replace h := xif_f q10 h
  by_cases q11 : (xw a0) = 43
  · replace h := xif_t q11 h
    refine g_wlK dX7_binding_1 q11 (by decide) (off := 77) (by decide) (tgt := 78) rfl ?_
    refine g_drop_0 ?_
    exact hj6  h
  replace h := xif_f q11 h
  by_cases q12 : (xw a0) = 45
  · replace h := xif_t q12 h
    refine g_wlK dX7_binding_1 q12 (by decide) (off := 77) (by decide) (tgt := 78) rfl ?_
    refine g_drop_0 ?_
    exact hj6  h
  replace h := xif_f q12 h
  by_cases q13 : (xw a0) = 47
  · replace h := xif_t q13 h
    refine g_wlK dX7_binding_1 q13 (by decide) (off := 79) (by decide) (tgt := 80) rfl ?_
    refine g_drop_0 ?_
    exact hj3  h
  replace h := xif_f q13 h
  by_cases q14 : (xw a0) = 60
  · replace h := xif_t q14 h
    refine g_wlK dX7_binding_1 q14 (by decide) (off := 75) (by decide) (tgt := 76) rfl ?_
    refine g_drop_0 ?_
    exact hj9  h
  replace h := xif_f q14 h
  by_cases q15 : (xw a0) = 61
  · replace h := xif_t q15 h
    refine g_wlK dX7_binding_1 q15 (by decide) (off := 75) (by decide) (tgt := 76) rfl ?_
    refine g_drop_0 ?_
    exact hj9  h
  replace h := xif_f q15 h
  by_cases q16 : (xw a0) = 62
  · replace h := xif_t q16 h
    refine g_wlK dX7_binding_1 q16 (by decide) (off := 75) (by decide) (tgt := 76) rfl ?_
    refine g_drop_0 ?_
    exact hj9  h
  replace h := xif_f q16 h
  by_cases q17 : (xw a0) = 126
  · replace h := xif_t q17 h
    refine g_wlK dX7_binding_1 q17 (by decide) (off := 81) (by decide) (tgt := 82) rfl ?_
    refine g_ic dX7_binding_82 ?_
    exact g_pI rfl dX7_binding_83 h
  replace h := xif_f q17 h
  refine g_wlK dX7_binding_1 rfl (by decide) (off := 83) (by simp only [Op.lookupswitch.offset]; rw [if_neg (Ne.symm q10)]; rw [if_neg (Ne.symm q11)]; rw [if_neg (Ne.symm q12)]; rw [if_neg (Ne.symm q13)]; rw [if_neg (Ne.symm q14)]; rw [if_neg (Ne.symm q15)]; rw [if_neg (Ne.symm q16)]; rw [if_neg (Ne.symm q17)];) (tgt := 84) rfl ?_
  refine g_ic dX7_binding_84 ?_
  exact g_pI rfl dX7_binding_85 h
theorem dX7_settle_0 : decode cX7_settle 0 = .ok (.iconst 0, 1) := by decide +kernel
theorem dX7_settle_1 : decode cX7_settle 1 = .ok (.istore_n 2, 1) := by decide +kernel
theorem dX7_settle_2 : decode cX7_settle 2 = .ok (.iload_n 2, 1) := by decide +kernel
theorem dX7_settle_3 : decode cX7_settle 3 = .ok (.bipush 40, 2) := by decide +kernel
theorem dX7_settle_5 : decode cX7_settle 5 = .ok (.if_icmp .ge 49, 3) := by decide +kernel
theorem dX7_settle_8 : decode cX7_settle 8 = .ok (.aload_n 0, 1) := by decide +kernel
theorem dX7_settle_9 : decode cX7_settle 9 = .ok (.getfield 26, 3) := by decide +kernel
theorem dX7_settle_12 : decode cX7_settle 12 = .ok (.ifCond .le 42, 3) := by decide +kernel
theorem dX7_settle_15 : decode cX7_settle 15 = .ok (.aload_n 0, 1) := by decide +kernel
theorem dX7_settle_16 : decode cX7_settle 16 = .ok (.invokevirtual 106, 3) := by decide +kernel
theorem dX7_settle_19 : decode cX7_settle 19 = .ok (.invokestatic 96, 3) := by decide +kernel
theorem dX7_settle_22 : decode cX7_settle 22 = .ok (.iload_n 1, 1) := by decide +kernel
theorem dX7_settle_23 : decode cX7_settle 23 = .ok (.if_icmp .lt 31, 3) := by decide +kernel
theorem dX7_settle_26 : decode cX7_settle 26 = .ok (.aload_n 0, 1) := by decide +kernel
theorem dX7_settle_27 : decode cX7_settle 27 = .ok (.sipush 2000, 3) := by decide +kernel
theorem dX7_settle_30 : decode cX7_settle 30 = .ok (.aload_n 0, 1) := by decide +kernel
theorem dX7_settle_31 : decode cX7_settle 31 = .ok (.invokevirtual 106, 3) := by decide +kernel
theorem dX7_settle_34 : decode cX7_settle 34 = .ok (.iadd, 1) := by decide +kernel
theorem dX7_settle_35 : decode cX7_settle 35 = .ok (.invokevirtual 93, 3) := by decide +kernel
theorem dX7_settle_38 : decode cX7_settle 38 = .ok (.aload_n 0, 1) := by decide +kernel
theorem dX7_settle_39 : decode cX7_settle 39 = .ok (.dup, 1) := by decide +kernel
theorem dX7_settle_40 : decode cX7_settle 40 = .ok (.getfield 26, 3) := by decide +kernel
theorem dX7_settle_43 : decode cX7_settle 43 = .ok (.iconst 1, 1) := by decide +kernel
theorem dX7_settle_44 : decode cX7_settle 44 = .ok (.isub, 1) := by decide +kernel
theorem dX7_settle_45 : decode cX7_settle 45 = .ok (.putfield 26, 3) := by decide +kernel
theorem dX7_settle_48 : decode cX7_settle 48 = .ok (.iinc 2 1, 3) := by decide +kernel
theorem dX7_settle_51 : decode cX7_settle 51 = .ok (.goto (-49), 3) := by decide +kernel
theorem dX7_settle_54 : decode cX7_settle 54 = .ok (.return_, 1) := by decide +kernel
theorem s_X7_settle_2 {l0_1 l1_3 : Int} (hm2 : l0_1 ∈ xRules) {q : xW} {k : Int → xW → Option (xW)} (hk : ∀ (l2_19 : Int) (s20 : xW), k l2_19 s20 = some q → xG 1 0 0 mX7_settle 54 [vR l0_1, vI l1_3, vI l2_19] [] 155 s20 (xR0 q)) : ∀ (f : Nat) (l2_4 : Int) (s5 : xW), F_X7_settle_2 l0_1 l1_3 f l2_4 s5 k = some q → xG 1 0 0 mX7_settle 2 [vR l0_1, vI l1_3, vI l2_4] [] 155 s5 (xR0 q) := by
  intro f
  induction f with
  | zero => intro l2_4 s5 h; cases h
  | succ f ih =>
    intro l2_4 s5 h
    unfold F_X7_settle_2 at h
    refine g_iln dX7_settle_2 rfl rfl ?_
    refine g_bi dX7_settle_3 (by decide) ?_
    refine g_wge dX7_settle_5 (tgt := 54) rfl rfl (xw_id (by decide)) (fun q6 => ?_) (fun q6 => ?_)
    · replace h := xif_f q6 h
      exact hk l2_4 s5 h
    · replace h := xif_t q6 h
      refine g_aln dX7_settle_8 rfl rfl (xf_rule_0 _ hm2) ?_
      refine g_getI 4 dX7_settle_9 fl_X7_26 (xf_rule_35 _ hm2) rfl ?_
      refine g_yle dX7_settle_12 (tgt := 54) rfl rfl (fun q7 => ?_) (fun q7 => ?_)
      · replace h := xif_f q7 h
        exact hk l2_4 s5 h
      · replace h := xif_t q7 h
        refine g_aln dX7_settle_15 rfl rfl (xf_rule_0 _ hm2) ?_
        obtain ⟨r9, e8, h⟩ := xbp_e h
        refine g_cV0v dX7_settle_16 ml_X7_106 (xf_rule_1 _ hm2) (s_X7_lastWaiting e8) (by decide) rfl ?_
        obtain ⟨r11, e10, h⟩ := xbp_e h
        refine g_cS1v dX7_settle_19 ml_X7_96 (s_X7_binding e10) (by decide) rfl ?_
        refine g_iln dX7_settle_22 rfl rfl ?_
        refine g_wlt dX7_settle_23 (tgt := 54) rfl rfl rfl (fun q12 => ?_) (fun q12 => ?_)
        · replace h := xif_f q12 h
          exact hk l2_4 s5 h
        · replace h := xif_t q12 h
          refine g_aln dX7_settle_26 rfl rfl (xf_rule_0 _ hm2) ?_
          refine g_si dX7_settle_27 (by decide) ?_
          refine g_aln dX7_settle_30 rfl rfl (xf_rule_0 _ hm2) ?_
          obtain ⟨r14, e13, h⟩ := xbp_e h
          refine g_cV0v dX7_settle_31 ml_X7_106 (xf_rule_1 _ hm2) (s_X7_lastWaiting e13) (by decide) rfl ?_
          refine g_iadd dX7_settle_34 ?_
          obtain ⟨s16, e15, h⟩ := xbp_e h
          refine g_cV10 dX7_settle_35 ml_X7_93 (xf_rule_1 _ hm2) (s_X7_step e15) (by decide) rfl ?_
          refine g_aln dX7_settle_38 rfl rfl (xf_rule_0 _ hm2) ?_
          refine g_dup dX7_settle_39 rfl ?_
          refine g_getI 4 dX7_settle_40 fl_X7_26 (xf_rule_35 _ hm2) rfl ?_
          refine g_ic dX7_settle_43 ?_
          refine g_isub dX7_settle_44 ?_
          obtain ⟨s17, e18, h⟩ := xlt_e h
          refine h_putI 4 dX7_settle_45 fl_X7_26 (xf_rule_35 _ hm2) rfl e18 ?_
          refine g_inc_2 dX7_settle_48 (by decide) rfl ?_
          refine g_goto dX7_settle_51 (tgt := 2) rfl ?_
          exact ih (l2_4 + 1) s17 h
theorem s_X7_settle {a0 a1 : Int} {s0 : xW} {q : xW} (h : F_X7_settle a0 a1 s0 = some q) : xC 1 0 0 mX7_settle [vR a0, vI a1] 155 s0 (xR0 q) := by
  refine xC.of [vR a0, vI a1, vX] (by decide +kernel) (Nat.le_of_ble_eq_true rfl) rfl ?_
  unfold F_X7_settle at h
  obtain ⟨hm0, h⟩ := xgd_e h
  refine g_ic dX7_settle_0 ?_
  refine g_istn_2 dX7_settle_1 (by decide) rfl ?_
  refine s_X7_settle_2 hm0 (fun l2_21 s22 h => ?_) xN _ _ h
  exact g_rV rfl dX7_settle_54 h
theorem dX7_closes_0 : decode cX7_closes 0 = .ok (.aload_n 0, 1) := by decide +kernel
theorem dX7_closes_1 : decode cX7_closes 1 = .ok (.getfield 29, 3) := by decide +kernel
theorem dX7_closes_4 : decode cX7_closes 4 = .ok (.ifCond .eq 10, 3) := by decide +kernel
theorem dX7_closes_7 : decode cX7_closes 7 = .ok (.aload_n 0, 1) := by decide +kernel
theorem dX7_closes_8 : decode cX7_closes 8 = .ok (.getfield 26, 3) := by decide +kernel
theorem dX7_closes_11 : decode cX7_closes 11 = .ok (.ifCond .ne 5, 3) := by decide +kernel
theorem dX7_closes_14 : decode cX7_closes 14 = .ok (.iconst 0, 1) := by decide +kernel
theorem dX7_closes_15 : decode cX7_closes 15 = .ok (.ireturn, 1) := by decide +kernel
theorem dX7_closes_16 : decode cX7_closes 16 = .ok (.aload_n 0, 1) := by decide +kernel
theorem dX7_closes_17 : decode cX7_closes 17 = .ok (.iconst 1, 1) := by decide +kernel
theorem dX7_closes_18 : decode cX7_closes 18 = .ok (.invokevirtual 64, 3) := by decide +kernel
theorem dX7_closes_21 : decode cX7_closes 21 = .ok (.aload_n 0, 1) := by decide +kernel
theorem dX7_closes_22 : decode cX7_closes 22 = .ok (.dup, 1) := by decide +kernel
theorem dX7_closes_23 : decode cX7_closes 23 = .ok (.getfield 26, 3) := by decide +kernel
theorem dX7_closes_26 : decode cX7_closes 26 = .ok (.iconst 1, 1) := by decide +kernel
theorem dX7_closes_27 : decode cX7_closes 27 = .ok (.isub, 1) := by decide +kernel
theorem dX7_closes_28 : decode cX7_closes 28 = .ok (.putfield 26, 3) := by decide +kernel
theorem dX7_closes_31 : decode cX7_closes 31 = .ok (.aload_n 0, 1) := by decide +kernel
theorem dX7_closes_32 : decode cX7_closes 32 = .ok (.dup, 1) := by decide +kernel
theorem dX7_closes_33 : decode cX7_closes 33 = .ok (.getfield 29, 3) := by decide +kernel
theorem dX7_closes_36 : decode cX7_closes 36 = .ok (.iconst 1, 1) := by decide +kernel
theorem dX7_closes_37 : decode cX7_closes 37 = .ok (.isub, 1) := by decide +kernel
theorem dX7_closes_38 : decode cX7_closes 38 = .ok (.putfield 29, 3) := by decide +kernel
theorem dX7_closes_41 : decode cX7_closes 41 = .ok (.aload_n 0, 1) := by decide +kernel
theorem dX7_closes_42 : decode cX7_closes 42 = .ok (.iconst 3, 1) := by decide +kernel
theorem dX7_closes_43 : decode cX7_closes 43 = .ok (.putfield 32, 3) := by decide +kernel
theorem dX7_closes_46 : decode cX7_closes 46 = .ok (.iconst 1, 1) := by decide +kernel
theorem dX7_closes_47 : decode cX7_closes 47 = .ok (.ireturn, 1) := by decide +kernel
theorem s_X7_closes {a0 : Int} {s0 : xW} {q : Int × xW} (h : F_X7_closes a0 s0 = some q) : xC 2 0 0 mX7_closes [vR a0] 155 s0 (xRv (vI q.1) q.2) := by
  refine xC.of [vR a0] (by decide +kernel) (Nat.le_of_ble_eq_true rfl) rfl ?_
  unfold F_X7_closes at h
  obtain ⟨hm0, h⟩ := xgd_e h
  refine g_aln dX7_closes_0 rfl rfl (xf_rule_0 _ hm0) ?_
  refine g_getI 5 dX7_closes_1 fl_X7_29 (xf_rule_4 _ hm0) rfl ?_
  obtain ⟨j1, ej2, h⟩ := xjn_e h
  have hj3 : j1  = some q → xG 2 0 0 mX7_closes 14 [vX] [] 155 s0 (xRv (vI q.1) q.2) := by
    intro  h
    rw [ej2] at h
    refine g_ic dX7_closes_14 ?_
    exact g_rZ rfl dX7_closes_15 (by decide) h
  clear ej2
  refine g_yeq dX7_closes_4 (tgt := 14) rfl rfl (fun q4 => ?_) (fun q4 => ?_)
  · replace h := xif_f q4 h
    refine g_drop_0 ?_
    exact hj3  h
  · replace h := xif_t q4 h
    refine g_aln dX7_closes_7 rfl rfl (xf_rule_0 _ hm0) ?_
    refine g_getI 4 dX7_closes_8 fl_X7_26 (xf_rule_35 _ hm0) rfl ?_
    refine g_yne dX7_closes_11 (tgt := 16) rfl rfl (fun q5 => ?_) (fun q5 => ?_)
    · replace h := xif_f q5 h
      refine g_aln dX7_closes_16 rfl rfl (xf_rule_0 _ hm0) ?_
      refine g_ic dX7_closes_17 ?_
      obtain ⟨s7, e6, h⟩ := xbp_e h
      refine g_cV10 dX7_closes_18 ml_X7_64 (xf_rule_1 _ hm0) (s_X7_settle e6) (by decide) rfl ?_
      refine g_aln dX7_closes_21 rfl rfl (xf_rule_0 _ hm0) ?_
      refine g_dup dX7_closes_22 rfl ?_
      refine g_getI 4 dX7_closes_23 fl_X7_26 (xf_rule_35 _ hm0) rfl ?_
      refine g_ic dX7_closes_26 ?_
      refine g_isub dX7_closes_27 ?_
      obtain ⟨s8, e9, h⟩ := xlt_e h
      refine h_putI 4 dX7_closes_28 fl_X7_26 (xf_rule_35 _ hm0) rfl e9 ?_
      refine g_aln dX7_closes_31 rfl rfl (xf_rule_0 _ hm0) ?_
      refine g_dup dX7_closes_32 rfl ?_
      refine g_getI 5 dX7_closes_33 fl_X7_29 (xf_rule_4 _ hm0) rfl ?_
      refine g_ic dX7_closes_36 ?_
      refine g_isub dX7_closes_37 ?_
      obtain ⟨s10, e11, h⟩ := xlt_e h
      refine h_putI 5 dX7_closes_38 fl_X7_29 (xf_rule_4 _ hm0) rfl e11 ?_
      refine g_aln dX7_closes_41 rfl rfl (xf_rule_0 _ hm0) ?_
      refine g_ic dX7_closes_42 ?_
      obtain ⟨s12, e13, h⟩ := xlt_e h
      refine h_putI 6 dX7_closes_43 fl_X7_32 (xf_rule_2 _ hm0) rfl e13 ?_
      refine g_ic dX7_closes_46 ?_
      exact g_rZ rfl dX7_closes_47 (by decide) h
    · replace h := xif_t q5 h
      refine g_drop_0 ?_
      exact hj3  h
theorem dX7_joins_0 : decode cX7_joins 0 = .ok (.iload_n 1, 1) := by decide +kernel
theorem dX7_joins_1 : decode cX7_joins 1 = .ok (.invokestatic 96, 3) := by decide +kernel
theorem dX7_joins_4 : decode cX7_joins 4 = .ok (.istore_n 2, 1) := by decide +kernel
theorem dX7_joins_5 : decode cX7_joins 5 = .ok (.iload_n 2, 1) := by decide +kernel
theorem dX7_joins_6 : decode cX7_joins 6 = .ok (.ifCond .eq 9, 3) := by decide +kernel
theorem dX7_joins_9 : decode cX7_joins 9 = .ok (.iload_n 1, 1) := by decide +kernel
theorem dX7_joins_10 : decode cX7_joins 10 = .ok (.bipush 126, 2) := by decide +kernel
theorem dX7_joins_12 : decode cX7_joins 12 = .ok (.if_icmp .ne 5, 3) := by decide +kernel
theorem dX7_joins_15 : decode cX7_joins 15 = .ok (.iconst 0, 1) := by decide +kernel
theorem dX7_joins_16 : decode cX7_joins 16 = .ok (.ireturn, 1) := by decide +kernel
theorem dX7_joins_17 : decode cX7_joins 17 = .ok (.aload_n 0, 1) := by decide +kernel
theorem dX7_joins_18 : decode cX7_joins 18 = .ok (.iload_n 2, 1) := by decide +kernel
theorem dX7_joins_19 : decode cX7_joins 19 = .ok (.iconst 2, 1) := by decide +kernel
theorem dX7_joins_20 : decode cX7_joins 20 = .ok (.invokestatic 100, 3) := by decide +kernel
theorem dX7_joins_23 : decode cX7_joins 23 = .ok (.invokevirtual 64, 3) := by decide +kernel
theorem dX7_joins_26 : decode cX7_joins 26 = .ok (.iload_n 2, 1) := by decide +kernel
theorem dX7_joins_27 : decode cX7_joins 27 = .ok (.iconst 1, 1) := by decide +kernel
theorem dX7_joins_28 : decode cX7_joins 28 = .ok (.if_icmp .ne 18, 3) := by decide +kernel
theorem dX7_joins_31 : decode cX7_joins 31 = .ok (.aload_n 0, 1) := by decide +kernel
theorem dX7_joins_32 : decode cX7_joins 32 = .ok (.invokevirtual 106, 3) := by decide +kernel
theorem dX7_joins_35 : decode cX7_joins 35 = .ok (.invokestatic 96, 3) := by decide +kernel
theorem dX7_joins_38 : decode cX7_joins 38 = .ok (.iconst 1, 1) := by decide +kernel
theorem dX7_joins_39 : decode cX7_joins 39 = .ok (.if_icmp .ne 7, 3) := by decide +kernel
theorem dX7_joins_42 : decode cX7_joins 42 = .ok (.iconst 1, 1) := by decide +kernel
theorem dX7_joins_43 : decode cX7_joins 43 = .ok (.goto 4, 3) := by decide +kernel
theorem dX7_joins_46 : decode cX7_joins 46 = .ok (.iconst 0, 1) := by decide +kernel
theorem dX7_joins_47 : decode cX7_joins 47 = .ok (.istore_n 3, 1) := by decide +kernel
theorem dX7_joins_48 : decode cX7_joins 48 = .ok (.aload_n 0, 1) := by decide +kernel
theorem dX7_joins_49 : decode cX7_joins 49 = .ok (.iload_n 1, 1) := by decide +kernel
theorem dX7_joins_50 : decode cX7_joins 50 = .ok (.invokevirtual 81, 3) := by decide +kernel
theorem dX7_joins_53 : decode cX7_joins 53 = .ok (.aload_n 0, 1) := by decide +kernel
theorem dX7_joins_54 : decode cX7_joins 54 = .ok (.iconst 1, 1) := by decide +kernel
theorem dX7_joins_55 : decode cX7_joins 55 = .ok (.putfield 35, 3) := by decide +kernel
theorem dX7_joins_58 : decode cX7_joins 58 = .ok (.iload_n 3, 1) := by decide +kernel
theorem dX7_joins_59 : decode cX7_joins 59 = .ok (.ifCond .ne 7, 3) := by decide +kernel
theorem dX7_joins_62 : decode cX7_joins 62 = .ok (.iconst 1, 1) := by decide +kernel
theorem dX7_joins_63 : decode cX7_joins 63 = .ok (.goto 4, 3) := by decide +kernel
theorem dX7_joins_66 : decode cX7_joins 66 = .ok (.iconst 0, 1) := by decide +kernel
theorem dX7_joins_67 : decode cX7_joins 67 = .ok (.ireturn, 1) := by decide +kernel
theorem s_X7_joins {a0 a1 : Int} {s0 : xW} {q : Int × xW} (h : F_X7_joins a0 a1 s0 = some q) : xC 2 0 0 mX7_joins [vR a0, vI a1] 155 s0 (xRv (vI q.1) q.2) := by
  refine xC.of [vR a0, vI a1, vX, vX] (by decide +kernel) (Nat.le_of_ble_eq_true rfl) rfl ?_
  unfold F_X7_joins at h
  obtain ⟨hm0, h⟩ := xgd_e h
  refine g_iln dX7_joins_0 rfl rfl ?_
  obtain ⟨r2, e1, h⟩ := xbp_e h
  refine g_cS1v dX7_joins_1 ml_X7_96 (s_X7_binding e1) (by decide) rfl ?_
  refine g_istn_2 dX7_joins_4 (by decide) rfl ?_
  refine g_iln dX7_joins_5 rfl rfl ?_
  obtain ⟨j3, ej4, h⟩ := xjn_e h
  have hj5 : j3  = some q → xG 2 0 0 mX7_joins 15 [vX, vX, vX, vX] [] 155 s0 (xRv (vI q.1) q.2) := by
    intro  h
    rw [ej4] at h
    refine g_ic dX7_joins_15 ?_
    exact g_rZ rfl dX7_joins_16 (by decide) h
  clear ej4
  refine g_yeq dX7_joins_6 (tgt := 15) rfl rfl (fun q6 => ?_) (fun q6 => ?_)
  · replace h := xif_f q6 h
    refine g_drop_0 ?_
    refine g_drop_1 ?_
    refine g_drop_2 ?_
    exact hj5  h
  · replace h := xif_t q6 h
    refine g_iln dX7_joins_9 rfl rfl ?_
    refine g_bi dX7_joins_10 (by decide) ?_
    refine g_wne dX7_joins_12 (tgt := 17) rfl rfl (xw_id (by decide)) (fun q7 => ?_) (fun q7 => ?_)
    · replace h := xif_f q7 h
      refine g_aln dX7_joins_17 rfl rfl (xf_rule_0 _ hm0) ?_
      refine g_iln dX7_joins_18 rfl rfl ?_
      refine g_ic dX7_joins_19 ?_
      refine g_wmax dX7_joins_20 mx_X7_100 rfl (xw_id (by decide)) (by decide) rfl ?_
      obtain ⟨s9, e8, h⟩ := xbp_e h
      refine g_cV10 dX7_joins_23 ml_X7_64 (xf_rule_1 _ hm0) (s_X7_settle e8) (by decide) rfl ?_
      refine g_iln dX7_joins_26 rfl rfl ?_
      refine g_ic dX7_joins_27 ?_
      obtain ⟨j11, ej12, h⟩ := xjn_e h
      have hj13 : ∀ (t10 : Int), j11 t10 = some q → xG 2 0 0 mX7_joins 47 [vR a0, vI a1, vX, vX] [vI t10] 155 s9 (xRv (vI q.1) q.2) := by
        intro t10 h
        rw [ej12] at h
        refine g_istn_3 dX7_joins_47 (by decide) rfl ?_
        refine g_aln dX7_joins_48 rfl rfl (xf_rule_0 _ hm0) ?_
        refine g_iln dX7_joins_49 rfl rfl ?_
        obtain ⟨s15, e14, h⟩ := xbp_e h
        refine g_cV10 dX7_joins_50 ml_X7_81 (xf_rule_1 _ hm0) (s_X7_await e14) (by decide) rfl ?_
        refine g_aln dX7_joins_53 rfl rfl (xf_rule_0 _ hm0) ?_
        refine g_ic dX7_joins_54 ?_
        obtain ⟨s16, e17, h⟩ := xlt_e h
        refine h_putZ 7 dX7_joins_55 fl_X7_35 (xf_rule_3 _ hm0) (by decide) rfl e17 ?_
        refine g_iln dX7_joins_58 rfl rfl ?_
        obtain ⟨v19, e20, h⟩ := xlt_e h
        have hj21 : xG 2 0 0 mX7_joins 67 [vX, vX, vX, vX] [vI v19] 155 s16 (xRv (vI q.1) q.2) := by
          obtain ⟨hg22, h⟩ := xgd_e h
          exact g_rZ rfl dX7_joins_67 hg22 h
        refine g_yne dX7_joins_59 (tgt := 66) rfl rfl (fun c18 => ?_) (fun c18 => ?_)
        · skip
          refine g_ic dX7_joins_66 ?_
          refine g_drop_0 ?_
          refine g_drop_1 ?_
          refine g_drop_3 ?_
          exact g_vq ((if_neg c18).symm.trans e20) hj21
        · skip
          refine g_ic dX7_joins_62 ?_
          refine g_goto dX7_joins_63 (tgt := 67) rfl ?_
          refine g_drop_0 ?_
          refine g_drop_1 ?_
          refine g_drop_3 ?_
          exact g_vq ((if_pos c18).symm.trans e20) hj21
      clear ej12
      obtain ⟨j23, ej24, h⟩ := xjn_e h
      have hj25 : j23  = some q → xG 2 0 0 mX7_joins 46 [vR a0, vI a1, vX, vX] [] 155 s9 (xRv (vI q.1) q.2) := by
        intro  h
        rw [ej24] at h
        refine g_ic dX7_joins_46 ?_
        exact hj13 0 h
      clear ej24
      refine g_wne dX7_joins_28 (tgt := 46) rfl rfl (xw_id (by decide)) (fun q26 => ?_) (fun q26 => ?_)
      · replace h := xif_f q26 h
        refine g_drop_2 ?_
        exact hj25  h
      · replace h := xif_t q26 h
        refine g_aln dX7_joins_31 rfl rfl (xf_rule_0 _ hm0) ?_
        obtain ⟨r28, e27, h⟩ := xbp_e h
        refine g_cV0v dX7_joins_32 ml_X7_106 (xf_rule_1 _ hm0) (s_X7_lastWaiting e27) (by decide) rfl ?_
        obtain ⟨r30, e29, h⟩ := xbp_e h
        refine g_cS1v dX7_joins_35 ml_X7_96 (s_X7_binding e29) (by decide) rfl ?_
        refine g_ic dX7_joins_38 ?_
        refine g_wne dX7_joins_39 (tgt := 46) rfl rfl (xw_id (by decide)) (fun q31 => ?_) (fun q31 => ?_)
        · replace h := xif_f q31 h
          refine g_drop_2 ?_
          exact hj25  h
        · replace h := xif_t q31 h
          refine g_ic dX7_joins_42 ?_
          refine g_goto dX7_joins_43 (tgt := 47) rfl ?_
          refine g_drop_2 ?_
          exact hj13 1 h
    · replace h := xif_t q7 h
      refine g_drop_0 ?_
      refine g_drop_1 ?_
      refine g_drop_2 ?_
      exact hj5  h
theorem dX7_accepts_0 : decode cX7_accepts 0 = .ok (.aload_n 0, 1) := by decide +kernel
theorem dX7_accepts_1 : decode cX7_accepts 1 = .ok (.getfield 35, 3) := by decide +kernel
theorem dX7_accepts_4 : decode cX7_accepts 4 = .ok (.ifCond .eq 9, 3) := by decide +kernel
theorem dX7_accepts_7 : decode cX7_accepts 7 = .ok (.aload_n 0, 1) := by decide +kernel
theorem dX7_accepts_8 : decode cX7_accepts 8 = .ok (.iload_n 1, 1) := by decide +kernel
theorem dX7_accepts_9 : decode cX7_accepts 9 = .ok (.invokevirtual 68, 3) := by decide +kernel
theorem dX7_accepts_12 : decode cX7_accepts 12 = .ok (.ireturn, 1) := by decide +kernel
theorem dX7_accepts_13 : decode cX7_accepts 13 = .ok (.iload_n 1, 1) := by decide +kernel
theorem dX7_accepts_14 : decode cX7_accepts 14 = .ok (.bipush 48, 2) := by decide +kernel
theorem dX7_accepts_16 : decode cX7_accepts 16 = .ok (.if_icmp .lt 15, 3) := by decide +kernel
theorem dX7_accepts_19 : decode cX7_accepts 19 = .ok (.iload_n 1, 1) := by decide +kernel
theorem dX7_accepts_20 : decode cX7_accepts 20 = .ok (.bipush 57, 2) := by decide +kernel
theorem dX7_accepts_22 : decode cX7_accepts 22 = .ok (.if_icmp .gt 9, 3) := by decide +kernel
theorem dX7_accepts_25 : decode cX7_accepts 25 = .ok (.aload_n 0, 1) := by decide +kernel
theorem dX7_accepts_26 : decode cX7_accepts 26 = .ok (.iload_n 1, 1) := by decide +kernel
theorem dX7_accepts_27 : decode cX7_accepts 27 = .ok (.invokevirtual 71, 3) := by decide +kernel
theorem dX7_accepts_30 : decode cX7_accepts 30 = .ok (.ireturn, 1) := by decide +kernel
theorem dX7_accepts_31 : decode cX7_accepts 31 = .ok (.iload_n 1, 1) := by decide +kernel
theorem dX7_accepts_32 : decode cX7_accepts 32 = .ok (.bipush 41, 2) := by decide +kernel
theorem dX7_accepts_34 : decode cX7_accepts 34 = .ok (.if_icmp .ne 10, 3) := by decide +kernel
theorem dX7_accepts_37 : decode cX7_accepts 37 = .ok (.aload_n 0, 1) := by decide +kernel
theorem dX7_accepts_38 : decode cX7_accepts 38 = .ok (.invokevirtual 74, 3) := by decide +kernel
theorem dX7_accepts_41 : decode cX7_accepts 41 = .ok (.goto 8, 3) := by decide +kernel
theorem dX7_accepts_44 : decode cX7_accepts 44 = .ok (.aload_n 0, 1) := by decide +kernel
theorem dX7_accepts_45 : decode cX7_accepts 45 = .ok (.iload_n 1, 1) := by decide +kernel
theorem dX7_accepts_46 : decode cX7_accepts 46 = .ok (.invokevirtual 78, 3) := by decide +kernel
theorem dX7_accepts_49 : decode cX7_accepts 49 = .ok (.ireturn, 1) := by decide +kernel
theorem s_X7_accepts {a0 a1 : Int} {s0 : xW} {q : Int × xW} (h : F_X7_accepts a0 a1 s0 = some q) : xC 6 0 0 mX7_accepts [vR a0, vI a1] 155 s0 (xRv (vI q.1) q.2) := by
  refine xC.of [vR a0, vI a1] (by decide +kernel) (Nat.le_of_ble_eq_true rfl) rfl ?_
  unfold F_X7_accepts at h
  obtain ⟨hm0, h⟩ := xgd_e h
  refine g_aln dX7_accepts_0 rfl rfl (xf_rule_0 _ hm0) ?_
  refine g_getZ 7 dX7_accepts_1 fl_X7_35 (xf_rule_3 _ hm0) rfl ?_
  refine g_yeq dX7_accepts_4 (tgt := 13) rfl rfl (fun q1 => ?_) (fun q1 => ?_)
  · replace h := xif_f q1 h
    refine g_iln dX7_accepts_13 rfl rfl ?_
    refine g_bi dX7_accepts_14 (by decide) ?_
    obtain ⟨j2, ej3, h⟩ := xjn_e h
    have hj4 : j2  = some q → xG 6 0 0 mX7_accepts 31 [vR a0, vI a1] [] 155 s0 (xRv (vI q.1) q.2) := by
      intro  h
      rw [ej3] at h
      refine g_iln dX7_accepts_31 rfl rfl ?_
      refine g_bi dX7_accepts_32 (by decide) ?_
      obtain ⟨j7, ej8, h⟩ := xjn_e h
      have hj9 : ∀ (t5 : Int) (s6 : xW), j7 t5 s6 = some q → xG 6 0 0 mX7_accepts 49 [vX, vX] [vI t5] 155 s6 (xRv (vI q.1) q.2) := by
        intro t5 s6 h
        rw [ej8] at h
        obtain ⟨hg10, h⟩ := xgd_e h
        exact g_rZ rfl dX7_accepts_49 hg10 h
      clear ej8
      refine g_wne dX7_accepts_34 (tgt := 44) rfl rfl (xw_id (by decide)) (fun q11 => ?_) (fun q11 => ?_)
      · replace h := xif_f q11 h
        refine g_aln dX7_accepts_44 rfl rfl (xf_rule_0 _ hm0) ?_
        refine g_iln dX7_accepts_45 rfl rfl ?_
        obtain ⟨r13, s14, e12, h⟩ := xbd_e h
        refine g_cV1v dX7_accepts_46 ml_X7_78 (xf_rule_1 _ hm0) (s_X7_joins e12) (by decide) rfl ?_
        refine g_drop_0 ?_
        refine g_drop_1 ?_
        exact hj9 r13 s14 h
      · replace h := xif_t q11 h
        refine g_aln dX7_accepts_37 rfl rfl (xf_rule_0 _ hm0) ?_
        obtain ⟨r16, s17, e15, h⟩ := xbd_e h
        refine g_cV0v dX7_accepts_38 ml_X7_74 (xf_rule_1 _ hm0) (s_X7_closes e15) (by decide) rfl ?_
        refine g_goto dX7_accepts_41 (tgt := 49) rfl ?_
        refine g_drop_0 ?_
        refine g_drop_1 ?_
        exact hj9 r16 s17 h
    clear ej3
    refine g_wlt dX7_accepts_16 (tgt := 31) rfl rfl (xw_id (by decide)) (fun q18 => ?_) (fun q18 => ?_)
    · replace h := xif_f q18 h
      exact hj4  h
    · replace h := xif_t q18 h
      refine g_iln dX7_accepts_19 rfl rfl ?_
      refine g_bi dX7_accepts_20 (by decide) ?_
      refine g_wgt dX7_accepts_22 (tgt := 31) rfl rfl (xw_id (by decide)) (fun q19 => ?_) (fun q19 => ?_)
      · replace h := xif_f q19 h
        exact hj4  h
      · replace h := xif_t q19 h
        refine g_aln dX7_accepts_25 rfl rfl (xf_rule_0 _ hm0) ?_
        refine g_iln dX7_accepts_26 rfl rfl ?_
        obtain ⟨r21, s22, e20, h⟩ := xbd_e h
        refine g_cV1v dX7_accepts_27 ml_X7_71 (xf_rule_1 _ hm0) (s_X7_goesOnNumber e20) (by decide) rfl ?_
        obtain ⟨hg23, h⟩ := xgd_e h
        exact g_rZ rfl dX7_accepts_30 hg23 h
  · replace h := xif_t q1 h
    refine g_aln dX7_accepts_7 rfl rfl (xf_rule_0 _ hm0) ?_
    refine g_iln dX7_accepts_8 rfl rfl ?_
    obtain ⟨r25, s26, e24, h⟩ := xbd_e h
    refine g_cV1v dX7_accepts_9 ml_X7_68 (xf_rule_1 _ hm0) (s_X7_beginsThing e24) (by decide) rfl ?_
    obtain ⟨hg27, h⟩ := xgd_e h
    exact g_rZ rfl dX7_accepts_12 hg27 h
