theorem dX7_read_0 : decode cX7_read 0 = .ok (.aload_n 1, 1) := by decide +kernel
theorem dX7_read_1 : decode cX7_read 1 = .ok (.getfield 51, 3) := by decide +kernel
theorem dX7_read_4 : decode cX7_read 4 = .ok (.ifCond .ne 9, 3) := by decide +kernel
theorem dX7_read_7 : decode cX7_read 7 = .ok (.aload_n 0, 1) := by decide +kernel
theorem dX7_read_8 : decode cX7_read 8 = .ok (.invokevirtual 39, 3) := by decide +kernel
theorem dX7_read_11 : decode cX7_read 11 = .ok (.iconst (-1), 1) := by decide +kernel
theorem dX7_read_12 : decode cX7_read 12 = .ok (.ireturn, 1) := by decide +kernel
theorem dX7_read_13 : decode cX7_read 13 = .ok (.aload_n 0, 1) := by decide +kernel
theorem dX7_read_14 : decode cX7_read 14 = .ok (.iconst 0, 1) := by decide +kernel
theorem dX7_read_15 : decode cX7_read 15 = .ok (.putfield 15, 3) := by decide +kernel
theorem dX7_read_18 : decode cX7_read 18 = .ok (.aload_n 0, 1) := by decide +kernel
theorem dX7_read_19 : decode cX7_read 19 = .ok (.iconst 0, 1) := by decide +kernel
theorem dX7_read_20 : decode cX7_read 20 = .ok (.putfield 26, 3) := by decide +kernel
theorem dX7_read_23 : decode cX7_read 23 = .ok (.aload_n 0, 1) := by decide +kernel
theorem dX7_read_24 : decode cX7_read 24 = .ok (.iconst 0, 1) := by decide +kernel
theorem dX7_read_25 : decode cX7_read 25 = .ok (.putfield 29, 3) := by decide +kernel
theorem dX7_read_28 : decode cX7_read 28 = .ok (.aload_n 0, 1) := by decide +kernel
theorem dX7_read_29 : decode cX7_read 29 = .ok (.iconst 1, 1) := by decide +kernel
theorem dX7_read_30 : decode cX7_read 30 = .ok (.putfield 35, 3) := by decide +kernel
theorem dX7_read_33 : decode cX7_read 33 = .ok (.iconst 0, 1) := by decide +kernel
theorem dX7_read_34 : decode cX7_read 34 = .ok (.istore_n 2, 1) := by decide +kernel
theorem dX7_read_35 : decode cX7_read 35 = .ok (.iload_n 2, 1) := by decide +kernel
theorem dX7_read_36 : decode cX7_read 36 = .ok (.aload_n 1, 1) := by decide +kernel
theorem dX7_read_37 : decode cX7_read 37 = .ok (.getfield 51, 3) := by decide +kernel
theorem dX7_read_40 : decode cX7_read 40 = .ok (.if_icmp .ge 29, 3) := by decide +kernel
theorem dX7_read_43 : decode cX7_read 43 = .ok (.iload_n 2, 1) := by decide +kernel
theorem dX7_read_44 : decode cX7_read 44 = .ok (.bipush 40, 2) := by decide +kernel
theorem dX7_read_46 : decode cX7_read 46 = .ok (.if_icmp .eq 15, 3) := by decide +kernel
theorem dX7_read_49 : decode cX7_read 49 = .ok (.aload_n 0, 1) := by decide +kernel
theorem dX7_read_50 : decode cX7_read 50 = .ok (.aload_n 1, 1) := by decide +kernel
theorem dX7_read_51 : decode cX7_read 51 = .ok (.iload_n 2, 1) := by decide +kernel
theorem dX7_read_52 : decode cX7_read 52 = .ok (.invokevirtual 56, 3) := by decide +kernel
theorem dX7_read_55 : decode cX7_read 55 = .ok (.invokevirtual 60, 3) := by decide +kernel
theorem dX7_read_58 : decode cX7_read 58 = .ok (.ifCond .ne 5, 3) := by decide +kernel
theorem dX7_read_61 : decode cX7_read 61 = .ok (.iload_n 2, 1) := by decide +kernel
theorem dX7_read_62 : decode cX7_read 62 = .ok (.ireturn, 1) := by decide +kernel
theorem dX7_read_63 : decode cX7_read 63 = .ok (.iinc 2 1, 3) := by decide +kernel
theorem dX7_read_66 : decode cX7_read 66 = .ok (.goto (-31), 3) := by decide +kernel
theorem dX7_read_69 : decode cX7_read 69 = .ok (.aload_n 0, 1) := by decide +kernel
theorem dX7_read_70 : decode cX7_read 70 = .ok (.getfield 35, 3) := by decide +kernel
theorem dX7_read_73 : decode cX7_read 73 = .ok (.ifCond .ne 10, 3) := by decide +kernel
theorem dX7_read_76 : decode cX7_read 76 = .ok (.aload_n 0, 1) := by decide +kernel
theorem dX7_read_77 : decode cX7_read 77 = .ok (.getfield 29, 3) := by decide +kernel
theorem dX7_read_80 : decode cX7_read 80 = .ok (.ifCond .le 8, 3) := by decide +kernel
theorem dX7_read_83 : decode cX7_read 83 = .ok (.aload_n 1, 1) := by decide +kernel
theorem dX7_read_84 : decode cX7_read 84 = .ok (.getfield 51, 3) := by decide +kernel
theorem dX7_read_87 : decode cX7_read 87 = .ok (.ireturn, 1) := by decide +kernel
theorem dX7_read_88 : decode cX7_read 88 = .ok (.aload_n 0, 1) := by decide +kernel
theorem dX7_read_89 : decode cX7_read 89 = .ok (.iconst 1, 1) := by decide +kernel
theorem dX7_read_90 : decode cX7_read 90 = .ok (.invokevirtual 64, 3) := by decide +kernel
theorem dX7_read_93 : decode cX7_read 93 = .ok (.iconst (-1), 1) := by decide +kernel
theorem dX7_read_94 : decode cX7_read 94 = .ok (.ireturn, 1) := by decide +kernel
theorem s_X7_read_35 {l0_10 : Int} (hm11 : l0_10 ∈ xRules) {q : Int × xW} {k : Int → xW → Option (Int × xW)} (hk : ∀ (l2_26 : Int) (s27 : xW), k l2_26 s27 = some q → xG 7 0 0 mX7_read 69 [vR l0_10, vR 1, vI l2_26] [] 155 s27 (xRv (vI q.1) q.2)) : ∀ (f : Nat) (l2_12 : Int) (s13 : xW), F_X7_read_35 l0_10 f l2_12 s13 k = some q → xG 7 0 0 mX7_read 35 [vR l0_10, vR 1, vI l2_12] [] 155 s13 (xRv (vI q.1) q.2) := by
  intro f
  induction f with
  | zero => intro l2_12 s13 h; cases h
  | succ f ih =>
    intro l2_12 s13 h
    unfold F_X7_read_35 at h
    refine g_iln dX7_read_35 rfl rfl ?_
    refine g_aln dX7_read_36 rfl rfl (by decide) ?_
    refine g_getI 1 dX7_read_37 fl_X7_51 rfl rfl ?_
    refine g_wge dX7_read_40 (tgt := 69) rfl rfl rfl (fun q14 => ?_) (fun q14 => ?_)
    · replace h := xif_f q14 h
      exact hk l2_12 s13 h
    · replace h := xif_t q14 h
      refine g_iln dX7_read_43 rfl rfl ?_
      refine g_bi dX7_read_44 (by decide) ?_
      obtain ⟨j16, ej17, h⟩ := xjn_e h
      have hj18 : ∀ (s15 : xW), j16 s15 = some q → xG 7 0 0 mX7_read 61 [vX, vX, vI l2_12] [] 155 s15 (xRv (vI q.1) q.2) := by
        intro s15 h
        rw [ej17] at h
        refine g_iln dX7_read_61 rfl rfl ?_
        exact g_rI rfl dX7_read_62 h
      clear ej17
      refine g_weq dX7_read_46 (tgt := 61) rfl rfl (xw_id (by decide)) (fun q19 => ?_) (fun q19 => ?_)
      · replace h := xif_f q19 h
        refine g_drop_0 ?_
        refine g_drop_1 ?_
        exact hj18 s13 h
      · replace h := xif_t q19 h
        refine g_aln dX7_read_49 rfl rfl (xf_rule_0 _ hm11) ?_
        refine g_aln dX7_read_50 rfl rfl (by decide) ?_
        refine g_iln dX7_read_51 rfl rfl ?_
        obtain ⟨r21, e20, h⟩ := xbp_e h
        refine g_cV1v dX7_read_52 ml_X7_56 rfl (s_X8_at e20) (by decide) rfl ?_
        obtain ⟨r23, s24, e22, h⟩ := xbd_e h
        refine g_cV1v dX7_read_55 ml_X7_60 (xf_rule_1 _ hm11) (s_X7_accepts e22) (by decide) rfl ?_
        refine g_yne dX7_read_58 (tgt := 63) rfl rfl (fun q25 => ?_) (fun q25 => ?_)
        · replace h := xif_f q25 h
          refine g_inc_2 dX7_read_63 (by decide) rfl ?_
          refine g_goto dX7_read_66 (tgt := 35) rfl ?_
          exact ih (l2_12 + 1) s24 h
        · replace h := xif_t q25 h
          refine g_drop_0 ?_
          refine g_drop_1 ?_
          exact hj18 s24 h
theorem s_X7_read {a0 : Int} {s0 : xW} {q : Int × xW} (h : F_X7_read a0 s0 = some q) : xC 7 0 0 mX7_read [vR a0, vR 1] 155 s0 (xRv (vI q.1) q.2) := by
  refine xC.of [vR a0, vR 1, vX] (by decide +kernel) (Nat.le_of_ble_eq_true rfl) rfl ?_
  unfold F_X7_read at h
  obtain ⟨hm0, h⟩ := xgd_e h
  refine g_aln dX7_read_0 rfl rfl (by decide) ?_
  refine g_getI 1 dX7_read_1 fl_X7_51 rfl rfl ?_
  refine g_yne dX7_read_4 (tgt := 13) rfl rfl (fun q1 => ?_) (fun q1 => ?_)
  · replace h := xif_f q1 h
    refine g_aln dX7_read_13 rfl rfl (xf_rule_0 _ hm0) ?_
    refine g_ic dX7_read_14 ?_
    obtain ⟨s2, e3, h⟩ := xlt_e h
    refine h_putI 1 dX7_read_15 fl_X7_15 (xf_rule_5 _ hm0) rfl e3 ?_
    refine g_aln dX7_read_18 rfl rfl (xf_rule_0 _ hm0) ?_
    refine g_ic dX7_read_19 ?_
    obtain ⟨s4, e5, h⟩ := xlt_e h
    refine h_putI 4 dX7_read_20 fl_X7_26 (xf_rule_35 _ hm0) rfl e5 ?_
    refine g_aln dX7_read_23 rfl rfl (xf_rule_0 _ hm0) ?_
    refine g_ic dX7_read_24 ?_
    obtain ⟨s6, e7, h⟩ := xlt_e h
    refine h_putI 5 dX7_read_25 fl_X7_29 (xf_rule_4 _ hm0) rfl e7 ?_
    refine g_aln dX7_read_28 rfl rfl (xf_rule_0 _ hm0) ?_
    refine g_ic dX7_read_29 ?_
    obtain ⟨s8, e9, h⟩ := xlt_e h
    refine h_putZ 7 dX7_read_30 fl_X7_35 (xf_rule_3 _ hm0) (by decide) rfl e9 ?_
    refine g_ic dX7_read_33 ?_
    refine g_istn_2 dX7_read_34 (by decide) rfl ?_
    refine s_X7_read_35 hm0 (fun l2_28 s29 h => ?_) xN _ _ h
    refine g_aln dX7_read_69 rfl rfl (xf_rule_0 _ hm0) ?_
    refine g_getZ 7 dX7_read_70 fl_X7_35 (xf_rule_3 _ hm0) rfl ?_
    obtain ⟨j30, ej31, h⟩ := xjn_e h
    have hj32 : j30  = some q → xG 7 0 0 mX7_read 83 [vX, vR 1, vX] [] 155 s29 (xRv (vI q.1) q.2) := by
      intro  h
      rw [ej31] at h
      refine g_aln dX7_read_83 rfl rfl (by decide) ?_
      refine g_getI 1 dX7_read_84 fl_X7_51 rfl rfl ?_
      exact g_rI rfl dX7_read_87 h
    clear ej31
    refine g_yne dX7_read_73 (tgt := 83) rfl rfl (fun q33 => ?_) (fun q33 => ?_)
    · replace h := xif_f q33 h
      refine g_drop_0 ?_
      refine g_drop_2 ?_
      exact hj32  h
    · replace h := xif_t q33 h
      refine g_aln dX7_read_76 rfl rfl (xf_rule_0 _ hm0) ?_
      refine g_getI 5 dX7_read_77 fl_X7_29 (xf_rule_4 _ hm0) rfl ?_
      refine g_yle dX7_read_80 (tgt := 88) rfl rfl (fun q34 => ?_) (fun q34 => ?_)
      · replace h := xif_f q34 h
        refine g_aln dX7_read_88 rfl rfl (xf_rule_0 _ hm0) ?_
        refine g_ic dX7_read_89 ?_
        obtain ⟨s36, e35, h⟩ := xbp_e h
        refine g_cV10 dX7_read_90 ml_X7_64 (xf_rule_1 _ hm0) (s_X7_settle e35) (by decide) rfl ?_
        refine g_ic dX7_read_93 ?_
        exact g_rI rfl dX7_read_94 h
      · replace h := xif_t q34 h
        refine g_drop_0 ?_
        refine g_drop_2 ?_
        exact hj32  h
  · replace h := xif_t q1 h
    refine g_aln dX7_read_7 rfl rfl (xf_rule_0 _ hm0) ?_
    obtain ⟨s38, e37, h⟩ := xbp_e h
    refine g_cV00 dX7_read_8 ml_X7_39 (xf_rule_1 _ hm0) (s_X7_takeFirst e37) (by decide) rfl ?_
    refine g_ic dX7_read_11 ?_
    exact g_rI rfl dX7_read_12 h
theorem dX10_law_0 : decode cX10_law 0 = .ok (.aload_n 0, 1) := by decide +kernel
theorem dX10_law_1 : decode cX10_law 1 = .ok (.getfield 40, 3) := by decide +kernel
theorem dX10_law_4 : decode cX10_law 4 = .ok (.aload_n 0, 1) := by decide +kernel
theorem dX10_law_5 : decode cX10_law 5 = .ok (.getfield 12, 3) := by decide +kernel
theorem dX10_law_8 : decode cX10_law 8 = .ok (.invokevirtual 138, 3) := by decide +kernel
theorem dX10_law_11 : decode cX10_law 11 = .ok (.istore_n 1, 1) := by decide +kernel
theorem dX10_law_12 : decode cX10_law 12 = .ok (.aload_n 0, 1) := by decide +kernel
theorem dX10_law_13 : decode cX10_law 13 = .ok (.getfield 12, 3) := by decide +kernel
theorem dX10_law_16 : decode cX10_law 16 = .ok (.invokevirtual 125, 3) := by decide +kernel
theorem dX10_law_19 : decode cX10_law 19 = .ok (.iload_n 1, 1) := by decide +kernel
theorem dX10_law_20 : decode cX10_law 20 = .ok (.iconst (-1), 1) := by decide +kernel
theorem dX10_law_21 : decode cX10_law 21 = .ok (.if_icmp .eq 9, 3) := by decide +kernel
theorem dX10_law_24 : decode cX10_law 24 = .ok (.sipush (-10000), 3) := by decide +kernel
theorem dX10_law_27 : decode cX10_law 27 = .ok (.iload_n 1, 1) := by decide +kernel
theorem dX10_law_28 : decode cX10_law 28 = .ok (.isub, 1) := by decide +kernel
theorem dX10_law_29 : decode cX10_law 29 = .ok (.ireturn, 1) := by decide +kernel
theorem dX10_law_30 : decode cX10_law 30 = .ok (.aload_n 0, 1) := by decide +kernel
theorem dX10_law_31 : decode cX10_law 31 = .ok (.aload_n 0, 1) := by decide +kernel
theorem dX10_law_32 : decode cX10_law 32 = .ok (.getfield 46, 3) := by decide +kernel
theorem dX10_law_35 : decode cX10_law 35 = .ok (.getfield 277, 3) := by decide +kernel
theorem dX10_law_38 : decode cX10_law 38 = .ok (.invokevirtual 283, 3) := by decide +kernel
theorem dX10_law_41 : decode cX10_law 41 = .ok (.istore_n 2, 1) := by decide +kernel
theorem dX10_law_42 : decode cX10_law 42 = .ok (.aload_n 0, 1) := by decide +kernel
theorem dX10_law_43 : decode cX10_law 43 = .ok (.aload_n 0, 1) := by decide +kernel
theorem dX10_law_44 : decode cX10_law 44 = .ok (.getfield 40, 3) := by decide +kernel
theorem dX10_law_47 : decode cX10_law 47 = .ok (.aload_n 0, 1) := by decide +kernel
theorem dX10_law_48 : decode cX10_law 48 = .ok (.getfield 46, 3) := by decide +kernel
theorem dX10_law_51 : decode cX10_law 51 = .ok (.getfield 379, 3) := by decide +kernel
theorem dX10_law_54 : decode cX10_law 54 = .ok (.aload_n 0, 1) := by decide +kernel
theorem dX10_law_55 : decode cX10_law 55 = .ok (.getfield 46, 3) := by decide +kernel
theorem dX10_law_58 : decode cX10_law 58 = .ok (.getfield 277, 3) := by decide +kernel
theorem dX10_law_61 : decode cX10_law 61 = .ok (.invokevirtual 305, 3) := by decide +kernel
theorem dX10_law_64 : decode cX10_law 64 = .ok (.aload_n 0, 1) := by decide +kernel
theorem dX10_law_65 : decode cX10_law 65 = .ok (.getfield 75, 3) := by decide +kernel
theorem dX10_law_68 : decode cX10_law 68 = .ok (.invokevirtual 309, 3) := by decide +kernel
theorem dX10_law_71 : decode cX10_law 71 = .ok (.istore_n 3, 1) := by decide +kernel
theorem dX10_law_72 : decode cX10_law 72 = .ok (.aload_n 0, 1) := by decide +kernel
theorem dX10_law_73 : decode cX10_law 73 = .ok (.getfield 19, 3) := by decide +kernel
theorem dX10_law_76 : decode cX10_law 76 = .ok (.iload_n 3, 1) := by decide +kernel
theorem dX10_law_77 : decode cX10_law 77 = .ok (.i2l, 1) := by decide +kernel
theorem dX10_law_78 : decode cX10_law 78 = .ok (.iload_n 2, 1) := by decide +kernel
theorem dX10_law_79 : decode cX10_law 79 = .ok (.i2l, 1) := by decide +kernel
theorem dX10_law_80 : decode cX10_law 80 = .ok (.invokevirtual 242, 3) := by decide +kernel
theorem dX10_law_83 : decode cX10_law 83 = .ok (.iconst 0, 1) := by decide +kernel
theorem dX10_law_84 : decode cX10_law 84 = .ok (.istore 4, 2) := by decide +kernel
theorem dX10_law_86 : decode cX10_law 86 = .ok (.iload 4, 2) := by decide +kernel
theorem dX10_law_88 : decode cX10_law 88 = .ok (.aload_n 0, 1) := by decide +kernel
theorem dX10_law_89 : decode cX10_law 89 = .ok (.getfield 93, 3) := by decide +kernel
theorem dX10_law_92 : decode cX10_law 92 = .ok (.if_icmp .ge 27, 3) := by decide +kernel
theorem dX10_law_95 : decode cX10_law 95 = .ok (.aload_n 0, 1) := by decide +kernel
theorem dX10_law_96 : decode cX10_law 96 = .ok (.getfield 19, 3) := by decide +kernel
theorem dX10_law_99 : decode cX10_law 99 = .ok (.aload_n 0, 1) := by decide +kernel
theorem dX10_law_100 : decode cX10_law 100 = .ok (.getfield 68, 3) := by decide +kernel
theorem dX10_law_103 : decode cX10_law 103 = .ok (.getfield 325, 3) := by decide +kernel
theorem dX10_law_106 : decode cX10_law 106 = .ok (.iload 4, 2) := by decide +kernel
theorem dX10_law_108 : decode cX10_law 108 = .ok (.iaload, 1) := by decide +kernel
theorem dX10_law_109 : decode cX10_law 109 = .ok (.i2l, 1) := by decide +kernel
theorem dX10_law_110 : decode cX10_law 110 = .ok (.invokevirtual 258, 3) := by decide +kernel
theorem dX10_law_113 : decode cX10_law 113 = .ok (.iinc 4 1, 3) := by decide +kernel
theorem dX10_law_116 : decode cX10_law 116 = .ok (.goto (-30), 3) := by decide +kernel
theorem dX10_law_119 : decode cX10_law 119 = .ok (.iload_n 3, 1) := by decide +kernel
theorem dX10_law_120 : decode cX10_law 120 = .ok (.iload_n 2, 1) := by decide +kernel
theorem dX10_law_121 : decode cX10_law 121 = .ok (.isub, 1) := by decide +kernel
theorem dX10_law_122 : decode cX10_law 122 = .ok (.ireturn, 1) := by decide +kernel
theorem s_X10_law_86 {l2_18 l3_19 : Int} {q : Int × xW} {k : Int → xW → Option (Int × xW)} (hk : ∀ (l4_26 : Int) (s27 : xW), k l4_26 s27 = some q → xG 8 0 0 mX10_law 119 [vR 0, vX, vI l2_18, vI l3_19, vI l4_26] [] 155 s27 (xRv (vI q.1) q.2)) : ∀ (f : Nat) (l4_20 : Int) (s21 : xW), F_X10_law_86 l2_18 l3_19 f l4_20 s21 k = some q → xG 8 0 0 mX10_law 86 [vR 0, vX, vI l2_18, vI l3_19, vI l4_20] [] 155 s21 (xRv (vI q.1) q.2) := by
  intro f
  induction f with
  | zero => intro l4_20 s21 h; cases h
  | succ f ih =>
    intro l4_20 s21 h
    unfold F_X10_law_86 at h
    refine g_il dX10_law_86 rfl ?_
    refine g_aln dX10_law_88 rfl rfl (by decide) ?_
    refine g_getI 14 dX10_law_89 fl_X10_93 rfl rfl ?_
    refine g_wge dX10_law_92 (tgt := 119) rfl rfl rfl (fun q22 => ?_) (fun q22 => ?_)
    · replace h := xif_f q22 h
      exact hk l4_20 s21 h
    · replace h := xif_t q22 h
      refine g_aln dX10_law_95 rfl rfl (by decide) ?_
      refine g_getC 3 dX10_law_96 fl_X10_19 rfl (by decide) ?_
      refine g_aln dX10_law_99 rfl rfl (by decide) ?_
      refine g_getC 89 dX10_law_100 fl_X10_68 rfl (by decide) ?_
      refine g_getC 91 dX10_law_103 fl_X10_325 rfl (by decide) ?_
      refine g_il dX10_law_106 rfl ?_
      obtain ⟨hg23, h⟩ := xgd_e h
      refine g_iald 8 dX10_law_108 rfl hg23 (by decide) ?_
      refine g_wi2l dX10_law_109 rfl ?_
      obtain ⟨s25, e24, h⟩ := xbp_e h
      refine g_cV10 dX10_law_110 ml_X10_258 rfl (s_X6_add e24) (by decide) rfl ?_
      refine g_inc_4 dX10_law_113 (by decide) rfl ?_
      refine g_goto dX10_law_116 (tgt := 86) rfl ?_
      exact ih (l4_20 + 1) s25 h
theorem s_X10_law {s0 : xW} {q : Int × xW} (h : F_X10_law  s0 = some q) : xC 8 0 0 mX10_law [vR 0] 155 s0 (xRv (vI q.1) q.2) := by
  refine xC.of [vR 0, vX, vX, vX, vX] (by decide +kernel) (Nat.le_of_ble_eq_true rfl) rfl ?_
  unfold F_X10_law at h
  refine g_aln dX10_law_0 rfl rfl (by decide) ?_
  obtain ⟨hg1, h⟩ := xgd_e h
  refine g_getR 5 dX10_law_1 fl_X10_40 rfl rfl ?_
  refine g_aln dX10_law_4 rfl rfl (by decide) ?_
  refine g_getC 1 dX10_law_5 fl_X10_12 rfl (by decide) ?_
  obtain ⟨r3, s4, e2, h⟩ := xbd_e h
  refine g_cV1v dX10_law_8 ml_X10_138 (xf_rule_1 _ hg1) (s_X7_read e2) (by decide) rfl ?_
  refine g_istn_1 dX10_law_11 (by decide) rfl ?_
  refine g_aln dX10_law_12 rfl rfl (by decide) ?_
  refine g_getC 1 dX10_law_13 fl_X10_12 rfl (by decide) ?_
  obtain ⟨s6, e5, h⟩ := xbp_e h
  refine g_cV00 dX10_law_16 ml_X10_125 rfl (s_X8_clear e5) (by decide) rfl ?_
  refine g_iln dX10_law_19 rfl rfl ?_
  refine g_ic dX10_law_20 ?_
  refine g_weq dX10_law_21 (tgt := 30) rfl rfl (xw_id (by decide)) (fun q7 => ?_) (fun q7 => ?_)
  · replace h := xif_f q7 h
    refine g_aln dX10_law_30 rfl rfl (by decide) ?_
    refine g_aln dX10_law_31 rfl rfl (by decide) ?_
    refine g_getC 17 dX10_law_32 fl_X10_46 rfl (by decide) ?_
    refine g_getI 5 dX10_law_35 fl_X10_277 rfl rfl ?_
    obtain ⟨r9, s10, e8, h⟩ := xbd_e h
    refine g_cV1v dX10_law_38 ml_X10_283 rfl (s_X10_pairsOn e8) (by decide) rfl ?_
    refine g_istn_2 dX10_law_41 (by decide) rfl ?_
    refine g_aln dX10_law_42 rfl rfl (by decide) ?_
    refine g_aln dX10_law_43 rfl rfl (by decide) ?_
    obtain ⟨hg11, h⟩ := xgd_e h
    refine g_getR 5 dX10_law_44 fl_X10_40 rfl rfl ?_
    refine g_aln dX10_law_47 rfl rfl (by decide) ?_
    refine g_getC 17 dX10_law_48 fl_X10_46 rfl (by decide) ?_
    refine g_getI 0 dX10_law_51 fl_X10_379 rfl rfl ?_
    refine g_aln dX10_law_54 rfl rfl (by decide) ?_
    refine g_getC 17 dX10_law_55 fl_X10_46 rfl (by decide) ?_
    refine g_getI 5 dX10_law_58 fl_X10_277 rfl rfl ?_
    obtain ⟨s13, e12, h⟩ := xbp_e h
    refine g_cV30 dX10_law_61 ml_X10_305 rfl (s_X10_planFor e12) (by decide) rfl ?_
    refine g_aln dX10_law_64 rfl rfl (by decide) ?_
    refine g_getC 92 dX10_law_65 fl_X10_75 rfl (by decide) ?_
    obtain ⟨r15, e14, h⟩ := xbp_e h
    refine g_cV0v dX10_law_68 ml_X10_309 rfl (s_X4_pairs e14) (by decide) rfl ?_
    refine g_istn_3 dX10_law_71 (by decide) rfl ?_
    refine g_aln dX10_law_72 rfl rfl (by decide) ?_
    refine g_getC 3 dX10_law_73 fl_X10_19 rfl (by decide) ?_
    refine g_iln dX10_law_76 rfl rfl ?_
    refine g_wi2l dX10_law_77 rfl ?_
    refine g_iln dX10_law_78 rfl rfl ?_
    refine g_wi2l dX10_law_79 rfl ?_
    obtain ⟨s17, e16, h⟩ := xbp_e h
    refine g_cV20 dX10_law_80 ml_X10_242 rfl (s_X6_tell_ e16) (by decide) rfl ?_
    refine g_ic dX10_law_83 ?_
    refine g_ist_4 dX10_law_84 (by decide) rfl ?_
    refine g_drop_1 ?_
    refine s_X10_law_86 (fun l4_28 s29 h => ?_) xN _ _ h
    refine g_iln dX10_law_119 rfl rfl ?_
    refine g_iln dX10_law_120 rfl rfl ?_
    refine g_isub dX10_law_121 ?_
    exact g_rI rfl dX10_law_122 h
  · replace h := xif_t q7 h
    refine g_si dX10_law_24 (by decide) ?_
    refine g_iln dX10_law_27 rfl rfl ?_
    refine g_isub dX10_law_28 ?_
    exact g_rI rfl dX10_law_29 h
theorem dX10_lengthOf_0 : decode cX10_lengthOf 0 = .ok (.iconst 1, 1) := by decide +kernel
theorem dX10_lengthOf_1 : decode cX10_lengthOf 1 = .ok (.bipush 9, 2) := by decide +kernel
theorem dX10_lengthOf_3 : decode cX10_lengthOf 3 = .ok (.iload_n 0, 1) := by decide +kernel
theorem dX10_lengthOf_4 : decode cX10_lengthOf 4 = .ok (.invokestatic 423, 3) := by decide +kernel
theorem dX10_lengthOf_7 : decode cX10_lengthOf 7 = .ok (.invokestatic 392, 3) := by decide +kernel
theorem dX10_lengthOf_10 : decode cX10_lengthOf 10 = .ok (.ireturn, 1) := by decide +kernel
theorem s_X10_lengthOf {a0 : Int} {s0 : xW} {q : Int} (h : F_X10_lengthOf a0 s0 = some q) : xC 1 0 0 mX10_lengthOf [vI a0] 155 s0 (xRv (vI q) s0) := by
  refine xC.of [vI a0] (by decide +kernel) (Nat.le_of_ble_eq_true rfl) rfl ?_
  unfold F_X10_lengthOf at h
  refine g_ic dX10_lengthOf_0 ?_
  refine g_bi dX10_lengthOf_1 (by decide) ?_
  refine g_iln dX10_lengthOf_3 rfl rfl ?_
  refine g_wmin dX10_lengthOf_4 mx_X10_423 (xw_id (by decide)) rfl (by decide) rfl ?_
  refine g_wmax dX10_lengthOf_7 mx_X10_392 (xw_id (by decide)) rfl (by decide) rfl ?_
  exact g_pI rfl dX10_lengthOf_10 h
theorem dX10_lengthsOf_0 : decode cX10_lengthsOf 0 = .ok (.iconst 0, 1) := by decide +kernel
theorem dX10_lengthsOf_1 : decode cX10_lengthsOf 1 = .ok (.istore_n 2, 1) := by decide +kernel
theorem dX10_lengthsOf_2 : decode cX10_lengthsOf 2 = .ok (.iconst 0, 1) := by decide +kernel
theorem dX10_lengthsOf_3 : decode cX10_lengthsOf 3 = .ok (.istore_n 3, 1) := by decide +kernel
theorem dX10_lengthsOf_4 : decode cX10_lengthsOf 4 = .ok (.iload_n 3, 1) := by decide +kernel
theorem dX10_lengthsOf_5 : decode cX10_lengthsOf 5 = .ok (.aload_n 0, 1) := by decide +kernel
theorem dX10_lengthsOf_6 : decode cX10_lengthsOf 6 = .ok (.getfield 75, 3) := by decide +kernel
theorem dX10_lengthsOf_9 : decode cX10_lengthsOf 9 = .ok (.getfield 131, 3) := by decide +kernel
theorem dX10_lengthsOf_12 : decode cX10_lengthsOf 12 = .ok (.if_icmp .ge 27, 3) := by decide +kernel
theorem dX10_lengthsOf_15 : decode cX10_lengthsOf 15 = .ok (.iload_n 2, 1) := by decide +kernel
theorem dX10_lengthsOf_16 : decode cX10_lengthsOf 16 = .ok (.iload_n 1, 1) := by decide +kernel
theorem dX10_lengthsOf_17 : decode cX10_lengthsOf 17 = .ok (.iload_n 3, 1) := by decide +kernel
theorem dX10_lengthsOf_18 : decode cX10_lengthsOf 18 = .ok (.ishr, 1) := by decide +kernel
theorem dX10_lengthsOf_19 : decode cX10_lengthsOf 19 = .ok (.iconst 1, 1) := by decide +kernel
theorem dX10_lengthsOf_20 : decode cX10_lengthsOf 20 = .ok (.iand, 1) := by decide +kernel
theorem dX10_lengthsOf_21 : decode cX10_lengthsOf 21 = .ok (.aload_n 0, 1) := by decide +kernel
theorem dX10_lengthsOf_22 : decode cX10_lengthsOf 22 = .ok (.getfield 46, 3) := by decide +kernel
theorem dX10_lengthsOf_25 : decode cX10_lengthsOf 25 = .ok (.getfield 179, 3) := by decide +kernel
theorem dX10_lengthsOf_28 : decode cX10_lengthsOf 28 = .ok (.iload_n 3, 1) := by decide +kernel
theorem dX10_lengthsOf_29 : decode cX10_lengthsOf 29 = .ok (.iaload, 1) := by decide +kernel
theorem dX10_lengthsOf_30 : decode cX10_lengthsOf 30 = .ok (.imul, 1) := by decide +kernel
theorem dX10_lengthsOf_31 : decode cX10_lengthsOf 31 = .ok (.iadd, 1) := by decide +kernel
theorem dX10_lengthsOf_32 : decode cX10_lengthsOf 32 = .ok (.istore_n 2, 1) := by decide +kernel
theorem dX10_lengthsOf_33 : decode cX10_lengthsOf 33 = .ok (.iinc 3 1, 3) := by decide +kernel
theorem dX10_lengthsOf_36 : decode cX10_lengthsOf 36 = .ok (.goto (-32), 3) := by decide +kernel
theorem dX10_lengthsOf_39 : decode cX10_lengthsOf 39 = .ok (.iload_n 2, 1) := by decide +kernel
theorem dX10_lengthsOf_40 : decode cX10_lengthsOf 40 = .ok (.ireturn, 1) := by decide +kernel
theorem s_X10_lengthsOf_4 {s4 : xW} {l1_1 : Int} {q : Int} {k : Int → Int → Option (Int)} (hk : ∀ (l2_7 : Int) (l3_8 : Int), k l2_7 l3_8 = some q → xG 0 0 0 mX10_lengthsOf 39 [vR 0, vI l1_1, vI l2_7, vI l3_8] [] 155 s4 (xRv (vI q) s4)) : ∀ (f : Nat) (l2_2 : Int) (l3_3 : Int), F_X10_lengthsOf_4 l1_1 s4 f l2_2 l3_3 k = some q → xG 0 0 0 mX10_lengthsOf 4 [vR 0, vI l1_1, vI l2_2, vI l3_3] [] 155 s4 (xRv (vI q) s4) := by
  intro f
  induction f with
  | zero => intro l2_2 l3_3 h; cases h
  | succ f ih =>
    intro l2_2 l3_3 h
    unfold F_X10_lengthsOf_4 at h
    refine g_iln dX10_lengthsOf_4 rfl rfl ?_
    refine g_aln dX10_lengthsOf_5 rfl rfl (by decide) ?_
    refine g_getC 92 dX10_lengthsOf_6 fl_X10_75 rfl (by decide) ?_
    refine g_getI 0 dX10_lengthsOf_9 fl_X10_131 rfl rfl ?_
    refine g_wge dX10_lengthsOf_12 (tgt := 39) rfl rfl rfl (fun q5 => ?_) (fun q5 => ?_)
    · replace h := xif_f q5 h
      exact hk l2_2 l3_3 h
    · replace h := xif_t q5 h
      refine g_iln dX10_lengthsOf_15 rfl rfl ?_
      refine g_iln dX10_lengthsOf_16 rfl rfl ?_
      refine g_iln dX10_lengthsOf_17 rfl rfl ?_
      refine g_ishr dX10_lengthsOf_18 ?_
      refine g_ic dX10_lengthsOf_19 ?_
      refine g_iand dX10_lengthsOf_20 ?_
      refine g_aln dX10_lengthsOf_21 rfl rfl (by decide) ?_
      refine g_getC 17 dX10_lengthsOf_22 fl_X10_46 rfl (by decide) ?_
      refine g_getC 20 dX10_lengthsOf_25 fl_X10_179 rfl (by decide) ?_
      refine g_iln dX10_lengthsOf_28 rfl rfl ?_
      obtain ⟨hg6, h⟩ := xgd_e h
      refine g_iald 8 dX10_lengthsOf_29 rfl hg6 (by decide) ?_
      refine g_imul dX10_lengthsOf_30 ?_
      refine g_iadd dX10_lengthsOf_31 ?_
      refine g_istn_2 dX10_lengthsOf_32 (by decide) rfl ?_
      refine g_inc_3 dX10_lengthsOf_33 (by decide) rfl ?_
      refine g_goto dX10_lengthsOf_36 (tgt := 4) rfl ?_
      exact ih (l2_2 + ((xand (xshr l1_1 l3_3) 1) * (s4 20 l3_3))) (l3_3 + 1) h
theorem s_X10_lengthsOf {a1 : Int} {s0 : xW} {q : Int} (h : F_X10_lengthsOf a1 s0 = some q) : xC 0 0 0 mX10_lengthsOf [vR 0, vI a1] 155 s0 (xRv (vI q) s0) := by
  refine xC.of [vR 0, vI a1, vX, vX] (by decide +kernel) (Nat.le_of_ble_eq_true rfl) rfl ?_
  unfold F_X10_lengthsOf at h
  refine g_ic dX10_lengthsOf_0 ?_
  refine g_istn_2 dX10_lengthsOf_1 (by decide) rfl ?_
  refine g_ic dX10_lengthsOf_2 ?_
  refine g_istn_3 dX10_lengthsOf_3 (by decide) rfl ?_
  refine s_X10_lengthsOf_4 (fun l2_9 l3_10 h => ?_) xN _ _ h
  refine g_iln dX10_lengthsOf_39 rfl rfl ?_
  exact g_pI rfl dX10_lengthsOf_40 h
theorem dX10_longest_0 : decode cX10_longest 0 = .ok (.aload_n 0, 1) := by decide +kernel
theorem dX10_longest_1 : decode cX10_longest 1 = .ok (.invokevirtual 291, 3) := by decide +kernel
theorem dX10_longest_4 : decode cX10_longest 4 = .ok (.istore_n 1, 1) := by decide +kernel
theorem dX10_longest_5 : decode cX10_longest 5 = .ok (.iconst 0, 1) := by decide +kernel
theorem dX10_longest_6 : decode cX10_longest 6 = .ok (.istore_n 2, 1) := by decide +kernel
theorem dX10_longest_7 : decode cX10_longest 7 = .ok (.iconst 0, 1) := by decide +kernel
theorem dX10_longest_8 : decode cX10_longest 8 = .ok (.istore_n 3, 1) := by decide +kernel
theorem dX10_longest_9 : decode cX10_longest 9 = .ok (.iconst 0, 1) := by decide +kernel
theorem dX10_longest_10 : decode cX10_longest 10 = .ok (.istore 4, 2) := by decide +kernel
theorem dX10_longest_12 : decode cX10_longest 12 = .ok (.iload 4, 2) := by decide +kernel
theorem dX10_longest_14 : decode cX10_longest 14 = .ok (.iload_n 1, 1) := by decide +kernel
theorem dX10_longest_15 : decode cX10_longest 15 = .ok (.if_icmp .gt 68, 3) := by decide +kernel
theorem dX10_longest_18 : decode cX10_longest 18 = .ok (.aload_n 0, 1) := by decide +kernel
theorem dX10_longest_19 : decode cX10_longest 19 = .ok (.iload 4, 2) := by decide +kernel
theorem dX10_longest_21 : decode cX10_longest 21 = .ok (.invokevirtual 302, 3) := by decide +kernel
theorem dX10_longest_24 : decode cX10_longest 24 = .ok (.istore 5, 2) := by decide +kernel
theorem dX10_longest_26 : decode cX10_longest 26 = .ok (.iload 5, 2) := by decide +kernel
theorem dX10_longest_28 : decode cX10_longest 28 = .ok (.iload_n 2, 1) := by decide +kernel
theorem dX10_longest_29 : decode cX10_longest 29 = .ok (.if_icmp .gt 21, 3) := by decide +kernel
theorem dX10_longest_32 : decode cX10_longest 32 = .ok (.iload 5, 2) := by decide +kernel
theorem dX10_longest_34 : decode cX10_longest 34 = .ok (.iload_n 2, 1) := by decide +kernel
theorem dX10_longest_35 : decode cX10_longest 35 = .ok (.if_icmp .ne 19, 3) := by decide +kernel
theorem dX10_longest_38 : decode cX10_longest 38 = .ok (.iload 4, 2) := by decide +kernel
theorem dX10_longest_40 : decode cX10_longest 40 = .ok (.invokestatic 294, 3) := by decide +kernel
theorem dX10_longest_43 : decode cX10_longest 43 = .ok (.iload_n 3, 1) := by decide +kernel
theorem dX10_longest_44 : decode cX10_longest 44 = .ok (.invokestatic 294, 3) := by decide +kernel
theorem dX10_longest_47 : decode cX10_longest 47 = .ok (.if_icmp .le 7, 3) := by decide +kernel
theorem dX10_longest_50 : decode cX10_longest 50 = .ok (.iconst 1, 1) := by decide +kernel
theorem dX10_longest_51 : decode cX10_longest 51 = .ok (.goto 4, 3) := by decide +kernel
theorem dX10_longest_54 : decode cX10_longest 54 = .ok (.iconst 0, 1) := by decide +kernel
theorem dX10_longest_55 : decode cX10_longest 55 = .ok (.istore 6, 2) := by decide +kernel
theorem dX10_longest_57 : decode cX10_longest 57 = .ok (.iload 6, 2) := by decide +kernel
theorem dX10_longest_59 : decode cX10_longest 59 = .ok (.ifCond .eq 18, 3) := by decide +kernel
theorem dX10_longest_62 : decode cX10_longest 62 = .ok (.aload_n 0, 1) := by decide +kernel
theorem dX10_longest_63 : decode cX10_longest 63 = .ok (.iload 4, 2) := by decide +kernel
theorem dX10_longest_65 : decode cX10_longest 65 = .ok (.invokevirtual 299, 3) := by decide +kernel
theorem dX10_longest_68 : decode cX10_longest 68 = .ok (.ifCond .eq 9, 3) := by decide +kernel
theorem dX10_longest_71 : decode cX10_longest 71 = .ok (.iload 5, 2) := by decide +kernel
theorem dX10_longest_73 : decode cX10_longest 73 = .ok (.istore_n 2, 1) := by decide +kernel
theorem dX10_longest_74 : decode cX10_longest 74 = .ok (.iload 4, 2) := by decide +kernel
theorem dX10_longest_76 : decode cX10_longest 76 = .ok (.istore_n 3, 1) := by decide +kernel
theorem dX10_longest_77 : decode cX10_longest 77 = .ok (.iinc 4 1, 3) := by decide +kernel
theorem dX10_longest_80 : decode cX10_longest 80 = .ok (.goto (-68), 3) := by decide +kernel
theorem dX10_longest_83 : decode cX10_longest 83 = .ok (.aload_n 0, 1) := by decide +kernel
theorem dX10_longest_84 : decode cX10_longest 84 = .ok (.getfield 19, 3) := by decide +kernel
theorem dX10_longest_87 : decode cX10_longest 87 = .ok (.iload_n 3, 1) := by decide +kernel
theorem dX10_longest_88 : decode cX10_longest 88 = .ok (.i2l, 1) := by decide +kernel
theorem dX10_longest_89 : decode cX10_longest 89 = .ok (.invokevirtual 286, 3) := by decide +kernel
theorem dX10_longest_92 : decode cX10_longest 92 = .ok (.iload_n 2, 1) := by decide +kernel
theorem dX10_longest_93 : decode cX10_longest 93 = .ok (.ireturn, 1) := by decide +kernel
theorem s_X10_longest_12 {s8 : xW} {l1_4 : Int} {q : Int × xW} {k : Int → Int → Int → Option (Int × xW)} (hk : ∀ (l2_34 : Int) (l3_35 : Int) (l4_36 : Int), k l2_34 l3_35 l4_36 = some q → xG 6 0 0 mX10_longest 83 [vR 0, vI l1_4, vI l2_34, vI l3_35, vI l4_36, vX, vX] [] 155 s8 (xRv (vI q.1) q.2)) : ∀ (f : Nat) (l2_5 : Int) (l3_6 : Int) (l4_7 : Int), F_X10_longest_12 l1_4 s8 f l2_5 l3_6 l4_7 k = some q → xG 6 0 0 mX10_longest 12 [vR 0, vI l1_4, vI l2_5, vI l3_6, vI l4_7, vX, vX] [] 155 s8 (xRv (vI q.1) q.2) := by
  intro f
  induction f with
  | zero => intro l2_5 l3_6 l4_7 h; cases h
  | succ f ih =>
    intro l2_5 l3_6 l4_7 h
    unfold F_X10_longest_12 at h
    refine g_il dX10_longest_12 rfl ?_
    refine g_iln dX10_longest_14 rfl rfl ?_
    refine g_wgt dX10_longest_15 (tgt := 83) rfl rfl rfl (fun q9 => ?_) (fun q9 => ?_)
    · replace h := xif_f q9 h
      exact hk l2_5 l3_6 l4_7 h
    · replace h := xif_t q9 h
      refine g_aln dX10_longest_18 rfl rfl (by decide) ?_
      refine g_il dX10_longest_19 rfl ?_
      obtain ⟨r11, e10, h⟩ := xbp_e h
      refine g_cV1v dX10_longest_21 ml_X10_302 rfl (s_X10_lengthsOf e10) (by decide) rfl ?_
      refine g_ist_5 dX10_longest_24 (by decide) rfl ?_
      refine g_il dX10_longest_26 rfl ?_
      refine g_iln dX10_longest_28 rfl rfl ?_
      obtain ⟨j13, ej14, h⟩ := xjn_e h
      have hj15 : ∀ (t12 : Int), j13 t12 = some q → xG 6 0 0 mX10_longest 55 [vR 0, vI l1_4, vI l2_5, vI l3_6, vI l4_7, vI r11, vX] [vI t12] 155 s8 (xRv (vI q.1) q.2) := by
        intro t12 h
        rw [ej14] at h
        refine g_ist_6 dX10_longest_55 (by decide) rfl ?_
        refine g_il dX10_longest_57 rfl ?_
        obtain ⟨j18, ej19, h⟩ := xjn_e h
        have hj20 : ∀ (l2_16 : Int) (l3_17 : Int), j18 l2_16 l3_17 = some q → xG 6 0 0 mX10_longest 77 [vR 0, vI l1_4, vI l2_16, vI l3_17, vI l4_7, vX, vX] [] 155 s8 (xRv (vI q.1) q.2) := by
          intro l2_16 l3_17 h
          rw [ej19] at h
          refine g_inc_4 dX10_longest_77 (by decide) rfl ?_
          refine g_goto dX10_longest_80 (tgt := 12) rfl ?_
          exact ih l2_16 l3_17 (l4_7 + 1) h
        clear ej19
        refine g_yeq dX10_longest_59 (tgt := 77) rfl rfl (fun q21 => ?_) (fun q21 => ?_)
        · replace h := xif_f q21 h
          refine g_drop_5 ?_
          refine g_drop_6 ?_
          exact hj20 l2_5 l3_6 h
        · replace h := xif_t q21 h
          refine g_aln dX10_longest_62 rfl rfl (by decide) ?_
          refine g_il dX10_longest_63 rfl ?_
          obtain ⟨r23, e22, h⟩ := xbp_e h
          refine g_cV1v dX10_longest_65 ml_X10_299 rfl (s_X10_isPeaceful e22) (by decide) rfl ?_
          refine g_yeq dX10_longest_68 (tgt := 77) rfl rfl (fun q24 => ?_) (fun q24 => ?_)
          · replace h := xif_f q24 h
            refine g_drop_5 ?_
            refine g_drop_6 ?_
            exact hj20 l2_5 l3_6 h
          · replace h := xif_t q24 h
            refine g_il dX10_longest_71 rfl ?_
            refine g_istn_2 dX10_longest_73 (by decide) rfl ?_
            refine g_il dX10_longest_74 rfl ?_
            refine g_istn_3 dX10_longest_76 (by decide) rfl ?_
            refine g_drop_5 ?_
            refine g_drop_6 ?_
            exact hj20 r11 l4_7 h
      clear ej14
      obtain ⟨j25, ej26, h⟩ := xjn_e h
      have hj27 : j25  = some q → xG 6 0 0 mX10_longest 50 [vR 0, vI l1_4, vI l2_5, vI l3_6, vI l4_7, vI r11, vX] [] 155 s8 (xRv (vI q.1) q.2) := by
        intro  h
        rw [ej26] at h
        refine g_ic dX10_longest_50 ?_
        refine g_goto dX10_longest_51 (tgt := 55) rfl ?_
        exact hj15 1 h
      clear ej26
      refine g_wgt dX10_longest_29 (tgt := 50) rfl rfl rfl (fun q28 => ?_) (fun q28 => ?_)
      · replace h := xif_f q28 h
        exact hj27  h
      · replace h := xif_t q28 h
        refine g_il dX10_longest_32 rfl ?_
        refine g_iln dX10_longest_34 rfl rfl ?_
        obtain ⟨j29, ej30, h⟩ := xjn_e h
        have hj31 : j29  = some q → xG 6 0 0 mX10_longest 54 [vR 0, vI l1_4, vI l2_5, vI l3_6, vI l4_7, vI r11, vX] [] 155 s8 (xRv (vI q.1) q.2) := by
          intro  h
          rw [ej30] at h
          refine g_ic dX10_longest_54 ?_
          exact hj15 0 h
        clear ej30
        refine g_wne dX10_longest_35 (tgt := 54) rfl rfl rfl (fun q32 => ?_) (fun q32 => ?_)
        · replace h := xif_f q32 h
          exact hj31  h
        · replace h := xif_t q32 h
          refine g_il dX10_longest_38 rfl ?_
          refine g_bitc dX10_longest_40 bc_X10_294 (by decide) rfl ?_
          refine g_iln dX10_longest_43 rfl rfl ?_
          refine g_bitc dX10_longest_44 bc_X10_294 (by decide) rfl ?_
          refine g_wle dX10_longest_47 (tgt := 54) rfl rfl rfl (fun q33 => ?_) (fun q33 => ?_)
          · replace h := xif_f q33 h
            exact hj31  h
          · replace h := xif_t q33 h
            exact hj27  h
theorem s_X10_longest {s0 : xW} {q : Int × xW} (h : F_X10_longest  s0 = some q) : xC 6 0 0 mX10_longest [vR 0] 155 s0 (xRv (vI q.1) q.2) := by
  refine xC.of [vR 0, vX, vX, vX, vX, vX, vX] (by decide +kernel) (Nat.le_of_ble_eq_true rfl) rfl ?_
  unfold F_X10_longest at h
  refine g_aln dX10_longest_0 rfl rfl (by decide) ?_
  obtain ⟨r2, s3, e1, h⟩ := xbd_e h
  refine g_cV0v dX10_longest_1 ml_X10_291 rfl (s_X10_findFoes e1) (by decide) rfl ?_
  refine g_istn_1 dX10_longest_4 (by decide) rfl ?_
  refine g_ic dX10_longest_5 ?_
  refine g_istn_2 dX10_longest_6 (by decide) rfl ?_
  refine g_ic dX10_longest_7 ?_
  refine g_istn_3 dX10_longest_8 (by decide) rfl ?_
  refine g_ic dX10_longest_9 ?_
  refine g_ist_4 dX10_longest_10 (by decide) rfl ?_
  refine s_X10_longest_12 (fun l2_37 l3_38 l4_39 h => ?_) xN _ _ _ h
  refine g_aln dX10_longest_83 rfl rfl (by decide) ?_
  refine g_getC 3 dX10_longest_84 fl_X10_19 rfl (by decide) ?_
  refine g_iln dX10_longest_87 rfl rfl ?_
  refine g_wi2l dX10_longest_88 rfl ?_
  obtain ⟨s41, e40, h⟩ := xbp_e h
  refine g_cV10 dX10_longest_89 ml_X10_286 rfl (s_X6_tell e40) (by decide) rfl ?_
  refine g_iln dX10_longest_92 rfl rfl ?_
  exact g_rI rfl dX10_longest_93 h
theorem dX10_nearOf_0 : decode cX10_nearOf 0 = .ok (.iconst 0, 1) := by decide +kernel
theorem dX10_nearOf_1 : decode cX10_nearOf 1 = .ok (.istore_n 2, 1) := by decide +kernel
theorem dX10_nearOf_2 : decode cX10_nearOf 2 = .ok (.iconst 0, 1) := by decide +kernel
theorem dX10_nearOf_3 : decode cX10_nearOf 3 = .ok (.istore_n 3, 1) := by decide +kernel
theorem dX10_nearOf_4 : decode cX10_nearOf 4 = .ok (.iload_n 3, 1) := by decide +kernel
theorem dX10_nearOf_5 : decode cX10_nearOf 5 = .ok (.aload_n 0, 1) := by decide +kernel
theorem dX10_nearOf_6 : decode cX10_nearOf 6 = .ok (.getfield 93, 3) := by decide +kernel
theorem dX10_nearOf_9 : decode cX10_nearOf 9 = .ok (.if_icmp .ge 31, 3) := by decide +kernel
theorem dX10_nearOf_12 : decode cX10_nearOf 12 = .ok (.iload_n 2, 1) := by decide +kernel
theorem dX10_nearOf_13 : decode cX10_nearOf 13 = .ok (.iload_n 1, 1) := by decide +kernel
theorem dX10_nearOf_14 : decode cX10_nearOf 14 = .ok (.iload_n 3, 1) := by decide +kernel
theorem dX10_nearOf_15 : decode cX10_nearOf 15 = .ok (.ishr, 1) := by decide +kernel
theorem dX10_nearOf_16 : decode cX10_nearOf 16 = .ok (.iconst 1, 1) := by decide +kernel
theorem dX10_nearOf_17 : decode cX10_nearOf 17 = .ok (.iand, 1) := by decide +kernel
theorem dX10_nearOf_18 : decode cX10_nearOf 18 = .ok (.iconst 1, 1) := by decide +kernel
theorem dX10_nearOf_19 : decode cX10_nearOf 19 = .ok (.if_icmp .ne 12, 3) := by decide +kernel
theorem dX10_nearOf_22 : decode cX10_nearOf 22 = .ok (.aload_n 0, 1) := by decide +kernel
theorem dX10_nearOf_23 : decode cX10_nearOf 23 = .ok (.getfield 100, 3) := by decide +kernel
theorem dX10_nearOf_26 : decode cX10_nearOf 26 = .ok (.iload_n 3, 1) := by decide +kernel
theorem dX10_nearOf_27 : decode cX10_nearOf 27 = .ok (.iaload, 1) := by decide +kernel
theorem dX10_nearOf_28 : decode cX10_nearOf 28 = .ok (.goto 4, 3) := by decide +kernel
theorem dX10_nearOf_31 : decode cX10_nearOf 31 = .ok (.iconst 0, 1) := by decide +kernel
theorem dX10_nearOf_32 : decode cX10_nearOf 32 = .ok (.ior, 1) := by decide +kernel
theorem dX10_nearOf_33 : decode cX10_nearOf 33 = .ok (.istore_n 2, 1) := by decide +kernel
theorem dX10_nearOf_34 : decode cX10_nearOf 34 = .ok (.iinc 3 1, 3) := by decide +kernel
theorem dX10_nearOf_37 : decode cX10_nearOf 37 = .ok (.goto (-33), 3) := by decide +kernel
theorem dX10_nearOf_40 : decode cX10_nearOf 40 = .ok (.iload_n 2, 1) := by decide +kernel
theorem dX10_nearOf_41 : decode cX10_nearOf 41 = .ok (.ireturn, 1) := by decide +kernel
theorem s_X10_nearOf_4 {s4 : xW} {l1_1 : Int} {q : Int} {k : Int → Int → Option (Int)} (hk : ∀ (l2_12 : Int) (l3_13 : Int), k l2_12 l3_13 = some q → xG 0 0 0 mX10_nearOf 40 [vR 0, vI l1_1, vI l2_12, vI l3_13] [] 155 s4 (xRv (vI q) s4)) : ∀ (f : Nat) (l2_2 : Int) (l3_3 : Int), F_X10_nearOf_4 l1_1 s4 f l2_2 l3_3 k = some q → xG 0 0 0 mX10_nearOf 4 [vR 0, vI l1_1, vI l2_2, vI l3_3] [] 155 s4 (xRv (vI q) s4) := by
  intro f
  induction f with
  | zero => intro l2_2 l3_3 h; cases h
  | succ f ih =>
    intro l2_2 l3_3 h
    unfold F_X10_nearOf_4 at h
    refine g_iln dX10_nearOf_4 rfl rfl ?_
    refine g_aln dX10_nearOf_5 rfl rfl (by decide) ?_
    refine g_getI 14 dX10_nearOf_6 fl_X10_93 rfl rfl ?_
    refine g_wge dX10_nearOf_9 (tgt := 40) rfl rfl rfl (fun q5 => ?_) (fun q5 => ?_)
    · replace h := xif_f q5 h
      exact hk l2_2 l3_3 h
    · replace h := xif_t q5 h
      refine g_iln dX10_nearOf_12 rfl rfl ?_
      refine g_iln dX10_nearOf_13 rfl rfl ?_
      refine g_iln dX10_nearOf_14 rfl rfl ?_
      refine g_ishr dX10_nearOf_15 ?_
      refine g_ic dX10_nearOf_16 ?_
      refine g_iand dX10_nearOf_17 ?_
      refine g_ic dX10_nearOf_18 ?_
      obtain ⟨j7, ej8, h⟩ := xjn_e h
      have hj9 : ∀ (t6 : Int), j7 t6 = some q → xG 0 0 0 mX10_nearOf 32 [vR 0, vI l1_1, vX, vI l3_3] [vI t6, vI l2_2] 155 s4 (xRv (vI q) s4) := by
        intro t6 h
        rw [ej8] at h
        refine g_ior dX10_nearOf_32 ?_
        refine g_istn_2 dX10_nearOf_33 (by decide) rfl ?_
        refine g_inc_3 dX10_nearOf_34 (by decide) rfl ?_
        refine g_goto dX10_nearOf_37 (tgt := 4) rfl ?_
        exact ih (xor' l2_2 t6) (l3_3 + 1) h
      clear ej8
      refine g_wne dX10_nearOf_19 (tgt := 31) rfl rfl (xw_id (by decide)) (fun q10 => ?_) (fun q10 => ?_)
      · replace h := xif_f q10 h
        refine g_ic dX10_nearOf_31 ?_
        refine g_drop_2 ?_
        exact hj9 0 h
      · replace h := xif_t q10 h
        refine g_aln dX10_nearOf_22 rfl rfl (by decide) ?_
        refine g_getC 107 dX10_nearOf_23 fl_X10_100 rfl (by decide) ?_
        refine g_iln dX10_nearOf_26 rfl rfl ?_
        obtain ⟨hg11, h⟩ := xgd_e h
        refine g_iald 8 dX10_nearOf_27 rfl hg11 (by decide) ?_
        refine g_goto dX10_nearOf_28 (tgt := 32) rfl ?_
        refine g_drop_2 ?_
        exact hj9 (s4 107 l3_3) h
theorem s_X10_nearOf {a1 : Int} {s0 : xW} {q : Int} (h : F_X10_nearOf a1 s0 = some q) : xC 0 0 0 mX10_nearOf [vR 0, vI a1] 155 s0 (xRv (vI q) s0) := by
  refine xC.of [vR 0, vI a1, vX, vX] (by decide +kernel) (Nat.le_of_ble_eq_true rfl) rfl ?_
  unfold F_X10_nearOf at h
  refine g_ic dX10_nearOf_0 ?_
  refine g_istn_2 dX10_nearOf_1 (by decide) rfl ?_
  refine g_ic dX10_nearOf_2 ?_
  refine g_istn_3 dX10_nearOf_3 (by decide) rfl ?_
  refine s_X10_nearOf_4 (fun l2_14 l3_15 h => ?_) xN _ _ h
  refine g_iln dX10_nearOf_40 rfl rfl ?_
  exact g_pI rfl dX10_nearOf_41 h
theorem dX10_menders_0 : decode cX10_menders 0 = .ok (.iload_n 1, 1) := by decide +kernel
theorem dX10_menders_1 : decode cX10_menders 1 = .ok (.ifCond .lt 9, 3) := by decide +kernel
theorem dX10_menders_4 : decode cX10_menders 4 = .ok (.iload_n 1, 1) := by decide +kernel
theorem dX10_menders_5 : decode cX10_menders 5 = .ok (.bipush 18, 2) := by decide +kernel
theorem dX10_menders_7 : decode cX10_menders 7 = .ok (.if_icmp .le 5, 3) := by decide +kernel
theorem dX10_menders_10 : decode cX10_menders 10 = .ok (.iconst (-1), 1) := by decide +kernel
theorem dX10_menders_11 : decode cX10_menders 11 = .ok (.ireturn, 1) := by decide +kernel
theorem dX10_menders_12 : decode cX10_menders 12 = .ok (.aload_n 0, 1) := by decide +kernel
theorem dX10_menders_13 : decode cX10_menders 13 = .ok (.iload_n 1, 1) := by decide +kernel
theorem dX10_menders_14 : decode cX10_menders 14 = .ok (.invokevirtual 343, 3) := by decide +kernel
theorem dX10_menders_17 : decode cX10_menders 17 = .ok (.istore_n 2, 1) := by decide +kernel
theorem dX10_menders_18 : decode cX10_menders 18 = .ok (.aload_n 0, 1) := by decide +kernel
theorem dX10_menders_19 : decode cX10_menders 19 = .ok (.getfield 93, 3) := by decide +kernel
theorem dX10_menders_22 : decode cX10_menders 22 = .ok (.iconst 1, 1) := by decide +kernel
theorem dX10_menders_23 : decode cX10_menders 23 = .ok (.iadd, 1) := by decide +kernel
theorem dX10_menders_24 : decode cX10_menders 24 = .ok (.istore_n 3, 1) := by decide +kernel
theorem dX10_menders_25 : decode cX10_menders 25 = .ok (.iconst 0, 1) := by decide +kernel
theorem dX10_menders_26 : decode cX10_menders 26 = .ok (.istore 4, 2) := by decide +kernel
theorem dX10_menders_28 : decode cX10_menders 28 = .ok (.iconst 0, 1) := by decide +kernel
theorem dX10_menders_29 : decode cX10_menders 29 = .ok (.istore 5, 2) := by decide +kernel
theorem dX10_menders_31 : decode cX10_menders 31 = .ok (.iload 5, 2) := by decide +kernel
theorem dX10_menders_33 : decode cX10_menders 33 = .ok (.iload_n 2, 1) := by decide +kernel
theorem dX10_menders_34 : decode cX10_menders 34 = .ok (.if_icmp .gt 39, 3) := by decide +kernel
theorem dX10_menders_37 : decode cX10_menders 37 = .ok (.iload 5, 2) := by decide +kernel
theorem dX10_menders_39 : decode cX10_menders 39 = .ok (.invokestatic 294, 3) := by decide +kernel
theorem dX10_menders_42 : decode cX10_menders 42 = .ok (.istore 6, 2) := by decide +kernel
theorem dX10_menders_44 : decode cX10_menders 44 = .ok (.iload 6, 2) := by decide +kernel
theorem dX10_menders_46 : decode cX10_menders 46 = .ok (.iload_n 3, 1) := by decide +kernel
theorem dX10_menders_47 : decode cX10_menders 47 = .ok (.if_icmp .ge 20, 3) := by decide +kernel
theorem dX10_menders_50 : decode cX10_menders 50 = .ok (.aload_n 0, 1) := by decide +kernel
theorem dX10_menders_51 : decode cX10_menders 51 = .ok (.iload 5, 2) := by decide +kernel
theorem dX10_menders_53 : decode cX10_menders 53 = .ok (.invokevirtual 346, 3) := by decide +kernel
theorem dX10_menders_56 : decode cX10_menders 56 = .ok (.iload_n 2, 1) := by decide +kernel
theorem dX10_menders_57 : decode cX10_menders 57 = .ok (.if_icmp .ne 10, 3) := by decide +kernel
theorem dX10_menders_60 : decode cX10_menders 60 = .ok (.iload 6, 2) := by decide +kernel
theorem dX10_menders_62 : decode cX10_menders 62 = .ok (.istore_n 3, 1) := by decide +kernel
theorem dX10_menders_63 : decode cX10_menders 63 = .ok (.iload 5, 2) := by decide +kernel
theorem dX10_menders_65 : decode cX10_menders 65 = .ok (.istore 4, 2) := by decide +kernel
theorem dX10_menders_67 : decode cX10_menders 67 = .ok (.iinc 5 1, 3) := by decide +kernel
theorem dX10_menders_70 : decode cX10_menders 70 = .ok (.goto (-39), 3) := by decide +kernel
theorem dX10_menders_73 : decode cX10_menders 73 = .ok (.aload_n 0, 1) := by decide +kernel
theorem dX10_menders_74 : decode cX10_menders 74 = .ok (.getfield 19, 3) := by decide +kernel
theorem dX10_menders_77 : decode cX10_menders 77 = .ok (.iload 4, 2) := by decide +kernel
theorem dX10_menders_79 : decode cX10_menders 79 = .ok (.i2l, 1) := by decide +kernel
theorem dX10_menders_80 : decode cX10_menders 80 = .ok (.invokevirtual 286, 3) := by decide +kernel
theorem dX10_menders_83 : decode cX10_menders 83 = .ok (.iload_n 3, 1) := by decide +kernel
theorem dX10_menders_84 : decode cX10_menders 84 = .ok (.ireturn, 1) := by decide +kernel
theorem s_X10_menders_31 {s13 : xW} {l2_9 : Int} {q : Int × xW} {k : Int → Int → Int → Option (Int × xW)} (hk : ∀ (l3_24 : Int) (l4_25 : Int) (l5_26 : Int), k l3_24 l4_25 l5_26 = some q → xG 3 0 0 mX10_menders 73 [vR 0, vX, vI l2_9, vI l3_24, vI l4_25, vI l5_26, vX] [] 155 s13 (xRv (vI q.1) q.2)) : ∀ (f : Nat) (l3_10 : Int) (l4_11 : Int) (l5_12 : Int), F_X10_menders_31 l2_9 s13 f l3_10 l4_11 l5_12 k = some q → xG 3 0 0 mX10_menders 31 [vR 0, vX, vI l2_9, vI l3_10, vI l4_11, vI l5_12, vX] [] 155 s13 (xRv (vI q.1) q.2) := by
  intro f
  induction f with
  | zero => intro l3_10 l4_11 l5_12 h; cases h
  | succ f ih =>
    intro l3_10 l4_11 l5_12 h
    unfold F_X10_menders_31 at h
    refine g_il dX10_menders_31 rfl ?_
    refine g_iln dX10_menders_33 rfl rfl ?_
    refine g_wgt dX10_menders_34 (tgt := 73) rfl rfl rfl (fun q14 => ?_) (fun q14 => ?_)
    · replace h := xif_f q14 h
      exact hk l3_10 l4_11 l5_12 h
    · replace h := xif_t q14 h
      refine g_il dX10_menders_37 rfl ?_
      refine g_bitc dX10_menders_39 bc_X10_294 (by decide) rfl ?_
      refine g_ist_6 dX10_menders_42 (by decide) rfl ?_
      refine g_il dX10_menders_44 rfl ?_
      refine g_iln dX10_menders_46 rfl rfl ?_
      obtain ⟨j17, ej18, h⟩ := xjn_e h
      have hj19 : ∀ (l3_15 : Int) (l4_16 : Int), j17 l3_15 l4_16 = some q → xG 3 0 0 mX10_menders 67 [vR 0, vX, vI l2_9, vI l3_15, vI l4_16, vI l5_12, vX] [] 155 s13 (xRv (vI q.1) q.2) := by
        intro l3_15 l4_16 h
        rw [ej18] at h
        refine g_inc_5 dX10_menders_67 (by decide) rfl ?_
        refine g_goto dX10_menders_70 (tgt := 31) rfl ?_
        exact ih l3_15 l4_16 (l5_12 + 1) h
      clear ej18
      refine g_wge dX10_menders_47 (tgt := 67) rfl rfl rfl (fun q20 => ?_) (fun q20 => ?_)
      · replace h := xif_f q20 h
        refine g_drop_6 ?_
        exact hj19 l3_10 l4_11 h
      · replace h := xif_t q20 h
        refine g_aln dX10_menders_50 rfl rfl (by decide) ?_
        refine g_il dX10_menders_51 rfl ?_
        obtain ⟨r22, e21, h⟩ := xbp_e h
        refine g_cV1v dX10_menders_53 ml_X10_346 rfl (s_X10_nearOf e21) (by decide) rfl ?_
        refine g_iln dX10_menders_56 rfl rfl ?_
        refine g_wne dX10_menders_57 (tgt := 67) rfl rfl rfl (fun q23 => ?_) (fun q23 => ?_)
        · replace h := xif_f q23 h
          refine g_drop_6 ?_
          exact hj19 l3_10 l4_11 h
        · replace h := xif_t q23 h
          refine g_il dX10_menders_60 rfl ?_
          refine g_istn_3 dX10_menders_62 (by decide) rfl ?_
          refine g_il dX10_menders_63 rfl ?_
          refine g_ist_4 dX10_menders_65 (by decide) rfl ?_
          refine g_drop_6 ?_
          exact hj19 (xbc l5_12) l5_12 h
theorem s_X10_menders {a1 : Int} {s0 : xW} {q : Int × xW} (h : F_X10_menders a1 s0 = some q) : xC 3 0 0 mX10_menders [vR 0, vI a1] 155 s0 (xRv (vI q.1) q.2) := by
  refine xC.of [vR 0, vI a1, vX, vX, vX, vX, vX] (by decide +kernel) (Nat.le_of_ble_eq_true rfl) rfl ?_
  unfold F_X10_menders at h
  refine g_iln dX10_menders_0 rfl rfl ?_
  obtain ⟨j1, ej2, h⟩ := xjn_e h
  have hj3 : j1  = some q → xG 3 0 0 mX10_menders 10 [vX, vX, vX, vX, vX, vX, vX] [] 155 s0 (xRv (vI q.1) q.2) := by
    intro  h
    rw [ej2] at h
    refine g_ic dX10_menders_10 ?_
    exact g_rI rfl dX10_menders_11 h
  clear ej2
  refine g_ylt dX10_menders_1 (tgt := 10) rfl rfl (fun q4 => ?_) (fun q4 => ?_)
  · replace h := xif_f q4 h
    refine g_drop_0 ?_
    refine g_drop_1 ?_
    exact hj3  h
  · replace h := xif_t q4 h
    refine g_iln dX10_menders_4 rfl rfl ?_
    refine g_bi dX10_menders_5 (by decide) ?_
    refine g_wle dX10_menders_7 (tgt := 12) rfl rfl (xw_id (by decide)) (fun q5 => ?_) (fun q5 => ?_)
    · replace h := xif_f q5 h
      refine g_aln dX10_menders_12 rfl rfl (by decide) ?_
      refine g_iln dX10_menders_13 rfl rfl ?_
      obtain ⟨r7, s8, e6, h⟩ := xbd_e h
      refine g_cV1v dX10_menders_14 ml_X10_343 rfl (s_X10_findNear e6) (by decide) rfl ?_
      refine g_istn_2 dX10_menders_17 (by decide) rfl ?_
      refine g_aln dX10_menders_18 rfl rfl (by decide) ?_
      refine g_getI 14 dX10_menders_19 fl_X10_93 rfl rfl ?_
      refine g_ic dX10_menders_22 ?_
      refine g_iadd dX10_menders_23 ?_
      refine g_istn_3 dX10_menders_24 (by decide) rfl ?_
      refine g_ic dX10_menders_25 ?_
      refine g_ist_4 dX10_menders_26 (by decide) rfl ?_
      refine g_ic dX10_menders_28 ?_
      refine g_ist_5 dX10_menders_29 (by decide) rfl ?_
      refine g_drop_1 ?_
      refine s_X10_menders_31 (fun l3_27 l4_28 l5_29 h => ?_) xN _ _ _ h
      refine g_aln dX10_menders_73 rfl rfl (by decide) ?_
      refine g_getC 3 dX10_menders_74 fl_X10_19 rfl (by decide) ?_
      refine g_il dX10_menders_77 rfl ?_
      refine g_wi2l dX10_menders_79 rfl ?_
      obtain ⟨s31, e30, h⟩ := xbp_e h
      refine g_cV10 dX10_menders_80 ml_X10_286 rfl (s_X6_tell e30) (by decide) rfl ?_
      refine g_iln dX10_menders_83 rfl rfl ?_
      exact g_rI rfl dX10_menders_84 h
    · replace h := xif_t q5 h
      refine g_drop_0 ?_
      refine g_drop_1 ?_
      exact hj3  h
theorem dX10_middle_0 : decode cX10_middle 0 = .ok (.aload_n 0, 1) := by decide +kernel
theorem dX10_middle_1 : decode cX10_middle 1 = .ok (.getfield 93, 3) := by decide +kernel
theorem dX10_middle_4 : decode cX10_middle 4 = .ok (.ifCond .ne 6, 3) := by decide +kernel
theorem dX10_middle_7 : decode cX10_middle 7 = .ok (.bipush (-2), 2) := by decide +kernel
theorem dX10_middle_9 : decode cX10_middle 9 = .ok (.ireturn, 1) := by decide +kernel
theorem dX10_middle_10 : decode cX10_middle 10 = .ok (.iconst 0, 1) := by decide +kernel
theorem dX10_middle_11 : decode cX10_middle 11 = .ok (.istore_n 1, 1) := by decide +kernel
theorem dX10_middle_12 : decode cX10_middle 12 = .ok (.iconst (-1), 1) := by decide +kernel
theorem dX10_middle_13 : decode cX10_middle 13 = .ok (.istore_n 2, 1) := by decide +kernel
theorem dX10_middle_14 : decode cX10_middle 14 = .ok (.iconst 0, 1) := by decide +kernel
theorem dX10_middle_15 : decode cX10_middle 15 = .ok (.istore_n 3, 1) := by decide +kernel
theorem dX10_middle_16 : decode cX10_middle 16 = .ok (.iload_n 3, 1) := by decide +kernel
theorem dX10_middle_17 : decode cX10_middle 17 = .ok (.bipush 100, 2) := by decide +kernel
theorem dX10_middle_19 : decode cX10_middle 19 = .ok (.if_icmp .ge 47, 3) := by decide +kernel
theorem dX10_middle_22 : decode cX10_middle 22 = .ok (.aload_n 0, 1) := by decide +kernel
theorem dX10_middle_23 : decode cX10_middle 23 = .ok (.aload_n 0, 1) := by decide +kernel
theorem dX10_middle_24 : decode cX10_middle 24 = .ok (.getfield 36, 3) := by decide +kernel
theorem dX10_middle_27 : decode cX10_middle 27 = .ok (.iload_n 3, 1) := by decide +kernel
theorem dX10_middle_28 : decode cX10_middle 28 = .ok (.aload_n 0, 1) := by decide +kernel
theorem dX10_middle_29 : decode cX10_middle 29 = .ok (.getfield 46, 3) := by decide +kernel
theorem dX10_middle_32 : decode cX10_middle 32 = .ok (.getfield 277, 3) := by decide +kernel
theorem dX10_middle_35 : decode cX10_middle 35 = .ok (.invokevirtual 305, 3) := by decide +kernel
theorem dX10_middle_38 : decode cX10_middle 38 = .ok (.aload_n 0, 1) := by decide +kernel
theorem dX10_middle_39 : decode cX10_middle 39 = .ok (.invokevirtual 312, 3) := by decide +kernel
theorem dX10_middle_42 : decode cX10_middle 42 = .ok (.istore 4, 2) := by decide +kernel
theorem dX10_middle_44 : decode cX10_middle 44 = .ok (.iload_n 2, 1) := by decide +kernel
theorem dX10_middle_45 : decode cX10_middle 45 = .ok (.iconst (-1), 1) := by decide +kernel
theorem dX10_middle_46 : decode cX10_middle 46 = .ok (.if_icmp .eq 9, 3) := by decide +kernel
theorem dX10_middle_49 : decode cX10_middle 49 = .ok (.iload 4, 2) := by decide +kernel
theorem dX10_middle_51 : decode cX10_middle 51 = .ok (.iload_n 1, 1) := by decide +kernel
theorem dX10_middle_52 : decode cX10_middle 52 = .ok (.if_icmp .ge 8, 3) := by decide +kernel
theorem dX10_middle_55 : decode cX10_middle 55 = .ok (.iload 4, 2) := by decide +kernel
theorem dX10_middle_57 : decode cX10_middle 57 = .ok (.istore_n 1, 1) := by decide +kernel
theorem dX10_middle_58 : decode cX10_middle 58 = .ok (.iload_n 3, 1) := by decide +kernel
theorem dX10_middle_59 : decode cX10_middle 59 = .ok (.istore_n 2, 1) := by decide +kernel
theorem dX10_middle_60 : decode cX10_middle 60 = .ok (.iinc 3 1, 3) := by decide +kernel
theorem dX10_middle_63 : decode cX10_middle 63 = .ok (.goto (-47), 3) := by decide +kernel
theorem dX10_middle_66 : decode cX10_middle 66 = .ok (.aload_n 0, 1) := by decide +kernel
theorem dX10_middle_67 : decode cX10_middle 67 = .ok (.getfield 19, 3) := by decide +kernel
theorem dX10_middle_70 : decode cX10_middle 70 = .ok (.iload_n 2, 1) := by decide +kernel
theorem dX10_middle_71 : decode cX10_middle 71 = .ok (.bipush 10, 2) := by decide +kernel
theorem dX10_middle_73 : decode cX10_middle 73 = .ok (.idiv, 1) := by decide +kernel
theorem dX10_middle_74 : decode cX10_middle 74 = .ok (.i2l, 1) := by decide +kernel
theorem dX10_middle_75 : decode cX10_middle 75 = .ok (.iload_n 2, 1) := by decide +kernel
theorem dX10_middle_76 : decode cX10_middle 76 = .ok (.bipush 10, 2) := by decide +kernel
theorem dX10_middle_78 : decode cX10_middle 78 = .ok (.irem, 1) := by decide +kernel
theorem dX10_middle_79 : decode cX10_middle 79 = .ok (.i2l, 1) := by decide +kernel
theorem dX10_middle_80 : decode cX10_middle 80 = .ok (.invokevirtual 242, 3) := by decide +kernel
theorem dX10_middle_83 : decode cX10_middle 83 = .ok (.iload_n 1, 1) := by decide +kernel
theorem dX10_middle_84 : decode cX10_middle 84 = .ok (.ireturn, 1) := by decide +kernel
theorem s_X10_middle_16 {q : Int × xW} {k : Int → Int → Int → xW → Option (Int × xW)} (hk : ∀ (l1_22 : Int) (l2_23 : Int) (l3_24 : Int) (s25 : xW), k l1_22 l2_23 l3_24 s25 = some q → xG 4 0 0 mX10_middle 66 [vR 0, vI l1_22, vI l2_23, vI l3_24, vX] [] 155 s25 (xRv (vI q.1) q.2)) : ∀ (f : Nat) (l1_2 : Int) (l2_3 : Int) (l3_4 : Int) (s5 : xW), F_X10_middle_16  f l1_2 l2_3 l3_4 s5 k = some q → xG 4 0 0 mX10_middle 16 [vR 0, vI l1_2, vI l2_3, vI l3_4, vX] [] 155 s5 (xRv (vI q.1) q.2) := by
  intro f
  induction f with
  | zero => intro l1_2 l2_3 l3_4 s5 h; cases h
  | succ f ih =>
    intro l1_2 l2_3 l3_4 s5 h
    unfold F_X10_middle_16 at h
    refine g_iln dX10_middle_16 rfl rfl ?_
    refine g_bi dX10_middle_17 (by decide) ?_
    refine g_wge dX10_middle_19 (tgt := 66) rfl rfl (xw_id (by decide)) (fun q6 => ?_) (fun q6 => ?_)
    · replace h := xif_f q6 h
      exact hk l1_2 l2_3 l3_4 s5 h
    · replace h := xif_t q6 h
      refine g_aln dX10_middle_22 rfl rfl (by decide) ?_
      refine g_aln dX10_middle_23 rfl rfl (by decide) ?_
      obtain ⟨hg7, h⟩ := xgd_e h
      refine g_getR 4 dX10_middle_24 fl_X10_36 rfl rfl ?_
      refine g_iln dX10_middle_27 rfl rfl ?_
      refine g_aln dX10_middle_28 rfl rfl (by decide) ?_
      refine g_getC 17 dX10_middle_29 fl_X10_46 rfl (by decide) ?_
      refine g_getI 5 dX10_middle_32 fl_X10_277 rfl rfl ?_
      obtain ⟨s9, e8, h⟩ := xbp_e h
      refine g_cV30 dX10_middle_35 ml_X10_305 rfl (s_X10_planFor e8) (by decide) rfl ?_
      refine g_aln dX10_middle_38 rfl rfl (by decide) ?_
      obtain ⟨r11, e10, h⟩ := xbp_e h
      refine g_cV0v dX10_middle_39 ml_X10_312 rfl (s_X10_lastMinute e10) (by decide) rfl ?_
      refine g_ist_4 dX10_middle_42 (by decide) rfl ?_
      refine g_iln dX10_middle_44 rfl rfl ?_
      refine g_ic dX10_middle_45 ?_
      obtain ⟨j14, ej15, h⟩ := xjn_e h
      have hj16 : ∀ (l1_12 : Int) (l2_13 : Int), j14 l1_12 l2_13 = some q → xG 4 0 0 mX10_middle 60 [vR 0, vI l1_12, vI l2_13, vI l3_4, vX] [] 155 s9 (xRv (vI q.1) q.2) := by
        intro l1_12 l2_13 h
        rw [ej15] at h
        refine g_inc_3 dX10_middle_60 (by decide) rfl ?_
        refine g_goto dX10_middle_63 (tgt := 16) rfl ?_
        exact ih l1_12 l2_13 (l3_4 + 1) s9 h
      clear ej15
      obtain ⟨j17, ej18, h⟩ := xjn_e h
      have hj19 : j17  = some q → xG 4 0 0 mX10_middle 55 [vR 0, vX, vX, vI l3_4, vI r11] [] 155 s9 (xRv (vI q.1) q.2) := by
        intro  h
        rw [ej18] at h
        refine g_il dX10_middle_55 rfl ?_
        refine g_istn_1 dX10_middle_57 (by decide) rfl ?_
        refine g_iln dX10_middle_58 rfl rfl ?_
        refine g_istn_2 dX10_middle_59 (by decide) rfl ?_
        refine g_drop_4 ?_
        exact hj16 r11 l3_4 h
      clear ej18
      refine g_weq dX10_middle_46 (tgt := 55) rfl rfl (xw_id (by decide)) (fun q20 => ?_) (fun q20 => ?_)
      · replace h := xif_f q20 h
        refine g_drop_1 ?_
        refine g_drop_2 ?_
        exact hj19  h
      · replace h := xif_t q20 h
        refine g_il dX10_middle_49 rfl ?_
        refine g_iln dX10_middle_51 rfl rfl ?_
        refine g_wge dX10_middle_52 (tgt := 60) rfl rfl rfl (fun q21 => ?_) (fun q21 => ?_)
        · replace h := xif_f q21 h
          refine g_drop_4 ?_
          exact hj16 l1_2 l2_3 h
        · replace h := xif_t q21 h
          refine g_drop_1 ?_
          refine g_drop_2 ?_
          exact hj19  h
theorem s_X10_middle {s0 : xW} {q : Int × xW} (h : F_X10_middle  s0 = some q) : xC 4 0 0 mX10_middle [vR 0] 155 s0 (xRv (vI q.1) q.2) := by
  refine xC.of [vR 0, vX, vX, vX, vX] (by decide +kernel) (Nat.le_of_ble_eq_true rfl) rfl ?_
  unfold F_X10_middle at h
  refine g_aln dX10_middle_0 rfl rfl (by decide) ?_
  refine g_getI 14 dX10_middle_1 fl_X10_93 rfl rfl ?_
  refine g_yne dX10_middle_4 (tgt := 10) rfl rfl (fun q1 => ?_) (fun q1 => ?_)
  · replace h := xif_f q1 h
    refine g_ic dX10_middle_10 ?_
    refine g_istn_1 dX10_middle_11 (by decide) rfl ?_
    refine g_ic dX10_middle_12 ?_
    refine g_istn_2 dX10_middle_13 (by decide) rfl ?_
    refine g_ic dX10_middle_14 ?_
    refine g_istn_3 dX10_middle_15 (by decide) rfl ?_
    refine s_X10_middle_16 (fun l1_26 l2_27 l3_28 s29 h => ?_) xN _ _ _ _ h
    refine g_aln dX10_middle_66 rfl rfl (by decide) ?_
    refine g_getC 3 dX10_middle_67 fl_X10_19 rfl (by decide) ?_
    refine g_iln dX10_middle_70 rfl rfl ?_
    refine g_bi dX10_middle_71 (by decide) ?_
    refine g_wdiv dX10_middle_73 rfl (xw_id (by decide)) (by decide) ?_
    refine g_wi2l dX10_middle_74 rfl ?_
    refine g_iln dX10_middle_75 rfl rfl ?_
    refine g_bi dX10_middle_76 (by decide) ?_
    refine g_wrem dX10_middle_78 rfl (xw_id (by decide)) (by decide) ?_
    refine g_wi2l dX10_middle_79 rfl ?_
    obtain ⟨s31, e30, h⟩ := xbp_e h
    refine g_cV20 dX10_middle_80 ml_X10_242 rfl (s_X6_tell_ e30) (by decide) rfl ?_
    refine g_iln dX10_middle_83 rfl rfl ?_
    exact g_rI rfl dX10_middle_84 h
  · replace h := xif_t q1 h
    refine g_bi dX10_middle_7 (by decide) ?_
    exact g_rI rfl dX10_middle_9 h
theorem dX10_tellFraction_0 : decode cX10_tellFraction 0 = .ok (.lload_n 3, 1) := by decide +kernel
theorem dX10_tellFraction_1 : decode cX10_tellFraction 1 = .ok (.lstore 5, 2) := by decide +kernel
theorem dX10_tellFraction_3 : decode cX10_tellFraction 3 = .ok (.lload_n 1, 1) := by decide +kernel
theorem dX10_tellFraction_4 : decode cX10_tellFraction 4 = .ok (.lstore 7, 2) := by decide +kernel
theorem dX10_tellFraction_6 : decode cX10_tellFraction 6 = .ok (.iconst 0, 1) := by decide +kernel
theorem dX10_tellFraction_7 : decode cX10_tellFraction 7 = .ok (.istore 9, 2) := by decide +kernel
theorem dX10_tellFraction_9 : decode cX10_tellFraction 9 = .ok (.iload 9, 2) := by decide +kernel
theorem dX10_tellFraction_11 : decode cX10_tellFraction 11 = .ok (.sipush 128, 3) := by decide +kernel
theorem dX10_tellFraction_14 : decode cX10_tellFraction 14 = .ok (.if_icmp .ge 31, 3) := by decide +kernel
theorem dX10_tellFraction_17 : decode cX10_tellFraction 17 = .ok (.lload 7, 2) := by decide +kernel
theorem dX10_tellFraction_19 : decode cX10_tellFraction 19 = .ok (.lconst 0, 1) := by decide +kernel
theorem dX10_tellFraction_20 : decode cX10_tellFraction 20 = .ok (.lcmp, 1) := by decide +kernel
theorem dX10_tellFraction_21 : decode cX10_tellFraction 21 = .ok (.ifCond .eq 24, 3) := by decide +kernel
theorem dX10_tellFraction_24 : decode cX10_tellFraction 24 = .ok (.lload 5, 2) := by decide +kernel
theorem dX10_tellFraction_26 : decode cX10_tellFraction 26 = .ok (.lload 7, 2) := by decide +kernel
theorem dX10_tellFraction_28 : decode cX10_tellFraction 28 = .ok (.lrem, 1) := by decide +kernel
theorem dX10_tellFraction_29 : decode cX10_tellFraction 29 = .ok (.lstore 10, 2) := by decide +kernel
theorem dX10_tellFraction_31 : decode cX10_tellFraction 31 = .ok (.lload 7, 2) := by decide +kernel
theorem dX10_tellFraction_33 : decode cX10_tellFraction 33 = .ok (.lstore 5, 2) := by decide +kernel
theorem dX10_tellFraction_35 : decode cX10_tellFraction 35 = .ok (.lload 10, 2) := by decide +kernel
theorem dX10_tellFraction_37 : decode cX10_tellFraction 37 = .ok (.lstore 7, 2) := by decide +kernel
theorem dX10_tellFraction_39 : decode cX10_tellFraction 39 = .ok (.iinc 9 1, 3) := by decide +kernel
theorem dX10_tellFraction_42 : decode cX10_tellFraction 42 = .ok (.goto (-33), 3) := by decide +kernel
theorem dX10_tellFraction_45 : decode cX10_tellFraction 45 = .ok (.lload 5, 2) := by decide +kernel
theorem dX10_tellFraction_47 : decode cX10_tellFraction 47 = .ok (.lconst 0, 1) := by decide +kernel
theorem dX10_tellFraction_48 : decode cX10_tellFraction 48 = .ok (.lcmp, 1) := by decide +kernel
theorem dX10_tellFraction_49 : decode cX10_tellFraction 49 = .ok (.ifCond .eq 18, 3) := by decide +kernel
theorem dX10_tellFraction_52 : decode cX10_tellFraction 52 = .ok (.aload_n 0, 1) := by decide +kernel
theorem dX10_tellFraction_53 : decode cX10_tellFraction 53 = .ok (.getfield 19, 3) := by decide +kernel
theorem dX10_tellFraction_56 : decode cX10_tellFraction 56 = .ok (.lload_n 1, 1) := by decide +kernel
theorem dX10_tellFraction_57 : decode cX10_tellFraction 57 = .ok (.lload 5, 2) := by decide +kernel
theorem dX10_tellFraction_59 : decode cX10_tellFraction 59 = .ok (.ldiv, 1) := by decide +kernel
theorem dX10_tellFraction_60 : decode cX10_tellFraction 60 = .ok (.lload_n 3, 1) := by decide +kernel
theorem dX10_tellFraction_61 : decode cX10_tellFraction 61 = .ok (.lload 5, 2) := by decide +kernel
theorem dX10_tellFraction_63 : decode cX10_tellFraction 63 = .ok (.ldiv, 1) := by decide +kernel
theorem dX10_tellFraction_64 : decode cX10_tellFraction 64 = .ok (.invokevirtual 242, 3) := by decide +kernel
theorem dX10_tellFraction_67 : decode cX10_tellFraction 67 = .ok (.return_, 1) := by decide +kernel
theorem s_X10_tellFraction_9 {s6 : xW} {l1_1 l3_2 : Int} {q : xW} {k : Int → Int → Int → Option (xW)} (hk : ∀ (l5_10 : Int) (l7_11 : Int) (l9_12 : Int), k l5_10 l7_11 l9_12 = some q → xG 3 0 0 mX10_tellFraction 45 [vR 0, vL l1_1, vX, vL l3_2, vX, vL l5_10, vX, vL l7_11, vX, vI l9_12, vX, vX] [] 155 s6 (xR0 q)) : ∀ (f : Nat) (l5_3 : Int) (l7_4 : Int) (l9_5 : Int), F_X10_tellFraction_9 l1_1 l3_2 s6 f l5_3 l7_4 l9_5 k = some q → xG 3 0 0 mX10_tellFraction 9 [vR 0, vL l1_1, vX, vL l3_2, vX, vL l5_3, vX, vL l7_4, vX, vI l9_5, vX, vX] [] 155 s6 (xR0 q) := by
  intro f
  induction f with
  | zero => intro l5_3 l7_4 l9_5 h; cases h
  | succ f ih =>
    intro l5_3 l7_4 l9_5 h
    unfold F_X10_tellFraction_9 at h
    refine g_il dX10_tellFraction_9 rfl ?_
    refine g_si dX10_tellFraction_11 (by decide) ?_
    refine g_wge dX10_tellFraction_14 (tgt := 45) rfl rfl (xw_id (by decide)) (fun q7 => ?_) (fun q7 => ?_)
    · replace h := xif_f q7 h
      exact hk l5_3 l7_4 l9_5 h
    · replace h := xif_t q7 h
      refine g_ll dX10_tellFraction_17 rfl ?_
      refine g_lc dX10_tellFraction_19 (w := 0) rfl ?_
      refine g_veq dX10_tellFraction_20 dX10_tellFraction_21 (tgt := 45) rfl rfl (xwl_id (by decide)) (fun q8 => ?_) (fun q8 => ?_)
      · replace h := xif_f q8 h
        exact hk l5_3 l7_4 l9_5 h
      · replace h := xif_t q8 h
        refine g_ll dX10_tellFraction_24 rfl ?_
        refine g_ll dX10_tellFraction_26 rfl ?_
        obtain ⟨hg9, h⟩ := xgd_e h
        refine g_wlrem dX10_tellFraction_28 rfl rfl hg9 ?_
        refine g_lst_10 dX10_tellFraction_29 (by decide) rfl ?_
        refine g_ll dX10_tellFraction_31 rfl ?_
        refine g_lst_5 dX10_tellFraction_33 (by decide) rfl ?_
        refine g_ll dX10_tellFraction_35 rfl ?_
        refine g_lst_7 dX10_tellFraction_37 (by decide) rfl ?_
        refine g_inc_9 dX10_tellFraction_39 (by decide) rfl ?_
        refine g_goto dX10_tellFraction_42 (tgt := 9) rfl ?_
        refine g_drop_10 ?_
        exact ih l7_4 (Int.tmod (xwl l5_3) (xwl l7_4)) (l9_5 + 1) h
theorem s_X10_tellFraction {a1 a3 : Int} {s0 : xW} {q : xW} (h : F_X10_tellFraction a1 a3 s0 = some q) : xC 3 0 0 mX10_tellFraction [vR 0, vL a1, vL a3] 155 s0 (xR0 q) := by
  refine xC.of [vR 0, vL a1, vX, vL a3, vX, vX, vX, vX, vX, vX, vX, vX] (by decide +kernel) (Nat.le_of_ble_eq_true rfl) rfl ?_
  unfold F_X10_tellFraction at h
  refine g_lln dX10_tellFraction_0 rfl rfl ?_
  refine g_lst_5 dX10_tellFraction_1 (by decide) rfl ?_
  refine g_lln dX10_tellFraction_3 rfl rfl ?_
  refine g_lst_7 dX10_tellFraction_4 (by decide) rfl ?_
  refine g_ic dX10_tellFraction_6 ?_
  refine g_ist_9 dX10_tellFraction_7 (by decide) rfl ?_
  refine s_X10_tellFraction_9 (fun l5_13 l7_14 l9_15 h => ?_) xN _ _ _ h
  refine g_ll dX10_tellFraction_45 rfl ?_
  refine g_lc dX10_tellFraction_47 (w := 0) rfl ?_
  refine g_veq dX10_tellFraction_48 dX10_tellFraction_49 (tgt := 67) rfl rfl (xwl_id (by decide)) (fun q16 => ?_) (fun q16 => ?_)
  · replace h := xif_f q16 h
    exact g_rV rfl dX10_tellFraction_67 h
  · replace h := xif_t q16 h
    refine g_aln dX10_tellFraction_52 rfl rfl (by decide) ?_
    refine g_getC 3 dX10_tellFraction_53 fl_X10_19 rfl (by decide) ?_
    refine g_lln dX10_tellFraction_56 rfl rfl ?_
    refine g_ll dX10_tellFraction_57 rfl ?_
    obtain ⟨hg17, h⟩ := xgd_e h
    refine g_wldiv dX10_tellFraction_59 rfl rfl hg17 ?_
    refine g_lln dX10_tellFraction_60 rfl rfl ?_
    refine g_ll dX10_tellFraction_61 rfl ?_
    obtain ⟨hg18, h⟩ := xgd_e h
    refine g_wldiv dX10_tellFraction_63 rfl rfl hg18 ?_
    obtain ⟨s20, e19, h⟩ := xbp_e h
    refine g_cV20 dX10_tellFraction_64 ml_X10_242 rfl (s_X6_tell_ e19) (by decide) rfl ?_
    exact g_rV rfl dX10_tellFraction_67 h
theorem dX10_misfires_0 : decode cX10_misfires 0 = .ok (.iload_n 1, 1) := by decide +kernel
theorem dX10_misfires_1 : decode cX10_misfires 1 = .ok (.iconst 1, 1) := by decide +kernel
theorem dX10_misfires_2 : decode cX10_misfires 2 = .ok (.if_icmp .lt 30, 3) := by decide +kernel
theorem dX10_misfires_5 : decode cX10_misfires 5 = .ok (.iload_n 1, 1) := by decide +kernel
theorem dX10_misfires_6 : decode cX10_misfires 6 = .ok (.bipush 15, 2) := by decide +kernel
theorem dX10_misfires_8 : decode cX10_misfires 8 = .ok (.if_icmp .gt 24, 3) := by decide +kernel
theorem dX10_misfires_11 : decode cX10_misfires 11 = .ok (.iload_n 2, 1) := by decide +kernel
theorem dX10_misfires_12 : decode cX10_misfires 12 = .ok (.iconst 1, 1) := by decide +kernel
theorem dX10_misfires_13 : decode cX10_misfires 13 = .ok (.if_icmp .lt 19, 3) := by decide +kernel
theorem dX10_misfires_16 : decode cX10_misfires 16 = .ok (.iload_n 2, 1) := by decide +kernel
theorem dX10_misfires_17 : decode cX10_misfires 17 = .ok (.bipush 15, 2) := by decide +kernel
theorem dX10_misfires_19 : decode cX10_misfires 19 = .ok (.if_icmp .gt 13, 3) := by decide +kernel
theorem dX10_misfires_22 : decode cX10_misfires 22 = .ok (.iload_n 3, 1) := by decide +kernel
theorem dX10_misfires_23 : decode cX10_misfires 23 = .ok (.ifCond .lt 9, 3) := by decide +kernel
theorem dX10_misfires_26 : decode cX10_misfires 26 = .ok (.iload_n 3, 1) := by decide +kernel
theorem dX10_misfires_27 : decode cX10_misfires 27 = .ok (.bipush 10, 2) := by decide +kernel
theorem dX10_misfires_29 : decode cX10_misfires 29 = .ok (.if_icmp .le 5, 3) := by decide +kernel
theorem dX10_misfires_32 : decode cX10_misfires 32 = .ok (.iconst (-1), 1) := by decide +kernel
theorem dX10_misfires_33 : decode cX10_misfires 33 = .ok (.ireturn, 1) := by decide +kernel
theorem dX10_misfires_34 : decode cX10_misfires 34 = .ok (.aload_n 0, 1) := by decide +kernel
theorem dX10_misfires_35 : decode cX10_misfires 35 = .ok (.getfield 104, 3) := by decide +kernel
theorem dX10_misfires_38 : decode cX10_misfires 38 = .ok (.lconst 0, 1) := by decide +kernel
theorem dX10_misfires_39 : decode cX10_misfires 39 = .ok (.invokestatic 354, 3) := by decide +kernel
theorem dX10_misfires_42 : decode cX10_misfires 42 = .ok (.aload_n 0, 1) := by decide +kernel
theorem dX10_misfires_43 : decode cX10_misfires 43 = .ok (.getfield 104, 3) := by decide +kernel
theorem dX10_misfires_46 : decode cX10_misfires 46 = .ok (.iconst 0, 1) := by decide +kernel
theorem dX10_misfires_47 : decode cX10_misfires 47 = .ok (.lconst 1, 1) := by decide +kernel
theorem dX10_misfires_48 : decode cX10_misfires 48 = .ok (.lastore, 1) := by decide +kernel
theorem dX10_misfires_49 : decode cX10_misfires 49 = .ok (.lconst 1, 1) := by decide +kernel
theorem dX10_misfires_50 : decode cX10_misfires 50 = .ok (.lstore 4, 2) := by decide +kernel
theorem dX10_misfires_52 : decode cX10_misfires 52 = .ok (.iconst 0, 1) := by decide +kernel
theorem dX10_misfires_53 : decode cX10_misfires 53 = .ok (.istore 6, 2) := by decide +kernel
theorem dX10_misfires_55 : decode cX10_misfires 55 = .ok (.iload 6, 2) := by decide +kernel
theorem dX10_misfires_57 : decode cX10_misfires 57 = .ok (.iload_n 1, 1) := by decide +kernel
theorem dX10_misfires_58 : decode cX10_misfires 58 = .ok (.if_icmp .ge 23, 3) := by decide +kernel
theorem dX10_misfires_61 : decode cX10_misfires 61 = .ok (.aload_n 0, 1) := by decide +kernel
theorem dX10_misfires_62 : decode cX10_misfires 62 = .ok (.iload_n 2, 1) := by decide +kernel
theorem dX10_misfires_63 : decode cX10_misfires 63 = .ok (.iload_n 3, 1) := by decide +kernel
theorem dX10_misfires_64 : decode cX10_misfires 64 = .ok (.invokevirtual 360, 3) := by decide +kernel
theorem dX10_misfires_67 : decode cX10_misfires 67 = .ok (.lload 4, 2) := by decide +kernel
theorem dX10_misfires_69 : decode cX10_misfires 69 = .ok (.ldc2_w 364, 3) := by decide +kernel
theorem dX10_misfires_72 : decode cX10_misfires 72 = .ok (.lmul, 1) := by decide +kernel
theorem dX10_misfires_73 : decode cX10_misfires 73 = .ok (.lstore 4, 2) := by decide +kernel
theorem dX10_misfires_75 : decode cX10_misfires 75 = .ok (.iinc 6 1, 3) := by decide +kernel
theorem dX10_misfires_78 : decode cX10_misfires 78 = .ok (.goto (-23), 3) := by decide +kernel
theorem dX10_misfires_81 : decode cX10_misfires 81 = .ok (.aload_n 0, 1) := by decide +kernel
theorem dX10_misfires_82 : decode cX10_misfires 82 = .ok (.aload_n 0, 1) := by decide +kernel
theorem dX10_misfires_83 : decode cX10_misfires 83 = .ok (.iload_n 2, 1) := by decide +kernel
theorem dX10_misfires_84 : decode cX10_misfires 84 = .ok (.invokevirtual 366, 3) := by decide +kernel
theorem dX10_misfires_87 : decode cX10_misfires 87 = .ok (.lload 4, 2) := by decide +kernel
theorem dX10_misfires_89 : decode cX10_misfires 89 = .ok (.invokevirtual 370, 3) := by decide +kernel
theorem dX10_misfires_92 : decode cX10_misfires 92 = .ok (.iconst 0, 1) := by decide +kernel
theorem dX10_misfires_93 : decode cX10_misfires 93 = .ok (.ireturn, 1) := by decide +kernel
theorem s_X10_misfires_55 {l1_14 l2_15 l3_16 : Int} {q : Int × xW} {k : Int → Int → xW → Option (Int × xW)} (hk : ∀ (l4_23 : Int) (l6_24 : Int) (s25 : xW), k l4_23 l6_24 s25 = some q → xG 4 0 0 mX10_misfires 81 [vR 0, vI l1_14, vI l2_15, vI l3_16, vL l4_23, vX, vI l6_24] [] 155 s25 (xRv (vI q.1) q.2)) : ∀ (f : Nat) (l4_17 : Int) (l6_18 : Int) (s19 : xW), F_X10_misfires_55 l1_14 l2_15 l3_16 f l4_17 l6_18 s19 k = some q → xG 4 0 0 mX10_misfires 55 [vR 0, vI l1_14, vI l2_15, vI l3_16, vL l4_17, vX, vI l6_18] [] 155 s19 (xRv (vI q.1) q.2) := by
  intro f
  induction f with
  | zero => intro l4_17 l6_18 s19 h; cases h
  | succ f ih =>
    intro l4_17 l6_18 s19 h
    unfold F_X10_misfires_55 at h
    refine g_il dX10_misfires_55 rfl ?_
    refine g_iln dX10_misfires_57 rfl rfl ?_
    refine g_wge dX10_misfires_58 (tgt := 81) rfl rfl rfl (fun q20 => ?_) (fun q20 => ?_)
    · replace h := xif_f q20 h
      exact hk l4_17 l6_18 s19 h
    · replace h := xif_t q20 h
      refine g_aln dX10_misfires_61 rfl rfl (by decide) ?_
      refine g_iln dX10_misfires_62 rfl rfl ?_
      refine g_iln dX10_misfires_63 rfl rfl ?_
      obtain ⟨s22, e21, h⟩ := xbp_e h
      refine g_cV20 dX10_misfires_64 ml_X10_360 rfl (s_X10_fireOnce e21) (by decide) rfl ?_
      refine g_ll dX10_misfires_67 rfl ?_
      refine g_ldc2 dX10_misfires_69 ct_X10_364 (w := 10) rfl ?_
      refine g_lmul dX10_misfires_72 ?_
      refine g_lst_4 dX10_misfires_73 (by decide) rfl ?_
      refine g_inc_6 dX10_misfires_75 (by decide) rfl ?_
      refine g_goto dX10_misfires_78 (tgt := 55) rfl ?_
      exact ih (l4_17 * 10) (l6_18 + 1) s22 h
theorem s_X10_misfires {a1 a2 a3 : Int} {s0 : xW} {q : Int × xW} (h : F_X10_misfires a1 a2 a3 s0 = some q) : xC 4 0 0 mX10_misfires [vR 0, vI a1, vI a2, vI a3] 155 s0 (xRv (vI q.1) q.2) := by
  refine xC.of [vR 0, vI a1, vI a2, vI a3, vX, vX, vX] (by decide +kernel) (Nat.le_of_ble_eq_true rfl) rfl ?_
  unfold F_X10_misfires at h
  refine g_iln dX10_misfires_0 rfl rfl ?_
  refine g_ic dX10_misfires_1 ?_
  obtain ⟨j1, ej2, h⟩ := xjn_e h
  have hj3 : j1  = some q → xG 4 0 0 mX10_misfires 32 [vX, vX, vX, vX, vX, vX, vX] [] 155 s0 (xRv (vI q.1) q.2) := by
    intro  h
    rw [ej2] at h
    refine g_ic dX10_misfires_32 ?_
    exact g_rI rfl dX10_misfires_33 h
  clear ej2
  refine g_wlt dX10_misfires_2 (tgt := 32) rfl rfl (xw_id (by decide)) (fun q4 => ?_) (fun q4 => ?_)
  · replace h := xif_f q4 h
    refine g_drop_0 ?_
    refine g_drop_1 ?_
    refine g_drop_2 ?_
    refine g_drop_3 ?_
    exact hj3  h
  · replace h := xif_t q4 h
    refine g_iln dX10_misfires_5 rfl rfl ?_
    refine g_bi dX10_misfires_6 (by decide) ?_
    refine g_wgt dX10_misfires_8 (tgt := 32) rfl rfl (xw_id (by decide)) (fun q5 => ?_) (fun q5 => ?_)
    · replace h := xif_f q5 h
      refine g_drop_0 ?_
      refine g_drop_1 ?_
      refine g_drop_2 ?_
      refine g_drop_3 ?_
      exact hj3  h
    · replace h := xif_t q5 h
      refine g_iln dX10_misfires_11 rfl rfl ?_
      refine g_ic dX10_misfires_12 ?_
      refine g_wlt dX10_misfires_13 (tgt := 32) rfl rfl (xw_id (by decide)) (fun q6 => ?_) (fun q6 => ?_)
      · replace h := xif_f q6 h
        refine g_drop_0 ?_
        refine g_drop_1 ?_
        refine g_drop_2 ?_
        refine g_drop_3 ?_
        exact hj3  h
      · replace h := xif_t q6 h
        refine g_iln dX10_misfires_16 rfl rfl ?_
        refine g_bi dX10_misfires_17 (by decide) ?_
        refine g_wgt dX10_misfires_19 (tgt := 32) rfl rfl (xw_id (by decide)) (fun q7 => ?_) (fun q7 => ?_)
        · replace h := xif_f q7 h
          refine g_drop_0 ?_
          refine g_drop_1 ?_
          refine g_drop_2 ?_
          refine g_drop_3 ?_
          exact hj3  h
        · replace h := xif_t q7 h
          refine g_iln dX10_misfires_22 rfl rfl ?_
          refine g_ylt dX10_misfires_23 (tgt := 32) rfl rfl (fun q8 => ?_) (fun q8 => ?_)
          · replace h := xif_f q8 h
            refine g_drop_0 ?_
            refine g_drop_1 ?_
            refine g_drop_2 ?_
            refine g_drop_3 ?_
            exact hj3  h
          · replace h := xif_t q8 h
            refine g_iln dX10_misfires_26 rfl rfl ?_
            refine g_bi dX10_misfires_27 (by decide) ?_
            refine g_wle dX10_misfires_29 (tgt := 34) rfl rfl (xw_id (by decide)) (fun q9 => ?_) (fun q9 => ?_)
            · replace h := xif_f q9 h
              refine g_aln dX10_misfires_34 rfl rfl (by decide) ?_
              refine g_getC 108 dX10_misfires_35 fl_X10_104 rfl (by decide) ?_
              refine g_lc dX10_misfires_38 (w := 0) rfl ?_
              obtain ⟨s10, e11, h⟩ := xlt_e h
              refine h_fillL 16 dX10_misfires_39 fl_X10_354 rfl (by decide) (by decide) rfl e11 ?_
              refine g_aln dX10_misfires_42 rfl rfl (by decide) ?_
              refine g_getC 108 dX10_misfires_43 fl_X10_104 rfl (by decide) ?_
              refine g_ic dX10_misfires_46 ?_
              refine g_lc dX10_misfires_47 (w := 1) rfl ?_
              obtain ⟨s12, e13, h⟩ := xlt_e h
              refine h_last 16 dX10_misfires_48 rfl (by decide) (by decide) e13 ?_
              refine g_lc dX10_misfires_49 (w := 1) rfl ?_
              refine g_lst_4 dX10_misfires_50 (by decide) rfl ?_
              refine g_ic dX10_misfires_52 ?_
              refine g_ist_6 dX10_misfires_53 (by decide) rfl ?_
              refine s_X10_misfires_55 (fun l4_26 l6_27 s28 h => ?_) xN _ _ _ h
              refine g_aln dX10_misfires_81 rfl rfl (by decide) ?_
              refine g_aln dX10_misfires_82 rfl rfl (by decide) ?_
              refine g_iln dX10_misfires_83 rfl rfl ?_
              obtain ⟨r30, e29, h⟩ := xbp_e h
              refine g_cV1v dX10_misfires_84 ml_X10_366 rfl (s_X10_sumOfChances e29) (by decide) rfl ?_
              refine g_ll dX10_misfires_87 rfl ?_
              obtain ⟨s32, e31, h⟩ := xbp_e h
              refine g_cV20 dX10_misfires_89 ml_X10_370 rfl (s_X10_tellFraction e31) (by decide) rfl ?_
              refine g_ic dX10_misfires_92 ?_
              exact g_rI rfl dX10_misfires_93 h
            · replace h := xif_t q9 h
              refine g_drop_0 ?_
              refine g_drop_1 ?_
              refine g_drop_2 ?_
              refine g_drop_3 ?_
              exact hj3  h
theorem dX10_moves_0 : decode cX10_moves 0 = .ok (.aload_n 0, 1) := by decide +kernel
theorem dX10_moves_1 : decode cX10_moves 1 = .ok (.getfield 53, 3) := by decide +kernel
theorem dX10_moves_4 : decode cX10_moves 4 = .ok (.aload_n 0, 1) := by decide +kernel
theorem dX10_moves_5 : decode cX10_moves 5 = .ok (.getfield 46, 3) := by decide +kernel
theorem dX10_moves_8 : decode cX10_moves 8 = .ok (.invokevirtual 198, 3) := by decide +kernel
theorem dX10_moves_11 : decode cX10_moves 11 = .ok (.aload_n 0, 1) := by decide +kernel
theorem dX10_moves_12 : decode cX10_moves 12 = .ok (.aload_n 0, 1) := by decide +kernel
theorem dX10_moves_13 : decode cX10_moves 13 = .ok (.iload_n 1, 1) := by decide +kernel
theorem dX10_moves_14 : decode cX10_moves 14 = .ok (.iload_n 2, 1) := by decide +kernel
theorem dX10_moves_15 : decode cX10_moves 15 = .ok (.iload_n 3, 1) := by decide +kernel
theorem dX10_moves_16 : decode cX10_moves 16 = .ok (.invokevirtual 214, 3) := by decide +kernel
theorem dX10_moves_19 : decode cX10_moves 19 = .ok (.invokevirtual 205, 3) := by decide +kernel
theorem dX10_moves_22 : decode cX10_moves 22 = .ok (.ireturn, 1) := by decide +kernel
theorem s_X10_moves {a1 a2 a3 : Int} {s0 : xW} {q : Int × xW} (h : F_X10_moves a1 a2 a3 s0 = some q) : xC 3 0 0 mX10_moves [vR 0, vI a1, vI a2, vI a3] 155 s0 (xRv (vI q.1) q.2) := by
  refine xC.of [vR 0, vI a1, vI a2, vI a3] (by decide +kernel) (Nat.le_of_ble_eq_true rfl) rfl ?_
  unfold F_X10_moves at h
  refine g_aln dX10_moves_0 rfl rfl (by decide) ?_
  refine g_getC 21 dX10_moves_1 fl_X10_53 rfl (by decide) ?_
  refine g_aln dX10_moves_4 rfl rfl (by decide) ?_
  refine g_getC 17 dX10_moves_5 fl_X10_46 rfl (by decide) ?_
  obtain ⟨s2, e1, h⟩ := xbp_e h
  refine g_cV10 dX10_moves_8 ml_X10_198 rfl (s_X3_note e1) (by decide) rfl ?_
  refine g_aln dX10_moves_11 rfl rfl (by decide) ?_
  refine g_aln dX10_moves_12 rfl rfl (by decide) ?_
  refine g_iln dX10_moves_13 rfl rfl ?_
  refine g_iln dX10_moves_14 rfl rfl ?_
  refine g_iln dX10_moves_15 rfl rfl ?_
  obtain ⟨r4, s5, e3, h⟩ := xbd_e h
  refine g_cV3v dX10_moves_16 ml_X10_214 rfl (s_X10_move e3) (by decide) rfl ?_
  obtain ⟨r7, s8, e6, h⟩ := xbd_e h
  refine g_cV1v dX10_moves_19 ml_X10_205 rfl (s_X10_noted e6) (by decide) rfl ?_
  exact g_rI rfl dX10_moves_22 h
theorem dX10_order_0 : decode cX10_order 0 = .ok (.aload_n 0, 1) := by decide +kernel
theorem dX10_order_1 : decode cX10_order 1 = .ok (.invokevirtual 173, 3) := by decide +kernel
theorem dX10_order_4 : decode cX10_order 4 = .ok (.aload_n 0, 1) := by decide +kernel
theorem dX10_order_5 : decode cX10_order 5 = .ok (.getfield 75, 3) := by decide +kernel
theorem dX10_order_8 : decode cX10_order 8 = .ok (.invokevirtual 251, 3) := by decide +kernel
theorem dX10_order_11 : decode cX10_order 11 = .ok (.aload_n 0, 1) := by decide +kernel
theorem dX10_order_12 : decode cX10_order 12 = .ok (.getfield 19, 3) := by decide +kernel
theorem dX10_order_15 : decode cX10_order 15 = .ok (.invokevirtual 254, 3) := by decide +kernel
theorem dX10_order_18 : decode cX10_order 18 = .ok (.iconst 0, 1) := by decide +kernel
theorem dX10_order_19 : decode cX10_order 19 = .ok (.istore_n 1, 1) := by decide +kernel
theorem dX10_order_20 : decode cX10_order 20 = .ok (.iload_n 1, 1) := by decide +kernel
theorem dX10_order_21 : decode cX10_order 21 = .ok (.aload_n 0, 1) := by decide +kernel
theorem dX10_order_22 : decode cX10_order 22 = .ok (.getfield 75, 3) := by decide +kernel
theorem dX10_order_25 : decode cX10_order 25 = .ok (.getfield 131, 3) := by decide +kernel
theorem dX10_order_28 : decode cX10_order 28 = .ok (.if_icmp .ge 26, 3) := by decide +kernel
theorem dX10_order_31 : decode cX10_order 31 = .ok (.aload_n 0, 1) := by decide +kernel
theorem dX10_order_32 : decode cX10_order 32 = .ok (.getfield 19, 3) := by decide +kernel
theorem dX10_order_35 : decode cX10_order 35 = .ok (.aload_n 0, 1) := by decide +kernel
theorem dX10_order_36 : decode cX10_order 36 = .ok (.getfield 75, 3) := by decide +kernel
theorem dX10_order_39 : decode cX10_order 39 = .ok (.getfield 255, 3) := by decide +kernel
theorem dX10_order_42 : decode cX10_order 42 = .ok (.iload_n 1, 1) := by decide +kernel
theorem dX10_order_43 : decode cX10_order 43 = .ok (.iaload, 1) := by decide +kernel
theorem dX10_order_44 : decode cX10_order 44 = .ok (.i2l, 1) := by decide +kernel
theorem dX10_order_45 : decode cX10_order 45 = .ok (.invokevirtual 258, 3) := by decide +kernel
theorem dX10_order_48 : decode cX10_order 48 = .ok (.iinc 1 1, 3) := by decide +kernel
theorem dX10_order_51 : decode cX10_order 51 = .ok (.goto (-31), 3) := by decide +kernel
theorem dX10_order_54 : decode cX10_order 54 = .ok (.aload_n 0, 1) := by decide +kernel
theorem dX10_order_55 : decode cX10_order 55 = .ok (.getfield 75, 3) := by decide +kernel
theorem dX10_order_58 : decode cX10_order 58 = .ok (.getfield 131, 3) := by decide +kernel
theorem dX10_order_61 : decode cX10_order 61 = .ok (.ireturn, 1) := by decide +kernel
theorem s_X10_order_20 {q : Int × xW} {k : Int → xW → Option (Int × xW)} (hk : ∀ (l1_13 : Int) (s14 : xW), k l1_13 s14 = some q → xG 5 0 0 mX10_order 54 [vR 0, vI l1_13] [] 155 s14 (xRv (vI q.1) q.2)) : ∀ (f : Nat) (l1_7 : Int) (s8 : xW), F_X10_order_20  f l1_7 s8 k = some q → xG 5 0 0 mX10_order 20 [vR 0, vI l1_7] [] 155 s8 (xRv (vI q.1) q.2) := by
  intro f
  induction f with
  | zero => intro l1_7 s8 h; cases h
  | succ f ih =>
    intro l1_7 s8 h
    unfold F_X10_order_20 at h
    refine g_iln dX10_order_20 rfl rfl ?_
    refine g_aln dX10_order_21 rfl rfl (by decide) ?_
    refine g_getC 92 dX10_order_22 fl_X10_75 rfl (by decide) ?_
    refine g_getI 0 dX10_order_25 fl_X10_131 rfl rfl ?_
    refine g_wge dX10_order_28 (tgt := 54) rfl rfl rfl (fun q9 => ?_) (fun q9 => ?_)
    · replace h := xif_f q9 h
      exact hk l1_7 s8 h
    · replace h := xif_t q9 h
      refine g_aln dX10_order_31 rfl rfl (by decide) ?_
      refine g_getC 3 dX10_order_32 fl_X10_19 rfl (by decide) ?_
      refine g_aln dX10_order_35 rfl rfl (by decide) ?_
      refine g_getC 92 dX10_order_36 fl_X10_75 rfl (by decide) ?_
      refine g_getC 97 dX10_order_39 fl_X10_255 rfl (by decide) ?_
      refine g_iln dX10_order_42 rfl rfl ?_
      obtain ⟨hg10, h⟩ := xgd_e h
      refine g_iald 8 dX10_order_43 rfl hg10 (by decide) ?_
      refine g_wi2l dX10_order_44 rfl ?_
      obtain ⟨s12, e11, h⟩ := xbp_e h
      refine g_cV10 dX10_order_45 ml_X10_258 rfl (s_X6_add e11) (by decide) rfl ?_
      refine g_inc_1 dX10_order_48 (by decide) rfl ?_
      refine g_goto dX10_order_51 (tgt := 20) rfl ?_
      exact ih (l1_7 + 1) s12 h
theorem s_X10_order {s0 : xW} {q : Int × xW} (h : F_X10_order  s0 = some q) : xC 5 0 0 mX10_order [vR 0] 155 s0 (xRv (vI q.1) q.2) := by
  refine xC.of [vR 0, vX] (by decide +kernel) (Nat.le_of_ble_eq_true rfl) rfl ?_
  unfold F_X10_order at h
  refine g_aln dX10_order_0 rfl rfl (by decide) ?_
  obtain ⟨s2, e1, h⟩ := xbp_e h
  refine g_cV00 dX10_order_1 ml_X10_173 rfl (s_X10_planToday e1) (by decide) rfl ?_
  refine g_aln dX10_order_4 rfl rfl (by decide) ?_
  refine g_getC 92 dX10_order_5 fl_X10_75 rfl (by decide) ?_
  obtain ⟨s4, e3, h⟩ := xbp_e h
  refine g_cV00 dX10_order_8 ml_X10_251 rfl (s_X4_sort e3) (by decide) rfl ?_
  refine g_aln dX10_order_11 rfl rfl (by decide) ?_
  refine g_getC 3 dX10_order_12 fl_X10_19 rfl (by decide) ?_
  obtain ⟨s6, e5, h⟩ := xbp_e h
  refine g_cV00 dX10_order_15 ml_X10_254 rfl (s_X6_clear e5) (by decide) rfl ?_
  refine g_ic dX10_order_18 ?_
  refine g_istn_1 dX10_order_19 (by decide) rfl ?_
  refine s_X10_order_20 (fun l1_15 s16 h => ?_) xN _ _ h
  refine g_aln dX10_order_54 rfl rfl (by decide) ?_
  refine g_getC 92 dX10_order_55 fl_X10_75 rfl (by decide) ?_
  refine g_getI 0 dX10_order_58 fl_X10_131 rfl rfl ?_
  exact g_rI rfl dX10_order_61 h
theorem dX10_quiet_0 : decode cX10_quiet 0 = .ok (.bipush (-2), 2) := by decide +kernel
theorem dX10_quiet_2 : decode cX10_quiet 2 = .ok (.istore_n 1, 1) := by decide +kernel
theorem dX10_quiet_3 : decode cX10_quiet 3 = .ok (.iconst 0, 1) := by decide +kernel
theorem dX10_quiet_4 : decode cX10_quiet 4 = .ok (.istore_n 2, 1) := by decide +kernel
theorem dX10_quiet_5 : decode cX10_quiet 5 = .ok (.iconst 0, 1) := by decide +kernel
theorem dX10_quiet_6 : decode cX10_quiet 6 = .ok (.istore_n 3, 1) := by decide +kernel
theorem dX10_quiet_7 : decode cX10_quiet 7 = .ok (.iload_n 3, 1) := by decide +kernel
theorem dX10_quiet_8 : decode cX10_quiet 8 = .ok (.bipush 100, 2) := by decide +kernel
theorem dX10_quiet_10 : decode cX10_quiet 10 = .ok (.if_icmp .ge 38, 3) := by decide +kernel
theorem dX10_quiet_13 : decode cX10_quiet 13 = .ok (.aload_n 0, 1) := by decide +kernel
theorem dX10_quiet_14 : decode cX10_quiet 14 = .ok (.aload_n 0, 1) := by decide +kernel
theorem dX10_quiet_15 : decode cX10_quiet 15 = .ok (.getfield 46, 3) := by decide +kernel
theorem dX10_quiet_18 : decode cX10_quiet 18 = .ok (.getfield 277, 3) := by decide +kernel
theorem dX10_quiet_21 : decode cX10_quiet 21 = .ok (.iload_n 3, 1) := by decide +kernel
theorem dX10_quiet_22 : decode cX10_quiet 22 = .ok (.iadd, 1) := by decide +kernel
theorem dX10_quiet_23 : decode cX10_quiet 23 = .ok (.invokevirtual 283, 3) := by decide +kernel
theorem dX10_quiet_26 : decode cX10_quiet 26 = .ok (.ifCond .ne 16, 3) := by decide +kernel
theorem dX10_quiet_29 : decode cX10_quiet 29 = .ok (.iload_n 2, 1) := by decide +kernel
theorem dX10_quiet_30 : decode cX10_quiet 30 = .ok (.ifCond .ne 7, 3) := by decide +kernel
theorem dX10_quiet_33 : decode cX10_quiet 33 = .ok (.iload_n 3, 1) := by decide +kernel
theorem dX10_quiet_34 : decode cX10_quiet 34 = .ok (.goto 4, 3) := by decide +kernel
theorem dX10_quiet_37 : decode cX10_quiet 37 = .ok (.iload_n 1, 1) := by decide +kernel
theorem dX10_quiet_38 : decode cX10_quiet 38 = .ok (.istore_n 1, 1) := by decide +kernel
theorem dX10_quiet_39 : decode cX10_quiet 39 = .ok (.iinc 2 1, 3) := by decide +kernel
theorem dX10_quiet_42 : decode cX10_quiet 42 = .ok (.iinc 3 1, 3) := by decide +kernel
theorem dX10_quiet_45 : decode cX10_quiet 45 = .ok (.goto (-38), 3) := by decide +kernel
theorem dX10_quiet_48 : decode cX10_quiet 48 = .ok (.iload_n 2, 1) := by decide +kernel
theorem dX10_quiet_49 : decode cX10_quiet 49 = .ok (.ifCond .le 12, 3) := by decide +kernel
theorem dX10_quiet_52 : decode cX10_quiet 52 = .ok (.aload_n 0, 1) := by decide +kernel
theorem dX10_quiet_53 : decode cX10_quiet 53 = .ok (.getfield 19, 3) := by decide +kernel
theorem dX10_quiet_56 : decode cX10_quiet 56 = .ok (.iload_n 2, 1) := by decide +kernel
theorem dX10_quiet_57 : decode cX10_quiet 57 = .ok (.i2l, 1) := by decide +kernel
theorem dX10_quiet_58 : decode cX10_quiet 58 = .ok (.invokevirtual 286, 3) := by decide +kernel
theorem dX10_quiet_61 : decode cX10_quiet 61 = .ok (.iload_n 1, 1) := by decide +kernel
theorem dX10_quiet_62 : decode cX10_quiet 62 = .ok (.ireturn, 1) := by decide +kernel
theorem s_X10_quiet_7 {q : Int × xW} {k : Int → Int → Int → xW → Option (Int × xW)} (hk : ∀ (l1_19 : Int) (l2_20 : Int) (l3_21 : Int) (s22 : xW), k l1_19 l2_20 l3_21 s22 = some q → xG 5 0 0 mX10_quiet 48 [vR 0, vI l1_19, vI l2_20, vI l3_21] [] 155 s22 (xRv (vI q.1) q.2)) : ∀ (f : Nat) (l1_1 : Int) (l2_2 : Int) (l3_3 : Int) (s4 : xW), F_X10_quiet_7  f l1_1 l2_2 l3_3 s4 k = some q → xG 5 0 0 mX10_quiet 7 [vR 0, vI l1_1, vI l2_2, vI l3_3] [] 155 s4 (xRv (vI q.1) q.2) := by
  intro f
  induction f with
  | zero => intro l1_1 l2_2 l3_3 s4 h; cases h
  | succ f ih =>
    intro l1_1 l2_2 l3_3 s4 h
    unfold F_X10_quiet_7 at h
    refine g_iln dX10_quiet_7 rfl rfl ?_
    refine g_bi dX10_quiet_8 (by decide) ?_
    refine g_wge dX10_quiet_10 (tgt := 48) rfl rfl (xw_id (by decide)) (fun q5 => ?_) (fun q5 => ?_)
    · replace h := xif_f q5 h
      exact hk l1_1 l2_2 l3_3 s4 h
    · replace h := xif_t q5 h
      refine g_aln dX10_quiet_13 rfl rfl (by decide) ?_
      refine g_aln dX10_quiet_14 rfl rfl (by decide) ?_
      refine g_getC 17 dX10_quiet_15 fl_X10_46 rfl (by decide) ?_
      refine g_getI 5 dX10_quiet_18 fl_X10_277 rfl rfl ?_
      refine g_iln dX10_quiet_21 rfl rfl ?_
      refine g_iadd dX10_quiet_22 ?_
      obtain ⟨r7, s8, e6, h⟩ := xbd_e h
      refine g_cV1v dX10_quiet_23 ml_X10_283 rfl (s_X10_pairsOn e6) (by decide) rfl ?_
      obtain ⟨j11, ej12, h⟩ := xjn_e h
      have hj13 : ∀ (l1_9 : Int) (l2_10 : Int), j11 l1_9 l2_10 = some q → xG 5 0 0 mX10_quiet 42 [vR 0, vI l1_9, vI l2_10, vI l3_3] [] 155 s8 (xRv (vI q.1) q.2) := by
        intro l1_9 l2_10 h
        rw [ej12] at h
        refine g_inc_3 dX10_quiet_42 (by decide) rfl ?_
        refine g_goto dX10_quiet_45 (tgt := 7) rfl ?_
        exact ih l1_9 l2_10 (l3_3 + 1) s8 h
      clear ej12
      refine g_yne dX10_quiet_26 (tgt := 42) rfl rfl (fun q14 => ?_) (fun q14 => ?_)
      · replace h := xif_f q14 h
        exact hj13 l1_1 l2_2 h
      · replace h := xif_t q14 h
        refine g_iln dX10_quiet_29 rfl rfl ?_
        obtain ⟨v16, e17, h⟩ := xlt_e h
        have hj18 : xG 5 0 0 mX10_quiet 38 [vR 0, vX, vI l2_2, vI l3_3] [vI v16] 155 s8 (xRv (vI q.1) q.2) := by
          refine g_istn_1 dX10_quiet_38 (by decide) rfl ?_
          refine g_inc_2 dX10_quiet_39 (by decide) rfl ?_
          exact hj13 v16 (l2_2 + 1) h
        refine g_yne dX10_quiet_30 (tgt := 37) rfl rfl (fun c15 => ?_) (fun c15 => ?_)
        · skip
          refine g_iln dX10_quiet_37 rfl rfl ?_
          refine g_drop_1 ?_
          exact g_vq ((if_neg c15).symm.trans e17) hj18
        · skip
          refine g_iln dX10_quiet_33 rfl rfl ?_
          refine g_goto dX10_quiet_34 (tgt := 38) rfl ?_
          refine g_drop_1 ?_
          exact g_vq ((if_pos c15).symm.trans e17) hj18
theorem s_X10_quiet {s0 : xW} {q : Int × xW} (h : F_X10_quiet  s0 = some q) : xC 5 0 0 mX10_quiet [vR 0] 155 s0 (xRv (vI q.1) q.2) := by
  refine xC.of [vR 0, vX, vX, vX] (by decide +kernel) (Nat.le_of_ble_eq_true rfl) rfl ?_
  unfold F_X10_quiet at h
  refine g_bi dX10_quiet_0 (by decide) ?_
  refine g_istn_1 dX10_quiet_2 (by decide) rfl ?_
  refine g_ic dX10_quiet_3 ?_
  refine g_istn_2 dX10_quiet_4 (by decide) rfl ?_
  refine g_ic dX10_quiet_5 ?_
  refine g_istn_3 dX10_quiet_6 (by decide) rfl ?_
  refine s_X10_quiet_7 (fun l1_23 l2_24 l3_25 s26 h => ?_) xN _ _ _ _ h
  refine g_iln dX10_quiet_48 rfl rfl ?_
  obtain ⟨j28, ej29, h⟩ := xjn_e h
  have hj30 : ∀ (s27 : xW), j28 s27 = some q → xG 5 0 0 mX10_quiet 61 [vX, vI l1_23, vX, vX] [] 155 s27 (xRv (vI q.1) q.2) := by
    intro s27 h
    rw [ej29] at h
    refine g_iln dX10_quiet_61 rfl rfl ?_
    exact g_rI rfl dX10_quiet_62 h
  clear ej29
  refine g_yle dX10_quiet_49 (tgt := 61) rfl rfl (fun q31 => ?_) (fun q31 => ?_)
  · replace h := xif_f q31 h
    refine g_drop_0 ?_
    refine g_drop_2 ?_
    refine g_drop_3 ?_
    exact hj30 s26 h
  · replace h := xif_t q31 h
    refine g_aln dX10_quiet_52 rfl rfl (by decide) ?_
    refine g_getC 3 dX10_quiet_53 fl_X10_19 rfl (by decide) ?_
    refine g_iln dX10_quiet_56 rfl rfl ?_
    refine g_wi2l dX10_quiet_57 rfl ?_
    obtain ⟨s33, e32, h⟩ := xbp_e h
    refine g_cV10 dX10_quiet_58 ml_X10_286 rfl (s_X6_tell e32) (by decide) rfl ?_
    refine g_drop_0 ?_
    refine g_drop_2 ?_
    refine g_drop_3 ?_
    exact hj30 s33 h
theorem dX10_rests_0 : decode cX10_rests 0 = .ok (.iload_n 1, 1) := by decide +kernel
theorem dX10_rests_1 : decode cX10_rests 1 = .ok (.ifCond .lt 9, 3) := by decide +kernel
theorem dX10_rests_4 : decode cX10_rests 4 = .ok (.iload_n 1, 1) := by decide +kernel
theorem dX10_rests_5 : decode cX10_rests 5 = .ok (.bipush 20, 2) := by decide +kernel
theorem dX10_rests_7 : decode cX10_rests 7 = .ok (.if_icmp .le 5, 3) := by decide +kernel
theorem dX10_rests_10 : decode cX10_rests 10 = .ok (.iconst (-1), 1) := by decide +kernel
theorem dX10_rests_11 : decode cX10_rests 11 = .ok (.ireturn, 1) := by decide +kernel
theorem dX10_rests_12 : decode cX10_rests 12 = .ok (.aload_n 0, 1) := by decide +kernel
theorem dX10_rests_13 : decode cX10_rests 13 = .ok (.getfield 19, 3) := by decide +kernel
theorem dX10_rests_16 : decode cX10_rests 16 = .ok (.invokevirtual 254, 3) := by decide +kernel
theorem dX10_rests_19 : decode cX10_rests 19 = .ok (.iconst 0, 1) := by decide +kernel
theorem dX10_rests_20 : decode cX10_rests 20 = .ok (.istore_n 2, 1) := by decide +kernel
theorem dX10_rests_21 : decode cX10_rests 21 = .ok (.iconst 0, 1) := by decide +kernel
theorem dX10_rests_22 : decode cX10_rests 22 = .ok (.istore_n 3, 1) := by decide +kernel
theorem dX10_rests_23 : decode cX10_rests 23 = .ok (.iload_n 3, 1) := by decide +kernel
theorem dX10_rests_24 : decode cX10_rests 24 = .ok (.bipush 9, 2) := by decide +kernel
theorem dX10_rests_26 : decode cX10_rests 26 = .ok (.if_icmp .gt 65, 3) := by decide +kernel
theorem dX10_rests_29 : decode cX10_rests 29 = .ok (.iconst 0, 1) := by decide +kernel
theorem dX10_rests_30 : decode cX10_rests 30 = .ok (.istore 4, 2) := by decide +kernel
theorem dX10_rests_32 : decode cX10_rests 32 = .ok (.iload 4, 2) := by decide +kernel
theorem dX10_rests_34 : decode cX10_rests 34 = .ok (.bipush 9, 2) := by decide +kernel
theorem dX10_rests_36 : decode cX10_rests 36 = .ok (.if_icmp .gt 49, 3) := by decide +kernel
theorem dX10_rests_39 : decode cX10_rests 39 = .ok (.iload_n 1, 1) := by decide +kernel
theorem dX10_rests_40 : decode cX10_rests 40 = .ok (.iload_n 3, 1) := by decide +kernel
theorem dX10_rests_41 : decode cX10_rests 41 = .ok (.iload 4, 2) := by decide +kernel
theorem dX10_rests_43 : decode cX10_rests 43 = .ok (.invokestatic 382, 3) := by decide +kernel
theorem dX10_rests_46 : decode cX10_rests 46 = .ok (.ifCond .eq 33, 3) := by decide +kernel
theorem dX10_rests_49 : decode cX10_rests 49 = .ok (.iload_n 1, 1) := by decide +kernel
theorem dX10_rests_50 : decode cX10_rests 50 = .ok (.iload 4, 2) := by decide +kernel
theorem dX10_rests_52 : decode cX10_rests 52 = .ok (.iload_n 3, 1) := by decide +kernel
theorem dX10_rests_53 : decode cX10_rests 53 = .ok (.invokestatic 382, 3) := by decide +kernel
theorem dX10_rests_56 : decode cX10_rests 56 = .ok (.ifCond .eq 23, 3) := by decide +kernel
theorem dX10_rests_59 : decode cX10_rests 59 = .ok (.iinc 2 1, 3) := by decide +kernel
theorem dX10_rests_62 : decode cX10_rests 62 = .ok (.iload_n 2, 1) := by decide +kernel
theorem dX10_rests_63 : decode cX10_rests 63 = .ok (.iconst 1, 1) := by decide +kernel
theorem dX10_rests_64 : decode cX10_rests 64 = .ok (.if_icmp .ne 15, 3) := by decide +kernel
theorem dX10_rests_67 : decode cX10_rests 67 = .ok (.aload_n 0, 1) := by decide +kernel
theorem dX10_rests_68 : decode cX10_rests 68 = .ok (.getfield 19, 3) := by decide +kernel
theorem dX10_rests_71 : decode cX10_rests 71 = .ok (.iload_n 3, 1) := by decide +kernel
theorem dX10_rests_72 : decode cX10_rests 72 = .ok (.i2l, 1) := by decide +kernel
theorem dX10_rests_73 : decode cX10_rests 73 = .ok (.iload 4, 2) := by decide +kernel
theorem dX10_rests_75 : decode cX10_rests 75 = .ok (.i2l, 1) := by decide +kernel
theorem dX10_rests_76 : decode cX10_rests 76 = .ok (.invokevirtual 242, 3) := by decide +kernel
theorem dX10_rests_79 : decode cX10_rests 79 = .ok (.iinc 4 1, 3) := by decide +kernel
theorem dX10_rests_82 : decode cX10_rests 82 = .ok (.goto (-50), 3) := by decide +kernel
theorem dX10_rests_85 : decode cX10_rests 85 = .ok (.iinc 3 1, 3) := by decide +kernel
theorem dX10_rests_88 : decode cX10_rests 88 = .ok (.goto (-65), 3) := by decide +kernel
theorem dX10_rests_91 : decode cX10_rests 91 = .ok (.iload_n 2, 1) := by decide +kernel
theorem dX10_rests_92 : decode cX10_rests 92 = .ok (.ireturn, 1) := by decide +kernel
theorem s_X10_rests_32 {l1_13 l3_15 : Int} {q : Int × xW} {k : Int → Int → xW → Option (Int × xW)} (hk : ∀ (l2_33 : Int) (l4_34 : Int) (s35 : xW), k l2_33 l4_34 s35 = some q → xG 3 0 0 mX10_rests 85 [vR 0, vI l1_13, vI l2_33, vI l3_15, vI l4_34] [] 155 s35 (xRv (vI q.1) q.2)) : ∀ (f : Nat) (l2_14 : Int) (l4_16 : Int) (s17 : xW), F_X10_rests_32 l1_13 l3_15 f l2_14 l4_16 s17 k = some q → xG 3 0 0 mX10_rests 32 [vR 0, vI l1_13, vI l2_14, vI l3_15, vI l4_16] [] 155 s17 (xRv (vI q.1) q.2) := by
  intro f
  induction f with
  | zero => intro l2_14 l4_16 s17 h; cases h
  | succ f ih =>
    intro l2_14 l4_16 s17 h
    unfold F_X10_rests_32 at h
    refine g_il dX10_rests_32 rfl ?_
    refine g_bi dX10_rests_34 (by decide) ?_
    refine g_wgt dX10_rests_36 (tgt := 85) rfl rfl (xw_id (by decide)) (fun q18 => ?_) (fun q18 => ?_)
    · replace h := xif_f q18 h
      exact hk l2_14 l4_16 s17 h
    · replace h := xif_t q18 h
      refine g_iln dX10_rests_39 rfl rfl ?_
      refine g_iln dX10_rests_40 rfl rfl ?_
      refine g_il dX10_rests_41 rfl ?_
      obtain ⟨r20, e19, h⟩ := xbp_e h
      refine g_cS3v dX10_rests_43 ml_X10_382 (s_X10_isContent e19) (by decide) rfl ?_
      obtain ⟨j23, ej24, h⟩ := xjn_e h
      have hj25 : ∀ (l2_21 : Int) (s22 : xW), j23 l2_21 s22 = some q → xG 3 0 0 mX10_rests 79 [vR 0, vI l1_13, vI l2_21, vI l3_15, vI l4_16] [] 155 s22 (xRv (vI q.1) q.2) := by
        intro l2_21 s22 h
        rw [ej24] at h
        refine g_inc_4 dX10_rests_79 (by decide) rfl ?_
        refine g_goto dX10_rests_82 (tgt := 32) rfl ?_
        exact ih l2_21 (l4_16 + 1) s22 h
      clear ej24
      refine g_yeq dX10_rests_46 (tgt := 79) rfl rfl (fun q26 => ?_) (fun q26 => ?_)
      · replace h := xif_f q26 h
        exact hj25 l2_14 s17 h
      · replace h := xif_t q26 h
        refine g_iln dX10_rests_49 rfl rfl ?_
        refine g_il dX10_rests_50 rfl ?_
        refine g_iln dX10_rests_52 rfl rfl ?_
        obtain ⟨r28, e27, h⟩ := xbp_e h
        refine g_cS3v dX10_rests_53 ml_X10_382 (s_X10_isContent e27) (by decide) rfl ?_
        refine g_yeq dX10_rests_56 (tgt := 79) rfl rfl (fun q29 => ?_) (fun q29 => ?_)
        · replace h := xif_f q29 h
          exact hj25 l2_14 s17 h
        · replace h := xif_t q29 h
          refine g_inc_2 dX10_rests_59 (by decide) rfl ?_
          refine g_iln dX10_rests_62 rfl rfl ?_
          refine g_ic dX10_rests_63 ?_
          refine g_wne dX10_rests_64 (tgt := 79) rfl rfl (xw_id (by decide)) (fun q30 => ?_) (fun q30 => ?_)
          · replace h := xif_f q30 h
            exact hj25 (l2_14 + 1) s17 h
          · replace h := xif_t q30 h
            refine g_aln dX10_rests_67 rfl rfl (by decide) ?_
            refine g_getC 3 dX10_rests_68 fl_X10_19 rfl (by decide) ?_
            refine g_iln dX10_rests_71 rfl rfl ?_
            refine g_wi2l dX10_rests_72 rfl ?_
            refine g_il dX10_rests_73 rfl ?_
            refine g_wi2l dX10_rests_75 rfl ?_
            obtain ⟨s32, e31, h⟩ := xbp_e h
            refine g_cV20 dX10_rests_76 ml_X10_242 rfl (s_X6_tell_ e31) (by decide) rfl ?_
            exact hj25 (l2_14 + 1) s32 h
theorem s_X10_rests_23 {l1_8 : Int} {q : Int × xW} {k : Int → Int → xW → Option (Int × xW)} (hk : ∀ (l2_39 : Int) (l3_40 : Int) (s41 : xW), k l2_39 l3_40 s41 = some q → xG 3 0 0 mX10_rests 91 [vR 0, vI l1_8, vI l2_39, vI l3_40, vX] [] 155 s41 (xRv (vI q.1) q.2)) : ∀ (f : Nat) (l2_9 : Int) (l3_10 : Int) (s11 : xW), F_X10_rests_23 l1_8 f l2_9 l3_10 s11 k = some q → xG 3 0 0 mX10_rests 23 [vR 0, vI l1_8, vI l2_9, vI l3_10, vX] [] 155 s11 (xRv (vI q.1) q.2) := by
  intro f
  induction f with
  | zero => intro l2_9 l3_10 s11 h; cases h
  | succ f ih =>
    intro l2_9 l3_10 s11 h
    unfold F_X10_rests_23 at h
    refine g_iln dX10_rests_23 rfl rfl ?_
    refine g_bi dX10_rests_24 (by decide) ?_
    refine g_wgt dX10_rests_26 (tgt := 91) rfl rfl (xw_id (by decide)) (fun q12 => ?_) (fun q12 => ?_)
    · replace h := xif_f q12 h
      exact hk l2_9 l3_10 s11 h
    · replace h := xif_t q12 h
      refine g_ic dX10_rests_29 ?_
      refine g_ist_4 dX10_rests_30 (by decide) rfl ?_
      refine s_X10_rests_32 (fun l2_36 l4_37 s38 h => ?_) xN _ _ _ h
      refine g_inc_3 dX10_rests_85 (by decide) rfl ?_
      refine g_goto dX10_rests_88 (tgt := 23) rfl ?_
      refine g_drop_4 ?_
      exact ih l2_36 (l3_10 + 1) s38 h
theorem s_X10_rests {a1 : Int} {s0 : xW} {q : Int × xW} (h : F_X10_rests a1 s0 = some q) : xC 3 0 0 mX10_rests [vR 0, vI a1] 155 s0 (xRv (vI q.1) q.2) := by
  refine xC.of [vR 0, vI a1, vX, vX, vX] (by decide +kernel) (Nat.le_of_ble_eq_true rfl) rfl ?_
  unfold F_X10_rests at h
  refine g_iln dX10_rests_0 rfl rfl ?_
  obtain ⟨j1, ej2, h⟩ := xjn_e h
  have hj3 : j1  = some q → xG 3 0 0 mX10_rests 10 [vX, vX, vX, vX, vX] [] 155 s0 (xRv (vI q.1) q.2) := by
    intro  h
    rw [ej2] at h
    refine g_ic dX10_rests_10 ?_
    exact g_rI rfl dX10_rests_11 h
  clear ej2
  refine g_ylt dX10_rests_1 (tgt := 10) rfl rfl (fun q4 => ?_) (fun q4 => ?_)
  · replace h := xif_f q4 h
    refine g_drop_0 ?_
    refine g_drop_1 ?_
    exact hj3  h
  · replace h := xif_t q4 h
    refine g_iln dX10_rests_4 rfl rfl ?_
    refine g_bi dX10_rests_5 (by decide) ?_
    refine g_wle dX10_rests_7 (tgt := 12) rfl rfl (xw_id (by decide)) (fun q5 => ?_) (fun q5 => ?_)
    · replace h := xif_f q5 h
      refine g_aln dX10_rests_12 rfl rfl (by decide) ?_
      refine g_getC 3 dX10_rests_13 fl_X10_19 rfl (by decide) ?_
      obtain ⟨s7, e6, h⟩ := xbp_e h
      refine g_cV00 dX10_rests_16 ml_X10_254 rfl (s_X6_clear e6) (by decide) rfl ?_
      refine g_ic dX10_rests_19 ?_
      refine g_istn_2 dX10_rests_20 (by decide) rfl ?_
      refine g_ic dX10_rests_21 ?_
      refine g_istn_3 dX10_rests_22 (by decide) rfl ?_
      refine s_X10_rests_23 (fun l2_42 l3_43 s44 h => ?_) xN _ _ _ h
      refine g_iln dX10_rests_91 rfl rfl ?_
      exact g_rI rfl dX10_rests_92 h
    · replace h := xif_t q5 h
      refine g_drop_0 ?_
      refine g_drop_1 ?_
      exact hj3  h
theorem dX10_row_0 : decode cX10_row 0 = .ok (.iload_n 1, 1) := by decide +kernel
theorem dX10_row_1 : decode cX10_row 1 = .ok (.ifCond .lt 14, 3) := by decide +kernel
theorem dX10_row_4 : decode cX10_row 4 = .ok (.iload_n 1, 1) := by decide +kernel
theorem dX10_row_5 : decode cX10_row 5 = .ok (.aload_n 0, 1) := by decide +kernel
theorem dX10_row_6 : decode cX10_row 6 = .ok (.getfield 19, 3) := by decide +kernel
theorem dX10_row_9 : decode cX10_row 9 = .ok (.getfield 407, 3) := by decide +kernel
theorem dX10_row_12 : decode cX10_row 12 = .ok (.if_icmp .lt 14, 3) := by decide +kernel
theorem dX10_row_15 : decode cX10_row 15 = .ok (.new 145, 3) := by decide +kernel
theorem dX10_row_18 : decode cX10_row 18 = .ok (.dup, 1) := by decide +kernel
theorem dX10_row_19 : decode cX10_row 19 = .ok (.ldc_w 408, 3) := by decide +kernel
theorem dX10_row_22 : decode cX10_row 22 = .ok (.invokespecial 149, 3) := by decide +kernel
theorem dX10_row_25 : decode cX10_row 25 = .ok (.athrow, 1) := by decide +kernel
theorem dX10_row_26 : decode cX10_row 26 = .ok (.aload_n 0, 1) := by decide +kernel
theorem dX10_row_27 : decode cX10_row 27 = .ok (.getfield 19, 3) := by decide +kernel
theorem dX10_row_30 : decode cX10_row 30 = .ok (.getfield 410, 3) := by decide +kernel
theorem dX10_row_33 : decode cX10_row 33 = .ok (.iload_n 1, 1) := by decide +kernel
theorem dX10_row_34 : decode cX10_row 34 = .ok (.laload, 1) := by decide +kernel
theorem dX10_row_35 : decode cX10_row 35 = .ok (.lreturn, 1) := by decide +kernel
theorem s_X10_row {a1 : Int} {s0 : xW} {q : Int} (h : F_X10_row a1 s0 = some q) : xC 0 0 0 mX10_row [vR 0, vI a1] 155 s0 (xRv (vL q) s0) := by
  refine xC.of [vR 0, vI a1] (by decide +kernel) (Nat.le_of_ble_eq_true rfl) rfl ?_
  unfold F_X10_row at h
  refine g_iln dX10_row_0 rfl rfl ?_
  obtain ⟨j1, ej2, h⟩ := xjn_e h
  have hj3 : j1  = some q → xG 0 0 0 mX10_row 15 [vX, vX] [] 155 s0 (xRv (vL q) s0) := by
    intro  h
    rw [ej2] at h
    cases h
  clear ej2
  refine g_ylt dX10_row_1 (tgt := 15) rfl rfl (fun q4 => ?_) (fun q4 => ?_)
  · replace h := xif_f q4 h
    refine g_drop_0 ?_
    refine g_drop_1 ?_
    exact hj3  h
  · replace h := xif_t q4 h
    refine g_iln dX10_row_4 rfl rfl ?_
    refine g_aln dX10_row_5 rfl rfl (by decide) ?_
    refine g_getC 3 dX10_row_6 fl_X10_19 rfl (by decide) ?_
    refine g_getI 1 dX10_row_9 fl_X10_407 rfl rfl ?_
    refine g_wlt dX10_row_12 (tgt := 26) rfl rfl rfl (fun q5 => ?_) (fun q5 => ?_)
    · replace h := xif_f q5 h
      refine g_aln dX10_row_26 rfl rfl (by decide) ?_
      refine g_getC 3 dX10_row_27 fl_X10_19 rfl (by decide) ?_
      refine g_getC 4 dX10_row_30 fl_X10_410 rfl (by decide) ?_
      refine g_iln dX10_row_33 rfl rfl ?_
      obtain ⟨hg6, h⟩ := xgd_e h
      refine g_lald 16 dX10_row_34 rfl hg6 (by decide) ?_
      exact g_pL rfl dX10_row_35 h
    · replace h := xif_t q5 h
      refine g_drop_0 ?_
      refine g_drop_1 ?_
      exact hj3  h
theorem dX10_rule_0 : decode cX10_rule 0 = .ok (.aload_n 0, 1) := by decide +kernel
theorem dX10_rule_1 : decode cX10_rule 1 = .ok (.getfield 40, 3) := by decide +kernel
theorem dX10_rule_4 : decode cX10_rule 4 = .ok (.aload_n 0, 1) := by decide +kernel
theorem dX10_rule_5 : decode cX10_rule 5 = .ok (.getfield 12, 3) := by decide +kernel
theorem dX10_rule_8 : decode cX10_rule 8 = .ok (.invokevirtual 138, 3) := by decide +kernel
theorem dX10_rule_11 : decode cX10_rule 11 = .ok (.istore_n 1, 1) := by decide +kernel
theorem dX10_rule_12 : decode cX10_rule 12 = .ok (.iload_n 1, 1) := by decide +kernel
theorem dX10_rule_13 : decode cX10_rule 13 = .ok (.iconst (-1), 1) := by decide +kernel
theorem dX10_rule_14 : decode cX10_rule 14 = .ok (.if_icmp .ne 21, 3) := by decide +kernel
theorem dX10_rule_17 : decode cX10_rule 17 = .ok (.aload_n 0, 1) := by decide +kernel
theorem dX10_rule_18 : decode cX10_rule 18 = .ok (.getfield 36, 3) := by decide +kernel
theorem dX10_rule_21 : decode cX10_rule 21 = .ok (.astore_n 2, 1) := by decide +kernel
theorem dX10_rule_22 : decode cX10_rule 22 = .ok (.aload_n 0, 1) := by decide +kernel
theorem dX10_rule_23 : decode cX10_rule 23 = .ok (.aload_n 0, 1) := by decide +kernel
theorem dX10_rule_24 : decode cX10_rule 24 = .ok (.getfield 40, 3) := by decide +kernel
theorem dX10_rule_27 : decode cX10_rule 27 = .ok (.putfield 36, 3) := by decide +kernel
theorem dX10_rule_30 : decode cX10_rule 30 = .ok (.aload_n 0, 1) := by decide +kernel
theorem dX10_rule_31 : decode cX10_rule 31 = .ok (.aload_n 2, 1) := by decide +kernel
theorem dX10_rule_32 : decode cX10_rule 32 = .ok (.putfield 40, 3) := by decide +kernel
theorem dX10_rule_35 : decode cX10_rule 35 = .ok (.aload_n 0, 1) := by decide +kernel
theorem dX10_rule_36 : decode cX10_rule 36 = .ok (.getfield 12, 3) := by decide +kernel
theorem dX10_rule_39 : decode cX10_rule 39 = .ok (.invokevirtual 125, 3) := by decide +kernel
theorem dX10_rule_42 : decode cX10_rule 42 = .ok (.iconst (-1), 1) := by decide +kernel
theorem dX10_rule_43 : decode cX10_rule 43 = .ok (.iload_n 1, 1) := by decide +kernel
theorem dX10_rule_44 : decode cX10_rule 44 = .ok (.isub, 1) := by decide +kernel
theorem dX10_rule_45 : decode cX10_rule 45 = .ok (.ireturn, 1) := by decide +kernel
theorem s_X10_rule {s0 : xW} {q : Int × xW} (h : F_X10_rule  s0 = some q) : xC 8 0 0 mX10_rule [vR 0] 155 s0 (xRv (vI q.1) q.2) := by
  refine xC.of [vR 0, vX, vX] (by decide +kernel) (Nat.le_of_ble_eq_true rfl) rfl ?_
  unfold F_X10_rule at h
  refine g_aln dX10_rule_0 rfl rfl (by decide) ?_
  obtain ⟨hg1, h⟩ := xgd_e h
  refine g_getR 5 dX10_rule_1 fl_X10_40 rfl rfl ?_
  refine g_aln dX10_rule_4 rfl rfl (by decide) ?_
  refine g_getC 1 dX10_rule_5 fl_X10_12 rfl (by decide) ?_
  obtain ⟨r3, s4, e2, h⟩ := xbd_e h
  refine g_cV1v dX10_rule_8 ml_X10_138 (xf_rule_1 _ hg1) (s_X7_read e2) (by decide) rfl ?_
  refine g_istn_1 dX10_rule_11 (by decide) rfl ?_
  refine g_iln dX10_rule_12 rfl rfl ?_
  refine g_ic dX10_rule_13 ?_
  obtain ⟨j6, ej7, h⟩ := xjn_e h
  have hj8 : ∀ (s5 : xW), j6 s5 = some q → xG 8 0 0 mX10_rule 35 [vR 0, vI r3, vX] [] 155 s5 (xRv (vI q.1) q.2) := by
    intro s5 h
    rw [ej7] at h
    refine g_aln dX10_rule_35 rfl rfl (by decide) ?_
    refine g_getC 1 dX10_rule_36 fl_X10_12 rfl (by decide) ?_
    obtain ⟨s10, e9, h⟩ := xbp_e h
    refine g_cV00 dX10_rule_39 ml_X10_125 rfl (s_X8_clear e9) (by decide) rfl ?_
    refine g_ic dX10_rule_42 ?_
    refine g_iln dX10_rule_43 rfl rfl ?_
    refine g_isub dX10_rule_44 ?_
    exact g_rI rfl dX10_rule_45 h
  clear ej7
  refine g_wne dX10_rule_14 (tgt := 35) rfl rfl (xw_id (by decide)) (fun q11 => ?_) (fun q11 => ?_)
  · replace h := xif_f q11 h
    exact hj8 s4 h
  · replace h := xif_t q11 h
    refine g_aln dX10_rule_17 rfl rfl (by decide) ?_
    obtain ⟨hg12, h⟩ := xgd_e h
    refine g_getR 4 dX10_rule_18 fl_X10_36 rfl rfl ?_
    refine g_astn_2 dX10_rule_21 (xf_rule_0 _ hg12) (by decide) rfl ?_
    refine g_aln dX10_rule_22 rfl rfl (by decide) ?_
    refine g_aln dX10_rule_23 rfl rfl (by decide) ?_
    obtain ⟨hg13, h⟩ := xgd_e h
    refine g_getR 5 dX10_rule_24 fl_X10_40 rfl rfl ?_
    obtain ⟨s14, e15, h⟩ := xlt_e h
    refine h_putR 4 dX10_rule_27 fl_X10_36 rfl (xf_rule_0 _ hg13) rfl e15 ?_
    refine g_aln dX10_rule_30 rfl rfl (by decide) ?_
    refine g_aln dX10_rule_31 rfl rfl (xf_rule_0 _ hg12) ?_
    obtain ⟨s16, e17, h⟩ := xlt_e h
    refine h_putR 5 dX10_rule_32 fl_X10_40 rfl (xf_rule_0 _ hg12) rfl e17 ?_
    refine g_drop_2 ?_
    exact hj8 s16 h
theorem dX10_sheet_0 : decode cX10_sheet 0 = .ok (.iload_n 1, 1) := by decide +kernel
theorem dX10_sheet_1 : decode cX10_sheet 1 = .ok (.ifCond .lt 14, 3) := by decide +kernel
theorem dX10_sheet_4 : decode cX10_sheet 4 = .ok (.iload_n 1, 1) := by decide +kernel
theorem dX10_sheet_5 : decode cX10_sheet 5 = .ok (.iconst 3, 1) := by decide +kernel
theorem dX10_sheet_6 : decode cX10_sheet 6 = .ok (.if_icmp .gt 9, 3) := by decide +kernel
theorem dX10_sheet_9 : decode cX10_sheet 9 = .ok (.iload_n 2, 1) := by decide +kernel
theorem dX10_sheet_10 : decode cX10_sheet 10 = .ok (.bipush 8, 2) := by decide +kernel
theorem dX10_sheet_12 : decode cX10_sheet 12 = .ok (.if_icmp .le 5, 3) := by decide +kernel
theorem dX10_sheet_15 : decode cX10_sheet 15 = .ok (.iconst (-1), 1) := by decide +kernel
theorem dX10_sheet_16 : decode cX10_sheet 16 = .ok (.ireturn, 1) := by decide +kernel
theorem dX10_sheet_17 : decode cX10_sheet 17 = .ok (.iload_n 1, 1) := by decide +kernel
theorem dX10_sheet_18 : decode cX10_sheet 18 = .ok (.iconst 3, 1) := by decide +kernel
theorem dX10_sheet_19 : decode cX10_sheet 19 = .ok (.if_icmp .ne 7, 3) := by decide +kernel
theorem dX10_sheet_22 : decode cX10_sheet 22 = .ok (.iconst 1, 1) := by decide +kernel
theorem dX10_sheet_23 : decode cX10_sheet 23 = .ok (.goto 4, 3) := by decide +kernel
theorem dX10_sheet_26 : decode cX10_sheet 26 = .ok (.iconst 0, 1) := by decide +kernel
theorem dX10_sheet_27 : decode cX10_sheet 27 = .ok (.istore 5, 2) := by decide +kernel
theorem dX10_sheet_29 : decode cX10_sheet 29 = .ok (.iload 5, 2) := by decide +kernel
theorem dX10_sheet_31 : decode cX10_sheet 31 = .ok (.ifCond .ne 10, 3) := by decide +kernel
theorem dX10_sheet_34 : decode cX10_sheet 34 = .ok (.iload_n 2, 1) := by decide +kernel
theorem dX10_sheet_35 : decode cX10_sheet 35 = .ok (.ifCond .ge 6, 3) := by decide +kernel
theorem dX10_sheet_38 : decode cX10_sheet 38 = .ok (.bipush (-2), 2) := by decide +kernel
theorem dX10_sheet_40 : decode cX10_sheet 40 = .ok (.ireturn, 1) := by decide +kernel
theorem dX10_sheet_41 : decode cX10_sheet 41 = .ok (.iconst 0, 1) := by decide +kernel
theorem dX10_sheet_42 : decode cX10_sheet 42 = .ok (.istore 6, 2) := by decide +kernel
theorem dX10_sheet_44 : decode cX10_sheet 44 = .ok (.iconst 0, 1) := by decide +kernel
theorem dX10_sheet_45 : decode cX10_sheet 45 = .ok (.istore 7, 2) := by decide +kernel
theorem dX10_sheet_47 : decode cX10_sheet 47 = .ok (.iload 7, 2) := by decide +kernel
theorem dX10_sheet_49 : decode cX10_sheet 49 = .ok (.aload_n 0, 1) := by decide +kernel
theorem dX10_sheet_50 : decode cX10_sheet 50 = .ok (.getfield 75, 3) := by decide +kernel
theorem dX10_sheet_53 : decode cX10_sheet 53 = .ok (.getfield 131, 3) := by decide +kernel
theorem dX10_sheet_56 : decode cX10_sheet 56 = .ok (.if_icmp .ge 75, 3) := by decide +kernel
theorem dX10_sheet_59 : decode cX10_sheet 59 = .ok (.iload 5, 2) := by decide +kernel
theorem dX10_sheet_61 : decode cX10_sheet 61 = .ok (.ifCond .ne 13, 3) := by decide +kernel
theorem dX10_sheet_64 : decode cX10_sheet 64 = .ok (.iload 7, 2) := by decide +kernel
theorem dX10_sheet_66 : decode cX10_sheet 66 = .ok (.iload_n 2, 1) := by decide +kernel
theorem dX10_sheet_67 : decode cX10_sheet 67 = .ok (.if_icmp .ge 7, 3) := by decide +kernel
theorem dX10_sheet_70 : decode cX10_sheet 70 = .ok (.iconst 1, 1) := by decide +kernel
theorem dX10_sheet_71 : decode cX10_sheet 71 = .ok (.goto 4, 3) := by decide +kernel
theorem dX10_sheet_74 : decode cX10_sheet 74 = .ok (.iconst 0, 1) := by decide +kernel
theorem dX10_sheet_75 : decode cX10_sheet 75 = .ok (.istore 8, 2) := by decide +kernel
theorem dX10_sheet_77 : decode cX10_sheet 77 = .ok (.aload_n 0, 1) := by decide +kernel
theorem dX10_sheet_78 : decode cX10_sheet 78 = .ok (.getfield 46, 3) := by decide +kernel
theorem dX10_sheet_81 : decode cX10_sheet 81 = .ok (.getfield 179, 3) := by decide +kernel
theorem dX10_sheet_84 : decode cX10_sheet 84 = .ok (.iload 7, 2) := by decide +kernel
theorem dX10_sheet_86 : decode cX10_sheet 86 = .ok (.iload 8, 2) := by decide +kernel
theorem dX10_sheet_88 : decode cX10_sheet 88 = .ok (.ifCond .eq 20, 3) := by decide +kernel
theorem dX10_sheet_91 : decode cX10_sheet 91 = .ok (.iload_n 1, 1) := by decide +kernel
theorem dX10_sheet_92 : decode cX10_sheet 92 = .ok (.iload_n 3, 1) := by decide +kernel
theorem dX10_sheet_93 : decode cX10_sheet 93 = .ok (.iload 7, 2) := by decide +kernel
theorem dX10_sheet_95 : decode cX10_sheet 95 = .ok (.iload 4, 2) := by decide +kernel
theorem dX10_sheet_97 : decode cX10_sheet 97 = .ok (.imul, 1) := by decide +kernel
theorem dX10_sheet_98 : decode cX10_sheet 98 = .ok (.iadd, 1) := by decide +kernel
theorem dX10_sheet_99 : decode cX10_sheet 99 = .ok (.invokestatic 191, 3) := by decide +kernel
theorem dX10_sheet_102 : decode cX10_sheet 102 = .ok (.invokestatic 195, 3) := by decide +kernel
theorem dX10_sheet_105 : decode cX10_sheet 105 = .ok (.goto 4, 3) := by decide +kernel
theorem dX10_sheet_108 : decode cX10_sheet 108 = .ok (.iconst 1, 1) := by decide +kernel
theorem dX10_sheet_109 : decode cX10_sheet 109 = .ok (.iastore, 1) := by decide +kernel
theorem dX10_sheet_110 : decode cX10_sheet 110 = .ok (.iload 6, 2) := by decide +kernel
theorem dX10_sheet_112 : decode cX10_sheet 112 = .ok (.aload_n 0, 1) := by decide +kernel
theorem dX10_sheet_113 : decode cX10_sheet 113 = .ok (.getfield 46, 3) := by decide +kernel
theorem dX10_sheet_116 : decode cX10_sheet 116 = .ok (.getfield 179, 3) := by decide +kernel
theorem dX10_sheet_119 : decode cX10_sheet 119 = .ok (.iload 7, 2) := by decide +kernel
theorem dX10_sheet_121 : decode cX10_sheet 121 = .ok (.iaload, 1) := by decide +kernel
theorem dX10_sheet_122 : decode cX10_sheet 122 = .ok (.iadd, 1) := by decide +kernel
theorem dX10_sheet_123 : decode cX10_sheet 123 = .ok (.istore 6, 2) := by decide +kernel
theorem dX10_sheet_125 : decode cX10_sheet 125 = .ok (.iinc 7 1, 3) := by decide +kernel
theorem dX10_sheet_128 : decode cX10_sheet 128 = .ok (.goto (-81), 3) := by decide +kernel
theorem dX10_sheet_131 : decode cX10_sheet 131 = .ok (.iload 5, 2) := by decide +kernel
theorem dX10_sheet_133 : decode cX10_sheet 133 = .ok (.ifCond .eq 8, 3) := by decide +kernel
theorem dX10_sheet_136 : decode cX10_sheet 136 = .ok (.bipush (-3), 2) := by decide +kernel
theorem dX10_sheet_138 : decode cX10_sheet 138 = .ok (.goto 5, 3) := by decide +kernel
theorem dX10_sheet_141 : decode cX10_sheet 141 = .ok (.iload 6, 2) := by decide +kernel
theorem dX10_sheet_143 : decode cX10_sheet 143 = .ok (.ireturn, 1) := by decide +kernel
theorem s_X10_sheet_47 {l1_14 l2_15 l3_16 l4_17 l5_18 : Int} {q : Int × xW} {k : Int → Int → xW → Option (Int × xW)} (hk : ∀ (l6_41 : Int) (l7_42 : Int) (s43 : xW), k l6_41 l7_42 s43 = some q → xG 2 0 0 mX10_sheet 131 [vR 0, vI l1_14, vI l2_15, vI l3_16, vI l4_17, vI l5_18, vI l6_41, vI l7_42, vX] [] 155 s43 (xRv (vI q.1) q.2)) : ∀ (f : Nat) (l6_19 : Int) (l7_20 : Int) (s21 : xW), F_X10_sheet_47 l1_14 l2_15 l3_16 l4_17 l5_18 f l6_19 l7_20 s21 k = some q → xG 2 0 0 mX10_sheet 47 [vR 0, vI l1_14, vI l2_15, vI l3_16, vI l4_17, vI l5_18, vI l6_19, vI l7_20, vX] [] 155 s21 (xRv (vI q.1) q.2) := by
  intro f
  induction f with
  | zero => intro l6_19 l7_20 s21 h; cases h
  | succ f ih =>
    intro l6_19 l7_20 s21 h
    unfold F_X10_sheet_47 at h
    refine g_il dX10_sheet_47 rfl ?_
    refine g_aln dX10_sheet_49 rfl rfl (by decide) ?_
    refine g_getC 92 dX10_sheet_50 fl_X10_75 rfl (by decide) ?_
    refine g_getI 0 dX10_sheet_53 fl_X10_131 rfl rfl ?_
    refine g_wge dX10_sheet_56 (tgt := 131) rfl rfl rfl (fun q22 => ?_) (fun q22 => ?_)
    · replace h := xif_f q22 h
      exact hk l6_19 l7_20 s21 h
    · replace h := xif_t q22 h
      refine g_il dX10_sheet_59 rfl ?_
      obtain ⟨v25, e26, h⟩ := xlt_e h
      have hj27 : xG 2 0 0 mX10_sheet 75 [vR 0, vI l1_14, vI l2_15, vI l3_16, vI l4_17, vI l5_18, vI l6_19, vI l7_20, vX] [vI v25] 155 s21 (xRv (vI q.1) q.2) := by
        refine g_ist_8 dX10_sheet_75 (by decide) rfl ?_
        refine g_aln dX10_sheet_77 rfl rfl (by decide) ?_
        refine g_getC 17 dX10_sheet_78 fl_X10_46 rfl (by decide) ?_
        refine g_getC 20 dX10_sheet_81 fl_X10_179 rfl (by decide) ?_
        refine g_il dX10_sheet_84 rfl ?_
        refine g_il dX10_sheet_86 rfl ?_
        obtain ⟨j29, ej30, h⟩ := xjn_e h
        have hj31 : ∀ (t28 : Int), j29 t28 = some q → xG 2 0 0 mX10_sheet 109 [vR 0, vI l1_14, vI l2_15, vI l3_16, vI l4_17, vI l5_18, vI l6_19, vI l7_20, vX] [vI t28, vI l7_20, vR 20] 155 s21 (xRv (vI q.1) q.2) := by
          intro t28 h
          rw [ej30] at h
          obtain ⟨hg32, h⟩ := xgd_e h
          obtain ⟨s33, e34, h⟩ := xlt_e h
          refine h_iast 8 dX10_sheet_109 rfl hg32 (by decide) e34 ?_
          refine g_il dX10_sheet_110 rfl ?_
          refine g_aln dX10_sheet_112 rfl rfl (by decide) ?_
          refine g_getC 17 dX10_sheet_113 fl_X10_46 rfl (by decide) ?_
          refine g_getC 20 dX10_sheet_116 fl_X10_179 rfl (by decide) ?_
          refine g_il dX10_sheet_119 rfl ?_
          obtain ⟨hg35, h⟩ := xgd_e h
          refine g_iald 8 dX10_sheet_121 rfl hg35 (by decide) ?_
          refine g_iadd dX10_sheet_122 ?_
          refine g_ist_6 dX10_sheet_123 (by decide) rfl ?_
          refine g_inc_7 dX10_sheet_125 (by decide) rfl ?_
          refine g_goto dX10_sheet_128 (tgt := 47) rfl ?_
          exact ih (l6_19 + (s33 20 l7_20)) (l7_20 + 1) s33 h
        clear ej30
        refine g_yeq dX10_sheet_88 (tgt := 108) rfl rfl (fun q36 => ?_) (fun q36 => ?_)
        · replace h := xif_f q36 h
          refine g_ic dX10_sheet_108 ?_
          refine g_drop_8 ?_
          exact hj31 1 h
        · replace h := xif_t q36 h
          refine g_iln dX10_sheet_91 rfl rfl ?_
          refine g_iln dX10_sheet_92 rfl rfl ?_
          refine g_il dX10_sheet_93 rfl ?_
          refine g_il dX10_sheet_95 rfl ?_
          refine g_imul dX10_sheet_97 ?_
          refine g_iadd dX10_sheet_98 ?_
          obtain ⟨r38, e37, h⟩ := xbp_e h
          refine g_cS2v dX10_sheet_99 ml_X10_191 (s_X10_entry e37) (by decide) rfl ?_
          obtain ⟨r40, e39, h⟩ := xbp_e h
          refine g_cS1v dX10_sheet_102 ml_X10_195 (s_X10_lengthOf e39) (by decide) rfl ?_
          refine g_goto dX10_sheet_105 (tgt := 109) rfl ?_
          refine g_drop_8 ?_
          exact hj31 r40 h
      refine g_yne dX10_sheet_61 (tgt := 74) rfl rfl (fun c23 => ?_) (fun c23 => ?_)
      · skip
        refine g_ic dX10_sheet_74 ?_
        exact g_vq ((if_neg c23).symm.trans e26) hj27
      · skip
        refine g_il dX10_sheet_64 rfl ?_
        refine g_iln dX10_sheet_66 rfl rfl ?_
        refine g_wge dX10_sheet_67 (tgt := 74) rfl rfl rfl (fun c24 => ?_) (fun c24 => ?_)
        · skip
          refine g_ic dX10_sheet_74 ?_
          exact g_vq (((if_pos c23).trans (if_neg c24)).symm.trans e26) hj27
        · skip
          refine g_ic dX10_sheet_70 ?_
          refine g_goto dX10_sheet_71 (tgt := 75) rfl ?_
          exact g_vq (((if_pos c23).trans (if_pos c24)).symm.trans e26) hj27
theorem s_X10_sheet {a1 a2 a3 a4 : Int} {s0 : xW} {q : Int × xW} (h : F_X10_sheet a1 a2 a3 a4 s0 = some q) : xC 2 0 0 mX10_sheet [vR 0, vI a1, vI a2, vI a3, vI a4] 155 s0 (xRv (vI q.1) q.2) := by
  refine xC.of [vR 0, vI a1, vI a2, vI a3, vI a4, vX, vX, vX, vX] (by decide +kernel) (Nat.le_of_ble_eq_true rfl) rfl ?_
  unfold F_X10_sheet at h
  refine g_iln dX10_sheet_0 rfl rfl ?_
  obtain ⟨j1, ej2, h⟩ := xjn_e h
  have hj3 : j1  = some q → xG 2 0 0 mX10_sheet 15 [vX, vX, vX, vX, vX, vX, vX, vX, vX] [] 155 s0 (xRv (vI q.1) q.2) := by
    intro  h
    rw [ej2] at h
    refine g_ic dX10_sheet_15 ?_
    exact g_rI rfl dX10_sheet_16 h
  clear ej2
  refine g_ylt dX10_sheet_1 (tgt := 15) rfl rfl (fun q4 => ?_) (fun q4 => ?_)
  · replace h := xif_f q4 h
    refine g_drop_0 ?_
    refine g_drop_1 ?_
    refine g_drop_2 ?_
    refine g_drop_3 ?_
    refine g_drop_4 ?_
    exact hj3  h
  · replace h := xif_t q4 h
    refine g_iln dX10_sheet_4 rfl rfl ?_
    refine g_ic dX10_sheet_5 ?_
    refine g_wgt dX10_sheet_6 (tgt := 15) rfl rfl (xw_id (by decide)) (fun q5 => ?_) (fun q5 => ?_)
    · replace h := xif_f q5 h
      refine g_drop_0 ?_
      refine g_drop_1 ?_
      refine g_drop_2 ?_
      refine g_drop_3 ?_
      refine g_drop_4 ?_
      exact hj3  h
    · replace h := xif_t q5 h
      refine g_iln dX10_sheet_9 rfl rfl ?_
      refine g_bi dX10_sheet_10 (by decide) ?_
      refine g_wle dX10_sheet_12 (tgt := 17) rfl rfl (xw_id (by decide)) (fun q6 => ?_) (fun q6 => ?_)
      · replace h := xif_f q6 h
        refine g_iln dX10_sheet_17 rfl rfl ?_
        refine g_ic dX10_sheet_18 ?_
        obtain ⟨v8, e9, h⟩ := xlt_e h
        have hj10 : xG 2 0 0 mX10_sheet 27 [vR 0, vI a1, vI a2, vI a3, vI a4, vX, vX, vX, vX] [vI v8] 155 s0 (xRv (vI q.1) q.2) := by
          refine g_ist_5 dX10_sheet_27 (by decide) rfl ?_
          refine g_il dX10_sheet_29 rfl ?_
          obtain ⟨j11, ej12, h⟩ := xjn_e h
          have hj13 : j11  = some q → xG 2 0 0 mX10_sheet 41 [vR 0, vI a1, vI a2, vI a3, vI a4, vI v8, vX, vX, vX] [] 155 s0 (xRv (vI q.1) q.2) := by
            intro  h
            rw [ej12] at h
            refine g_ic dX10_sheet_41 ?_
            refine g_ist_6 dX10_sheet_42 (by decide) rfl ?_
            refine g_ic dX10_sheet_44 ?_
            refine g_ist_7 dX10_sheet_45 (by decide) rfl ?_
            refine s_X10_sheet_47 (fun l6_44 l7_45 s46 h => ?_) xN _ _ _ h
            refine g_il dX10_sheet_131 rfl ?_
            obtain ⟨v48, e49, h⟩ := xlt_e h
            have hj50 : xG 2 0 0 mX10_sheet 143 [vX, vX, vX, vX, vX, vX, vX, vX, vX] [vI v48] 155 s46 (xRv (vI q.1) q.2) := by
              exact g_rI rfl dX10_sheet_143 h
            refine g_yeq dX10_sheet_133 (tgt := 141) rfl rfl (fun c47 => ?_) (fun c47 => ?_)
            · skip
              refine g_il dX10_sheet_141 rfl ?_
              refine g_drop_0 ?_
              refine g_drop_1 ?_
              refine g_drop_2 ?_
              refine g_drop_3 ?_
              refine g_drop_4 ?_
              refine g_drop_5 ?_
              refine g_drop_6 ?_
              refine g_drop_7 ?_
              exact g_vq ((if_neg c47).symm.trans e49) hj50
            · skip
              refine g_bi dX10_sheet_136 (by decide) ?_
              refine g_goto dX10_sheet_138 (tgt := 143) rfl ?_
              refine g_drop_0 ?_
              refine g_drop_1 ?_
              refine g_drop_2 ?_
              refine g_drop_3 ?_
              refine g_drop_4 ?_
              refine g_drop_5 ?_
              refine g_drop_6 ?_
              refine g_drop_7 ?_
              exact g_vq ((if_pos c47).symm.trans e49) hj50
          clear ej12
          refine g_yne dX10_sheet_31 (tgt := 41) rfl rfl (fun q51 => ?_) (fun q51 => ?_)
          · replace h := xif_f q51 h
            exact hj13  h
          · replace h := xif_t q51 h
            refine g_iln dX10_sheet_34 rfl rfl ?_
            refine g_yge dX10_sheet_35 (tgt := 41) rfl rfl (fun q52 => ?_) (fun q52 => ?_)
            · replace h := xif_f q52 h
              exact hj13  h
            · replace h := xif_t q52 h
              refine g_bi dX10_sheet_38 (by decide) ?_
              exact g_rI rfl dX10_sheet_40 h
        refine g_wne dX10_sheet_19 (tgt := 26) rfl rfl (xw_id (by decide)) (fun c7 => ?_) (fun c7 => ?_)
        · skip
          refine g_ic dX10_sheet_26 ?_
          exact g_vq ((if_neg c7).symm.trans e9) hj10
        · skip
          refine g_ic dX10_sheet_22 ?_
          refine g_goto dX10_sheet_23 (tgt := 27) rfl ?_
          exact g_vq ((if_pos c7).symm.trans e9) hj10
      · replace h := xif_t q6 h
        refine g_drop_0 ?_
        refine g_drop_1 ?_
        refine g_drop_2 ?_
        refine g_drop_3 ?_
        refine g_drop_4 ?_
        exact hj3  h
theorem dX8_add_0 : decode cX8_add 0 = .ok (.aload_n 0, 1) := by decide +kernel
theorem dX8_add_1 : decode cX8_add 1 = .ok (.getfield 15, 3) := by decide +kernel
theorem dX8_add_4 : decode cX8_add 4 = .ok (.iconst 4, 1) := by decide +kernel
theorem dX8_add_5 : decode cX8_add 5 = .ok (.iadd, 1) := by decide +kernel
theorem dX8_add_6 : decode cX8_add 6 = .ok (.bipush 80, 2) := by decide +kernel
theorem dX8_add_8 : decode cX8_add 8 = .ok (.if_icmp .le 5, 3) := by decide +kernel
theorem dX8_add_11 : decode cX8_add 11 = .ok (.iconst 0, 1) := by decide +kernel
theorem dX8_add_12 : decode cX8_add 12 = .ok (.ireturn, 1) := by decide +kernel
theorem dX8_add_13 : decode cX8_add 13 = .ok (.bipush 24, 2) := by decide +kernel
theorem dX8_add_15 : decode cX8_add 15 = .ok (.istore_n 2, 1) := by decide +kernel
theorem dX8_add_16 : decode cX8_add 16 = .ok (.iload_n 2, 1) := by decide +kernel
theorem dX8_add_17 : decode cX8_add 17 = .ok (.ifCond .lt 36, 3) := by decide +kernel
theorem dX8_add_20 : decode cX8_add 20 = .ok (.aload_n 0, 1) := by decide +kernel
theorem dX8_add_21 : decode cX8_add 21 = .ok (.getfield 11, 3) := by decide +kernel
theorem dX8_add_24 : decode cX8_add 24 = .ok (.aload_n 0, 1) := by decide +kernel
theorem dX8_add_25 : decode cX8_add 25 = .ok (.getfield 15, 3) := by decide +kernel
theorem dX8_add_28 : decode cX8_add 28 = .ok (.iload_n 1, 1) := by decide +kernel
theorem dX8_add_29 : decode cX8_add 29 = .ok (.iload_n 2, 1) := by decide +kernel
theorem dX8_add_30 : decode cX8_add 30 = .ok (.iushr, 1) := by decide +kernel
theorem dX8_add_31 : decode cX8_add 31 = .ok (.sipush 255, 3) := by decide +kernel
theorem dX8_add_34 : decode cX8_add 34 = .ok (.iand, 1) := by decide +kernel
theorem dX8_add_35 : decode cX8_add 35 = .ok (.i2c, 1) := by decide +kernel
theorem dX8_add_36 : decode cX8_add 36 = .ok (.castore, 1) := by decide +kernel
theorem dX8_add_37 : decode cX8_add 37 = .ok (.aload_n 0, 1) := by decide +kernel
theorem dX8_add_38 : decode cX8_add 38 = .ok (.dup, 1) := by decide +kernel
theorem dX8_add_39 : decode cX8_add 39 = .ok (.getfield 15, 3) := by decide +kernel
theorem dX8_add_42 : decode cX8_add 42 = .ok (.iconst 1, 1) := by decide +kernel
theorem dX8_add_43 : decode cX8_add 43 = .ok (.iadd, 1) := by decide +kernel
theorem dX8_add_44 : decode cX8_add 44 = .ok (.putfield 15, 3) := by decide +kernel
theorem dX8_add_47 : decode cX8_add 47 = .ok (.iinc 2 (-8), 3) := by decide +kernel
theorem dX8_add_50 : decode cX8_add 50 = .ok (.goto (-34), 3) := by decide +kernel
theorem dX8_add_53 : decode cX8_add 53 = .ok (.iconst 1, 1) := by decide +kernel
theorem dX8_add_54 : decode cX8_add 54 = .ok (.ireturn, 1) := by decide +kernel
theorem s_X8_add_16 {l1_2 : Int} {q : Int × xW} {k : Int → xW → Option (Int × xW)} (hk : ∀ (l2_12 : Int) (s13 : xW), k l2_12 s13 = some q → xG 0 0 0 mX8_add 53 [vR 1, vI l1_2, vI l2_12] [] 155 s13 (xRv (vI q.1) q.2)) : ∀ (f : Nat) (l2_3 : Int) (s4 : xW), F_X8_add_16 l1_2 f l2_3 s4 k = some q → xG 0 0 0 mX8_add 16 [vR 1, vI l1_2, vI l2_3] [] 155 s4 (xRv (vI q.1) q.2) := by
  intro f
  induction f with
  | zero => intro l2_3 s4 h; cases h
  | succ f ih =>
    intro l2_3 s4 h
    unfold F_X8_add_16 at h
    refine g_iln dX8_add_16 rfl rfl ?_
    refine g_ylt dX8_add_17 (tgt := 53) rfl rfl (fun q5 => ?_) (fun q5 => ?_)
    · replace h := xif_f q5 h
      exact hk l2_3 s4 h
    · replace h := xif_t q5 h
      refine g_aln dX8_add_20 rfl rfl (by decide) ?_
      refine g_getC 2 dX8_add_21 fl_X8_11 rfl (by decide) ?_
      refine g_aln dX8_add_24 rfl rfl (by decide) ?_
      refine g_getI 1 dX8_add_25 fl_X8_15 rfl rfl ?_
      refine g_iln dX8_add_28 rfl rfl ?_
      refine g_iln dX8_add_29 rfl rfl ?_
      refine g_iushr dX8_add_30 ?_
      refine g_si dX8_add_31 (by decide) ?_
      refine g_iand dX8_add_34 ?_
      refine g_i2c dX8_add_35 ?_
      obtain ⟨hg6, h⟩ := xgd_e h
      obtain ⟨hg7, h⟩ := xgd_e h
      obtain ⟨s8, e9, h⟩ := xlt_e h
      refine h_cast 80 dX8_add_36 rfl hg6 (by decide) hg7 e9 ?_
      refine g_aln dX8_add_37 rfl rfl (by decide) ?_
      refine g_dup dX8_add_38 rfl ?_
      refine g_getI 1 dX8_add_39 fl_X8_15 rfl rfl ?_
      refine g_ic dX8_add_42 ?_
      refine g_iadd dX8_add_43 ?_
      obtain ⟨s10, e11, h⟩ := xlt_e h
      refine h_putI 1 dX8_add_44 fl_X8_15 rfl rfl e11 ?_
      refine g_inc_2 dX8_add_47 (by decide) rfl ?_
      refine g_goto dX8_add_50 (tgt := 16) rfl ?_
      exact ih (l2_3 + (-8)) s10 h
theorem s_X8_add {a1 : Int} {s0 : xW} {q : Int × xW} (h : F_X8_add a1 s0 = some q) : xC 0 0 0 mX8_add [vR 1, vI a1] 155 s0 (xRv (vI q.1) q.2) := by
  refine xC.of [vR 1, vI a1, vX] (by decide +kernel) (Nat.le_of_ble_eq_true rfl) rfl ?_
  unfold F_X8_add at h
  refine g_aln dX8_add_0 rfl rfl (by decide) ?_
  refine g_getI 1 dX8_add_1 fl_X8_15 rfl rfl ?_
  refine g_ic dX8_add_4 ?_
  refine g_iadd dX8_add_5 ?_
  refine g_bi dX8_add_6 (by decide) ?_
  refine g_wle dX8_add_8 (tgt := 13) rfl rfl (xw_id (by decide)) (fun q1 => ?_) (fun q1 => ?_)
  · replace h := xif_f q1 h
    refine g_bi dX8_add_13 (by decide) ?_
    refine g_istn_2 dX8_add_15 (by decide) rfl ?_
    refine s_X8_add_16 (fun l2_14 s15 h => ?_) xN _ _ h
    refine g_ic dX8_add_53 ?_
    exact g_rZ rfl dX8_add_54 (by decide) h
  · replace h := xif_t q1 h
    refine g_ic dX8_add_11 ?_
    exact g_rZ rfl dX8_add_12 (by decide) h
