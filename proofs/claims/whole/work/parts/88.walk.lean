theorem dX10_fitsDeed_0 : decode cX10_fitsDeed 0 = .ok (.iload_n 1, 1) := by decide +kernel
theorem dX10_fitsDeed_1 : decode cX10_fitsDeed 1 = .ok (.bipush 8, 2) := by decide +kernel
theorem dX10_fitsDeed_3 : decode cX10_fitsDeed 3 = .ok (.if_icmp .lt 5, 3) := by decide +kernel
theorem dX10_fitsDeed_6 : decode cX10_fitsDeed 6 = .ok (.iconst 0, 1) := by decide +kernel
theorem dX10_fitsDeed_7 : decode cX10_fitsDeed 7 = .ok (.ireturn, 1) := by decide +kernel
theorem dX10_fitsDeed_8 : decode cX10_fitsDeed 8 = .ok (.aload_n 0, 1) := by decide +kernel
theorem dX10_fitsDeed_9 : decode cX10_fitsDeed 9 = .ok (.getfield 12, 3) := by decide +kernel
theorem dX10_fitsDeed_12 : decode cX10_fitsDeed 12 = .ok (.iload_n 3, 1) := by decide +kernel
theorem dX10_fitsDeed_13 : decode cX10_fitsDeed 13 = .ok (.invokevirtual 416, 3) := by decide +kernel
theorem dX10_fitsDeed_16 : decode cX10_fitsDeed 16 = .ok (.istore 4, 2) := by decide +kernel
theorem dX10_fitsDeed_18 : decode cX10_fitsDeed 18 = .ok (.iload_n 2, 1) := by decide +kernel
theorem dX10_fitsDeed_19 : decode cX10_fitsDeed 19 = .ok (.ifCond .ne 35, 3) := by decide +kernel
theorem dX10_fitsDeed_22 : decode cX10_fitsDeed 22 = .ok (.aload_n 0, 1) := by decide +kernel
theorem dX10_fitsDeed_23 : decode cX10_fitsDeed 23 = .ok (.getfield 75, 3) := by decide +kernel
theorem dX10_fitsDeed_26 : decode cX10_fitsDeed 26 = .ok (.getfield 176, 3) := by decide +kernel
theorem dX10_fitsDeed_29 : decode cX10_fitsDeed 29 = .ok (.iload_n 1, 1) := by decide +kernel
theorem dX10_fitsDeed_30 : decode cX10_fitsDeed 30 = .ok (.iconst 0, 1) := by decide +kernel
theorem dX10_fitsDeed_31 : decode cX10_fitsDeed 31 = .ok (.iload 4, 2) := by decide +kernel
theorem dX10_fitsDeed_33 : decode cX10_fitsDeed 33 = .ok (.invokestatic 392, 3) := by decide +kernel
theorem dX10_fitsDeed_36 : decode cX10_fitsDeed 36 = .ok (.iastore, 1) := by decide +kernel
theorem dX10_fitsDeed_37 : decode cX10_fitsDeed 37 = .ok (.aload_n 0, 1) := by decide +kernel
theorem dX10_fitsDeed_38 : decode cX10_fitsDeed 38 = .ok (.getfield 75, 3) := by decide +kernel
theorem dX10_fitsDeed_41 : decode cX10_fitsDeed 41 = .ok (.getfield 182, 3) := by decide +kernel
theorem dX10_fitsDeed_44 : decode cX10_fitsDeed 44 = .ok (.iload_n 1, 1) := by decide +kernel
theorem dX10_fitsDeed_45 : decode cX10_fitsDeed 45 = .ok (.iconst 0, 1) := by decide +kernel
theorem dX10_fitsDeed_46 : decode cX10_fitsDeed 46 = .ok (.iastore, 1) := by decide +kernel
theorem dX10_fitsDeed_47 : decode cX10_fitsDeed 47 = .ok (.aload_n 0, 1) := by decide +kernel
theorem dX10_fitsDeed_48 : decode cX10_fitsDeed 48 = .ok (.iload 4, 2) := by decide +kernel
theorem dX10_fitsDeed_50 : decode cX10_fitsDeed 50 = .ok (.invokevirtual 142, 3) := by decide +kernel
theorem dX10_fitsDeed_53 : decode cX10_fitsDeed 53 = .ok (.ireturn, 1) := by decide +kernel
theorem dX10_fitsDeed_54 : decode cX10_fitsDeed 54 = .ok (.iload_n 2, 1) := by decide +kernel
theorem dX10_fitsDeed_55 : decode cX10_fitsDeed 55 = .ok (.iconst 1, 1) := by decide +kernel
theorem dX10_fitsDeed_56 : decode cX10_fitsDeed 56 = .ok (.if_icmp .ne 25, 3) := by decide +kernel
theorem dX10_fitsDeed_59 : decode cX10_fitsDeed 59 = .ok (.aload_n 0, 1) := by decide +kernel
theorem dX10_fitsDeed_60 : decode cX10_fitsDeed 60 = .ok (.getfield 46, 3) := by decide +kernel
theorem dX10_fitsDeed_63 : decode cX10_fitsDeed 63 = .ok (.getfield 179, 3) := by decide +kernel
theorem dX10_fitsDeed_66 : decode cX10_fitsDeed 66 = .ok (.iload_n 1, 1) := by decide +kernel
theorem dX10_fitsDeed_67 : decode cX10_fitsDeed 67 = .ok (.iload 4, 2) := by decide +kernel
theorem dX10_fitsDeed_69 : decode cX10_fitsDeed 69 = .ok (.iastore, 1) := by decide +kernel
theorem dX10_fitsDeed_70 : decode cX10_fitsDeed 70 = .ok (.iload 4, 2) := by decide +kernel
theorem dX10_fitsDeed_72 : decode cX10_fitsDeed 72 = .ok (.ifCond .le 7, 3) := by decide +kernel
theorem dX10_fitsDeed_75 : decode cX10_fitsDeed 75 = .ok (.iconst 1, 1) := by decide +kernel
theorem dX10_fitsDeed_76 : decode cX10_fitsDeed 76 = .ok (.goto 4, 3) := by decide +kernel
theorem dX10_fitsDeed_79 : decode cX10_fitsDeed 79 = .ok (.iconst 0, 1) := by decide +kernel
theorem dX10_fitsDeed_80 : decode cX10_fitsDeed 80 = .ok (.ireturn, 1) := by decide +kernel
theorem dX10_fitsDeed_81 : decode cX10_fitsDeed 81 = .ok (.aload_n 0, 1) := by decide +kernel
theorem dX10_fitsDeed_82 : decode cX10_fitsDeed 82 = .ok (.getfield 12, 3) := by decide +kernel
theorem dX10_fitsDeed_85 : decode cX10_fitsDeed 85 = .ok (.iload_n 3, 1) := by decide +kernel
theorem dX10_fitsDeed_86 : decode cX10_fitsDeed 86 = .ok (.invokevirtual 230, 3) := by decide +kernel
theorem dX10_fitsDeed_89 : decode cX10_fitsDeed 89 = .ok (.bipush 97, 2) := by decide +kernel
theorem dX10_fitsDeed_91 : decode cX10_fitsDeed 91 = .ok (.isub, 1) := by decide +kernel
theorem dX10_fitsDeed_92 : decode cX10_fitsDeed 92 = .ok (.istore 5, 2) := by decide +kernel
theorem dX10_fitsDeed_94 : decode cX10_fitsDeed 94 = .ok (.iload 5, 2) := by decide +kernel
theorem dX10_fitsDeed_96 : decode cX10_fitsDeed 96 = .ok (.ifCond .lt 28, 3) := by decide +kernel
theorem dX10_fitsDeed_99 : decode cX10_fitsDeed 99 = .ok (.iload 5, 2) := by decide +kernel
theorem dX10_fitsDeed_101 : decode cX10_fitsDeed 101 = .ok (.iconst 4, 1) := by decide +kernel
theorem dX10_fitsDeed_102 : decode cX10_fitsDeed 102 = .ok (.if_icmp .ge 22, 3) := by decide +kernel
theorem dX10_fitsDeed_105 : decode cX10_fitsDeed 105 = .ok (.aload_n 0, 1) := by decide +kernel
theorem dX10_fitsDeed_106 : decode cX10_fitsDeed 106 = .ok (.getfield 75, 3) := by decide +kernel
theorem dX10_fitsDeed_109 : decode cX10_fitsDeed 109 = .ok (.getfield 182, 3) := by decide +kernel
theorem dX10_fitsDeed_112 : decode cX10_fitsDeed 112 = .ok (.iload_n 1, 1) := by decide +kernel
theorem dX10_fitsDeed_113 : decode cX10_fitsDeed 113 = .ok (.iaload, 1) := by decide +kernel
theorem dX10_fitsDeed_114 : decode cX10_fitsDeed 114 = .ok (.iload 5, 2) := by decide +kernel
theorem dX10_fitsDeed_116 : decode cX10_fitsDeed 116 = .ok (.ishr, 1) := by decide +kernel
theorem dX10_fitsDeed_117 : decode cX10_fitsDeed 117 = .ok (.ifCond .ne 7, 3) := by decide +kernel
theorem dX10_fitsDeed_120 : decode cX10_fitsDeed 120 = .ok (.iconst 1, 1) := by decide +kernel
theorem dX10_fitsDeed_121 : decode cX10_fitsDeed 121 = .ok (.goto 4, 3) := by decide +kernel
theorem dX10_fitsDeed_124 : decode cX10_fitsDeed 124 = .ok (.iconst 0, 1) := by decide +kernel
theorem dX10_fitsDeed_125 : decode cX10_fitsDeed 125 = .ok (.istore 6, 2) := by decide +kernel
theorem dX10_fitsDeed_127 : decode cX10_fitsDeed 127 = .ok (.iload 6, 2) := by decide +kernel
theorem dX10_fitsDeed_129 : decode cX10_fitsDeed 129 = .ok (.ifCond .eq 19, 3) := by decide +kernel
theorem dX10_fitsDeed_132 : decode cX10_fitsDeed 132 = .ok (.aload_n 0, 1) := by decide +kernel
theorem dX10_fitsDeed_133 : decode cX10_fitsDeed 133 = .ok (.getfield 75, 3) := by decide +kernel
theorem dX10_fitsDeed_136 : decode cX10_fitsDeed 136 = .ok (.getfield 182, 3) := by decide +kernel
theorem dX10_fitsDeed_139 : decode cX10_fitsDeed 139 = .ok (.iload_n 1, 1) := by decide +kernel
theorem dX10_fitsDeed_140 : decode cX10_fitsDeed 140 = .ok (.dup2, 1) := by decide +kernel
theorem dX10_fitsDeed_141 : decode cX10_fitsDeed 141 = .ok (.iaload, 1) := by decide +kernel
theorem dX10_fitsDeed_142 : decode cX10_fitsDeed 142 = .ok (.iconst 1, 1) := by decide +kernel
theorem dX10_fitsDeed_143 : decode cX10_fitsDeed 143 = .ok (.iload 5, 2) := by decide +kernel
theorem dX10_fitsDeed_145 : decode cX10_fitsDeed 145 = .ok (.ishl, 1) := by decide +kernel
theorem dX10_fitsDeed_146 : decode cX10_fitsDeed 146 = .ok (.ior, 1) := by decide +kernel
theorem dX10_fitsDeed_147 : decode cX10_fitsDeed 147 = .ok (.iastore, 1) := by decide +kernel
theorem dX10_fitsDeed_148 : decode cX10_fitsDeed 148 = .ok (.iload 6, 2) := by decide +kernel
theorem dX10_fitsDeed_150 : decode cX10_fitsDeed 150 = .ok (.ireturn, 1) := by decide +kernel
theorem s_X10_fitsDeed {a1 a2 a3 : Int} {s0 : xW} {q : Int × xW} (h : F_X10_fitsDeed a1 a2 a3 s0 = some q) : xC 2 0 0 mX10_fitsDeed [vR 0, vI a1, vI a2, vI a3] 155 s0 (xRv (vI q.1) q.2) := by
  refine xC.of [vR 0, vI a1, vI a2, vI a3, vX, vX, vX] (by decide +kernel) (Nat.le_of_ble_eq_true rfl) rfl ?_
  unfold F_X10_fitsDeed at h
  refine g_iln dX10_fitsDeed_0 rfl rfl ?_
  refine g_bi dX10_fitsDeed_1 (by decide) ?_
  refine g_wlt dX10_fitsDeed_3 (tgt := 8) rfl rfl (xw_id (by decide)) (fun q1 => ?_) (fun q1 => ?_)
  · replace h := xif_f q1 h
    refine g_aln dX10_fitsDeed_8 rfl rfl (by decide) ?_
    refine g_getC 1 dX10_fitsDeed_9 fl_X10_12 rfl (by decide) ?_
    refine g_iln dX10_fitsDeed_12 rfl rfl ?_
    obtain ⟨r3, e2, h⟩ := xbp_e h
    refine g_cV1v dX10_fitsDeed_13 ml_X10_416 rfl (s_X8_digit e2) (by decide) rfl ?_
    refine g_ist_4 dX10_fitsDeed_16 (by decide) rfl ?_
    refine g_iln dX10_fitsDeed_18 rfl rfl ?_
    refine g_yne dX10_fitsDeed_19 (tgt := 54) rfl rfl (fun q4 => ?_) (fun q4 => ?_)
    · replace h := xif_f q4 h
      refine g_iln dX10_fitsDeed_54 rfl rfl ?_
      refine g_ic dX10_fitsDeed_55 ?_
      refine g_wne dX10_fitsDeed_56 (tgt := 81) rfl rfl (xw_id (by decide)) (fun q5 => ?_) (fun q5 => ?_)
      · replace h := xif_f q5 h
        refine g_aln dX10_fitsDeed_81 rfl rfl (by decide) ?_
        refine g_getC 1 dX10_fitsDeed_82 fl_X10_12 rfl (by decide) ?_
        refine g_iln dX10_fitsDeed_85 rfl rfl ?_
        obtain ⟨r7, e6, h⟩ := xbp_e h
        refine g_cV1v dX10_fitsDeed_86 ml_X10_230 rfl (s_X8_at e6) (by decide) rfl ?_
        refine g_bi dX10_fitsDeed_89 (by decide) ?_
        refine g_isub dX10_fitsDeed_91 ?_
        refine g_ist_5 dX10_fitsDeed_92 (by decide) rfl ?_
        refine g_il dX10_fitsDeed_94 rfl ?_
        obtain ⟨j9, ej10, h⟩ := xjn_e h
        have hj11 : ∀ (t8 : Int), j9 t8 = some q → xG 2 0 0 mX10_fitsDeed 125 [vR 0, vI a1, vX, vX, vX, vI (r7 - 97), vX] [vI t8] 155 s0 (xRv (vI q.1) q.2) := by
          intro t8 h
          rw [ej10] at h
          refine g_ist_6 dX10_fitsDeed_125 (by decide) rfl ?_
          refine g_il dX10_fitsDeed_127 rfl ?_
          obtain ⟨j13, ej14, h⟩ := xjn_e h
          have hj15 : ∀ (s12 : xW), j13 s12 = some q → xG 2 0 0 mX10_fitsDeed 148 [vX, vX, vX, vX, vX, vX, vI t8] [] 155 s12 (xRv (vI q.1) q.2) := by
            intro s12 h
            rw [ej14] at h
            refine g_il dX10_fitsDeed_148 rfl ?_
            obtain ⟨hg16, h⟩ := xgd_e h
            exact g_rZ rfl dX10_fitsDeed_150 hg16 h
          clear ej14
          refine g_yeq dX10_fitsDeed_129 (tgt := 148) rfl rfl (fun q17 => ?_) (fun q17 => ?_)
          · replace h := xif_f q17 h
            refine g_drop_0 ?_
            refine g_drop_1 ?_
            refine g_drop_5 ?_
            exact hj15 s0 h
          · replace h := xif_t q17 h
            refine g_aln dX10_fitsDeed_132 rfl rfl (by decide) ?_
            refine g_getC 92 dX10_fitsDeed_133 fl_X10_75 rfl (by decide) ?_
            refine g_getC 94 dX10_fitsDeed_136 fl_X10_182 rfl (by decide) ?_
            refine g_iln dX10_fitsDeed_139 rfl rfl ?_
            refine g_dup2 dX10_fitsDeed_140 rfl rfl ?_
            obtain ⟨hg18, h⟩ := xgd_e h
            refine g_iald 8 dX10_fitsDeed_141 rfl hg18 (by decide) ?_
            refine g_ic dX10_fitsDeed_142 ?_
            refine g_il dX10_fitsDeed_143 rfl ?_
            refine g_ishl dX10_fitsDeed_145 ?_
            refine g_ior dX10_fitsDeed_146 ?_
            obtain ⟨hg19, h⟩ := xgd_e h
            obtain ⟨s20, e21, h⟩ := xlt_e h
            refine h_iast 8 dX10_fitsDeed_147 rfl hg19 (by decide) e21 ?_
            refine g_drop_0 ?_
            refine g_drop_1 ?_
            refine g_drop_5 ?_
            exact hj15 s20 h
        clear ej10
        obtain ⟨j22, ej23, h⟩ := xjn_e h
        have hj24 : j22  = some q → xG 2 0 0 mX10_fitsDeed 124 [vR 0, vI a1, vX, vX, vX, vI (r7 - 97), vX] [] 155 s0 (xRv (vI q.1) q.2) := by
          intro  h
          rw [ej23] at h
          refine g_ic dX10_fitsDeed_124 ?_
          exact hj11 0 h
        clear ej23
        refine g_ylt dX10_fitsDeed_96 (tgt := 124) rfl rfl (fun q25 => ?_) (fun q25 => ?_)
        · replace h := xif_f q25 h
          refine g_drop_2 ?_
          refine g_drop_3 ?_
          refine g_drop_4 ?_
          exact hj24  h
        · replace h := xif_t q25 h
          refine g_il dX10_fitsDeed_99 rfl ?_
          refine g_ic dX10_fitsDeed_101 ?_
          refine g_wge dX10_fitsDeed_102 (tgt := 124) rfl rfl (xw_id (by decide)) (fun q26 => ?_) (fun q26 => ?_)
          · replace h := xif_f q26 h
            refine g_drop_2 ?_
            refine g_drop_3 ?_
            refine g_drop_4 ?_
            exact hj24  h
          · replace h := xif_t q26 h
            refine g_aln dX10_fitsDeed_105 rfl rfl (by decide) ?_
            refine g_getC 92 dX10_fitsDeed_106 fl_X10_75 rfl (by decide) ?_
            refine g_getC 94 dX10_fitsDeed_109 fl_X10_182 rfl (by decide) ?_
            refine g_iln dX10_fitsDeed_112 rfl rfl ?_
            obtain ⟨hg27, h⟩ := xgd_e h
            refine g_iald 8 dX10_fitsDeed_113 rfl hg27 (by decide) ?_
            refine g_il dX10_fitsDeed_114 rfl ?_
            refine g_ishr dX10_fitsDeed_116 ?_
            refine g_yne dX10_fitsDeed_117 (tgt := 124) rfl rfl (fun q28 => ?_) (fun q28 => ?_)
            · replace h := xif_f q28 h
              refine g_drop_2 ?_
              refine g_drop_3 ?_
              refine g_drop_4 ?_
              exact hj24  h
            · replace h := xif_t q28 h
              refine g_ic dX10_fitsDeed_120 ?_
              refine g_goto dX10_fitsDeed_121 (tgt := 125) rfl ?_
              refine g_drop_2 ?_
              refine g_drop_3 ?_
              refine g_drop_4 ?_
              exact hj11 1 h
      · replace h := xif_t q5 h
        refine g_aln dX10_fitsDeed_59 rfl rfl (by decide) ?_
        refine g_getC 17 dX10_fitsDeed_60 fl_X10_46 rfl (by decide) ?_
        refine g_getC 20 dX10_fitsDeed_63 fl_X10_179 rfl (by decide) ?_
        refine g_iln dX10_fitsDeed_66 rfl rfl ?_
        refine g_il dX10_fitsDeed_67 rfl ?_
        obtain ⟨hg29, h⟩ := xgd_e h
        obtain ⟨s30, e31, h⟩ := xlt_e h
        refine h_iast 8 dX10_fitsDeed_69 rfl hg29 (by decide) e31 ?_
        refine g_il dX10_fitsDeed_70 rfl ?_
        obtain ⟨v33, e34, h⟩ := xlt_e h
        have hj35 : xG 2 0 0 mX10_fitsDeed 80 [vX, vX, vX, vX, vX, vX, vX] [vI v33] 155 s30 (xRv (vI q.1) q.2) := by
          obtain ⟨hg36, h⟩ := xgd_e h
          exact g_rZ rfl dX10_fitsDeed_80 hg36 h
        refine g_yle dX10_fitsDeed_72 (tgt := 79) rfl rfl (fun c32 => ?_) (fun c32 => ?_)
        · skip
          refine g_ic dX10_fitsDeed_79 ?_
          refine g_drop_0 ?_
          refine g_drop_1 ?_
          refine g_drop_2 ?_
          refine g_drop_3 ?_
          refine g_drop_4 ?_
          exact g_vq ((if_neg c32).symm.trans e34) hj35
        · skip
          refine g_ic dX10_fitsDeed_75 ?_
          refine g_goto dX10_fitsDeed_76 (tgt := 80) rfl ?_
          refine g_drop_0 ?_
          refine g_drop_1 ?_
          refine g_drop_2 ?_
          refine g_drop_3 ?_
          refine g_drop_4 ?_
          exact g_vq ((if_pos c32).symm.trans e34) hj35
    · replace h := xif_t q4 h
      refine g_aln dX10_fitsDeed_22 rfl rfl (by decide) ?_
      refine g_getC 92 dX10_fitsDeed_23 fl_X10_75 rfl (by decide) ?_
      refine g_getC 93 dX10_fitsDeed_26 fl_X10_176 rfl (by decide) ?_
      refine g_iln dX10_fitsDeed_29 rfl rfl ?_
      refine g_ic dX10_fitsDeed_30 ?_
      refine g_il dX10_fitsDeed_31 rfl ?_
      refine g_wmax dX10_fitsDeed_33 mx_X10_392 (xw_id (by decide)) rfl (by decide) rfl ?_
      obtain ⟨hg37, h⟩ := xgd_e h
      obtain ⟨s38, e39, h⟩ := xlt_e h
      refine h_iast 8 dX10_fitsDeed_36 rfl hg37 (by decide) e39 ?_
      refine g_aln dX10_fitsDeed_37 rfl rfl (by decide) ?_
      refine g_getC 92 dX10_fitsDeed_38 fl_X10_75 rfl (by decide) ?_
      refine g_getC 94 dX10_fitsDeed_41 fl_X10_182 rfl (by decide) ?_
      refine g_iln dX10_fitsDeed_44 rfl rfl ?_
      refine g_ic dX10_fitsDeed_45 ?_
      obtain ⟨hg40, h⟩ := xgd_e h
      obtain ⟨s41, e42, h⟩ := xlt_e h
      refine h_iast 8 dX10_fitsDeed_46 rfl hg40 (by decide) e42 ?_
      refine g_aln dX10_fitsDeed_47 rfl rfl (by decide) ?_
      refine g_il dX10_fitsDeed_48 rfl ?_
      obtain ⟨r44, e43, h⟩ := xbp_e h
      refine g_cV1v dX10_fitsDeed_50 ml_X10_142 rfl (s_X10_isHouse e43) (by decide) rfl ?_
      obtain ⟨hg45, h⟩ := xgd_e h
      exact g_rZ rfl dX10_fitsDeed_53 hg45 h
  · replace h := xif_t q1 h
    refine g_ic dX10_fitsDeed_6 ?_
    exact g_rZ rfl dX10_fitsDeed_7 (by decide) h
theorem dX10_readDeeds_0 : decode cX10_readDeeds 0 = .ok (.iconst 0, 1) := by decide +kernel
theorem dX10_readDeeds_1 : decode cX10_readDeeds 1 = .ok (.istore_n 1, 1) := by decide +kernel
theorem dX10_readDeeds_2 : decode cX10_readDeeds 2 = .ok (.iconst 0, 1) := by decide +kernel
theorem dX10_readDeeds_3 : decode cX10_readDeeds 3 = .ok (.istore_n 2, 1) := by decide +kernel
theorem dX10_readDeeds_4 : decode cX10_readDeeds 4 = .ok (.iconst 0, 1) := by decide +kernel
theorem dX10_readDeeds_5 : decode cX10_readDeeds 5 = .ok (.istore_n 3, 1) := by decide +kernel
theorem dX10_readDeeds_6 : decode cX10_readDeeds 6 = .ok (.iload_n 3, 1) := by decide +kernel
theorem dX10_readDeeds_7 : decode cX10_readDeeds 7 = .ok (.aload_n 0, 1) := by decide +kernel
theorem dX10_readDeeds_8 : decode cX10_readDeeds 8 = .ok (.getfield 12, 3) := by decide +kernel
theorem dX10_readDeeds_11 : decode cX10_readDeeds 11 = .ok (.getfield 112, 3) := by decide +kernel
theorem dX10_readDeeds_14 : decode cX10_readDeeds 14 = .ok (.if_icmp .ge 73, 3) := by decide +kernel
theorem dX10_readDeeds_17 : decode cX10_readDeeds 17 = .ok (.iload_n 3, 1) := by decide +kernel
theorem dX10_readDeeds_18 : decode cX10_readDeeds 18 = .ok (.bipush 55, 2) := by decide +kernel
theorem dX10_readDeeds_20 : decode cX10_readDeeds 20 = .ok (.if_icmp .ne 7, 3) := by decide +kernel
theorem dX10_readDeeds_23 : decode cX10_readDeeds 23 = .ok (.iconst (-1), 1) := by decide +kernel
theorem dX10_readDeeds_24 : decode cX10_readDeeds 24 = .ok (.iload_n 3, 1) := by decide +kernel
theorem dX10_readDeeds_25 : decode cX10_readDeeds 25 = .ok (.isub, 1) := by decide +kernel
theorem dX10_readDeeds_26 : decode cX10_readDeeds 26 = .ok (.ireturn, 1) := by decide +kernel
theorem dX10_readDeeds_27 : decode cX10_readDeeds 27 = .ok (.iload_n 2, 1) := by decide +kernel
theorem dX10_readDeeds_28 : decode cX10_readDeeds 28 = .ok (.iconst 2, 1) := by decide +kernel
theorem dX10_readDeeds_29 : decode cX10_readDeeds 29 = .ok (.if_icmp .le 24, 3) := by decide +kernel
theorem dX10_readDeeds_32 : decode cX10_readDeeds 32 = .ok (.aload_n 0, 1) := by decide +kernel
theorem dX10_readDeeds_33 : decode cX10_readDeeds 33 = .ok (.getfield 12, 3) := by decide +kernel
theorem dX10_readDeeds_36 : decode cX10_readDeeds 36 = .ok (.iload_n 3, 1) := by decide +kernel
theorem dX10_readDeeds_37 : decode cX10_readDeeds 37 = .ok (.invokevirtual 230, 3) := by decide +kernel
theorem dX10_readDeeds_40 : decode cX10_readDeeds 40 = .ok (.bipush 59, 2) := by decide +kernel
theorem dX10_readDeeds_42 : decode cX10_readDeeds 42 = .ok (.if_icmp .ne 11, 3) := by decide +kernel
theorem dX10_readDeeds_45 : decode cX10_readDeeds 45 = .ok (.iinc 1 1, 3) := by decide +kernel
theorem dX10_readDeeds_48 : decode cX10_readDeeds 48 = .ok (.iconst 0, 1) := by decide +kernel
theorem dX10_readDeeds_49 : decode cX10_readDeeds 49 = .ok (.istore_n 2, 1) := by decide +kernel
theorem dX10_readDeeds_50 : decode cX10_readDeeds 50 = .ok (.goto 31, 3) := by decide +kernel
theorem dX10_readDeeds_53 : decode cX10_readDeeds 53 = .ok (.aload_n 0, 1) := by decide +kernel
theorem dX10_readDeeds_54 : decode cX10_readDeeds 54 = .ok (.aload_n 0, 1) := by decide +kernel
theorem dX10_readDeeds_55 : decode cX10_readDeeds 55 = .ok (.getfield 75, 3) := by decide +kernel
theorem dX10_readDeeds_58 : decode cX10_readDeeds 58 = .ok (.getfield 131, 3) := by decide +kernel
theorem dX10_readDeeds_61 : decode cX10_readDeeds 61 = .ok (.iload_n 1, 1) := by decide +kernel
theorem dX10_readDeeds_62 : decode cX10_readDeeds 62 = .ok (.iadd, 1) := by decide +kernel
theorem dX10_readDeeds_63 : decode cX10_readDeeds 63 = .ok (.iload_n 2, 1) := by decide +kernel
theorem dX10_readDeeds_64 : decode cX10_readDeeds 64 = .ok (.iload_n 3, 1) := by decide +kernel
theorem dX10_readDeeds_65 : decode cX10_readDeeds 65 = .ok (.invokevirtual 419, 3) := by decide +kernel
theorem dX10_readDeeds_68 : decode cX10_readDeeds 68 = .ok (.ifCond .eq 9, 3) := by decide +kernel
theorem dX10_readDeeds_71 : decode cX10_readDeeds 71 = .ok (.iinc 2 1, 3) := by decide +kernel
theorem dX10_readDeeds_74 : decode cX10_readDeeds 74 = .ok (.goto 7, 3) := by decide +kernel
theorem dX10_readDeeds_77 : decode cX10_readDeeds 77 = .ok (.iconst (-1), 1) := by decide +kernel
theorem dX10_readDeeds_78 : decode cX10_readDeeds 78 = .ok (.iload_n 3, 1) := by decide +kernel
theorem dX10_readDeeds_79 : decode cX10_readDeeds 79 = .ok (.isub, 1) := by decide +kernel
theorem dX10_readDeeds_80 : decode cX10_readDeeds 80 = .ok (.ireturn, 1) := by decide +kernel
theorem dX10_readDeeds_81 : decode cX10_readDeeds 81 = .ok (.iinc 3 1, 3) := by decide +kernel
theorem dX10_readDeeds_84 : decode cX10_readDeeds 84 = .ok (.goto (-78), 3) := by decide +kernel
theorem dX10_readDeeds_87 : decode cX10_readDeeds 87 = .ok (.iload_n 2, 1) := by decide +kernel
theorem dX10_readDeeds_88 : decode cX10_readDeeds 88 = .ok (.iconst 2, 1) := by decide +kernel
theorem dX10_readDeeds_89 : decode cX10_readDeeds 89 = .ok (.if_icmp .le 9, 3) := by decide +kernel
theorem dX10_readDeeds_92 : decode cX10_readDeeds 92 = .ok (.iload_n 1, 1) := by decide +kernel
theorem dX10_readDeeds_93 : decode cX10_readDeeds 93 = .ok (.iconst 1, 1) := by decide +kernel
theorem dX10_readDeeds_94 : decode cX10_readDeeds 94 = .ok (.iadd, 1) := by decide +kernel
theorem dX10_readDeeds_95 : decode cX10_readDeeds 95 = .ok (.goto 12, 3) := by decide +kernel
theorem dX10_readDeeds_98 : decode cX10_readDeeds 98 = .ok (.iconst (-1), 1) := by decide +kernel
theorem dX10_readDeeds_99 : decode cX10_readDeeds 99 = .ok (.aload_n 0, 1) := by decide +kernel
theorem dX10_readDeeds_100 : decode cX10_readDeeds 100 = .ok (.getfield 12, 3) := by decide +kernel
theorem dX10_readDeeds_103 : decode cX10_readDeeds 103 = .ok (.getfield 112, 3) := by decide +kernel
theorem dX10_readDeeds_106 : decode cX10_readDeeds 106 = .ok (.isub, 1) := by decide +kernel
theorem dX10_readDeeds_107 : decode cX10_readDeeds 107 = .ok (.ireturn, 1) := by decide +kernel
theorem s_X10_readDeeds_6 {q : Int × xW} {k : Int → Int → Int → xW → Option (Int × xW)} (hk : ∀ (l1_24 : Int) (l2_25 : Int) (l3_26 : Int) (s27 : xW), k l1_24 l2_25 l3_26 s27 = some q → xG 3 0 0 mX10_readDeeds 87 [vR 0, vI l1_24, vI l2_25, vI l3_26] [] 155 s27 (xRv (vI q.1) q.2)) : ∀ (f : Nat) (l1_1 : Int) (l2_2 : Int) (l3_3 : Int) (s4 : xW), F_X10_readDeeds_6  f l1_1 l2_2 l3_3 s4 k = some q → xG 3 0 0 mX10_readDeeds 6 [vR 0, vI l1_1, vI l2_2, vI l3_3] [] 155 s4 (xRv (vI q.1) q.2) := by
  intro f
  induction f with
  | zero => intro l1_1 l2_2 l3_3 s4 h; cases h
  | succ f ih =>
    intro l1_1 l2_2 l3_3 s4 h
    unfold F_X10_readDeeds_6 at h
    refine g_iln dX10_readDeeds_6 rfl rfl ?_
    refine g_aln dX10_readDeeds_7 rfl rfl (by decide) ?_
    refine g_getC 1 dX10_readDeeds_8 fl_X10_12 rfl (by decide) ?_
    refine g_getI 1 dX10_readDeeds_11 fl_X10_112 rfl rfl ?_
    refine g_wge dX10_readDeeds_14 (tgt := 87) rfl rfl rfl (fun q5 => ?_) (fun q5 => ?_)
    · replace h := xif_f q5 h
      exact hk l1_1 l2_2 l3_3 s4 h
    · replace h := xif_t q5 h
      refine g_iln dX10_readDeeds_17 rfl rfl ?_
      refine g_bi dX10_readDeeds_18 (by decide) ?_
      refine g_wne dX10_readDeeds_20 (tgt := 27) rfl rfl (xw_id (by decide)) (fun q6 => ?_) (fun q6 => ?_)
      · replace h := xif_f q6 h
        refine g_iln dX10_readDeeds_27 rfl rfl ?_
        refine g_ic dX10_readDeeds_28 ?_
        obtain ⟨j10, ej11, h⟩ := xjn_e h
        have hj12 : ∀ (l1_7 : Int) (l2_8 : Int) (s9 : xW), j10 l1_7 l2_8 s9 = some q → xG 3 0 0 mX10_readDeeds 81 [vR 0, vI l1_7, vI l2_8, vI l3_3] [] 155 s9 (xRv (vI q.1) q.2) := by
          intro l1_7 l2_8 s9 h
          rw [ej11] at h
          refine g_inc_3 dX10_readDeeds_81 (by decide) rfl ?_
          refine g_goto dX10_readDeeds_84 (tgt := 6) rfl ?_
          exact ih l1_7 l2_8 (l3_3 + 1) s9 h
        clear ej11
        obtain ⟨j13, ej14, h⟩ := xjn_e h
        have hj15 : j13  = some q → xG 3 0 0 mX10_readDeeds 53 [vR 0, vI l1_1, vI l2_2, vI l3_3] [] 155 s4 (xRv (vI q.1) q.2) := by
          intro  h
          rw [ej14] at h
          refine g_aln dX10_readDeeds_53 rfl rfl (by decide) ?_
          refine g_aln dX10_readDeeds_54 rfl rfl (by decide) ?_
          refine g_getC 92 dX10_readDeeds_55 fl_X10_75 rfl (by decide) ?_
          refine g_getI 0 dX10_readDeeds_58 fl_X10_131 rfl rfl ?_
          refine g_iln dX10_readDeeds_61 rfl rfl ?_
          refine g_iadd dX10_readDeeds_62 ?_
          refine g_iln dX10_readDeeds_63 rfl rfl ?_
          refine g_iln dX10_readDeeds_64 rfl rfl ?_
          obtain ⟨r17, s18, e16, h⟩ := xbd_e h
          refine g_cV3v dX10_readDeeds_65 ml_X10_419 rfl (s_X10_fitsDeed e16) (by decide) rfl ?_
          refine g_yeq dX10_readDeeds_68 (tgt := 77) rfl rfl (fun q19 => ?_) (fun q19 => ?_)
          · replace h := xif_f q19 h
            refine g_ic dX10_readDeeds_77 ?_
            refine g_iln dX10_readDeeds_78 rfl rfl ?_
            refine g_isub dX10_readDeeds_79 ?_
            exact g_rI rfl dX10_readDeeds_80 h
          · replace h := xif_t q19 h
            refine g_inc_2 dX10_readDeeds_71 (by decide) rfl ?_
            refine g_goto dX10_readDeeds_74 (tgt := 81) rfl ?_
            exact hj12 l1_1 (l2_2 + 1) s18 h
        clear ej14
        refine g_wle dX10_readDeeds_29 (tgt := 53) rfl rfl (xw_id (by decide)) (fun q20 => ?_) (fun q20 => ?_)
        · replace h := xif_f q20 h
          exact hj15  h
        · replace h := xif_t q20 h
          refine g_aln dX10_readDeeds_32 rfl rfl (by decide) ?_
          refine g_getC 1 dX10_readDeeds_33 fl_X10_12 rfl (by decide) ?_
          refine g_iln dX10_readDeeds_36 rfl rfl ?_
          obtain ⟨r22, e21, h⟩ := xbp_e h
          refine g_cV1v dX10_readDeeds_37 ml_X10_230 rfl (s_X8_at e21) (by decide) rfl ?_
          refine g_bi dX10_readDeeds_40 (by decide) ?_
          refine g_wne dX10_readDeeds_42 (tgt := 53) rfl rfl (xw_id (by decide)) (fun q23 => ?_) (fun q23 => ?_)
          · replace h := xif_f q23 h
            exact hj15  h
          · replace h := xif_t q23 h
            refine g_inc_1 dX10_readDeeds_45 (by decide) rfl ?_
            refine g_ic dX10_readDeeds_48 ?_
            refine g_istn_2 dX10_readDeeds_49 (by decide) rfl ?_
            refine g_goto dX10_readDeeds_50 (tgt := 81) rfl ?_
            exact hj12 (l1_1 + 1) 0 s4 h
      · replace h := xif_t q6 h
        refine g_ic dX10_readDeeds_23 ?_
        refine g_iln dX10_readDeeds_24 rfl rfl ?_
        refine g_isub dX10_readDeeds_25 ?_
        exact g_rI rfl dX10_readDeeds_26 h
theorem s_X10_readDeeds {s0 : xW} {q : Int × xW} (h : F_X10_readDeeds  s0 = some q) : xC 3 0 0 mX10_readDeeds [vR 0] 155 s0 (xRv (vI q.1) q.2) := by
  refine xC.of [vR 0, vX, vX, vX] (by decide +kernel) (Nat.le_of_ble_eq_true rfl) rfl ?_
  unfold F_X10_readDeeds at h
  refine g_ic dX10_readDeeds_0 ?_
  refine g_istn_1 dX10_readDeeds_1 (by decide) rfl ?_
  refine g_ic dX10_readDeeds_2 ?_
  refine g_istn_2 dX10_readDeeds_3 (by decide) rfl ?_
  refine g_ic dX10_readDeeds_4 ?_
  refine g_istn_3 dX10_readDeeds_5 (by decide) rfl ?_
  refine s_X10_readDeeds_6 (fun l1_28 l2_29 l3_30 s31 h => ?_) xN _ _ _ _ h
  refine g_iln dX10_readDeeds_87 rfl rfl ?_
  refine g_ic dX10_readDeeds_88 ?_
  obtain ⟨v33, e34, h⟩ := xlt_e h
  have hj35 : xG 3 0 0 mX10_readDeeds 107 [vX, vX, vX, vX] [vI v33] 155 s31 (xRv (vI q.1) q.2) := by
    exact g_rI rfl dX10_readDeeds_107 h
  refine g_wle dX10_readDeeds_89 (tgt := 98) rfl rfl (xw_id (by decide)) (fun c32 => ?_) (fun c32 => ?_)
  · skip
    refine g_ic dX10_readDeeds_98 ?_
    refine g_aln dX10_readDeeds_99 rfl rfl (by decide) ?_
    refine g_getC 1 dX10_readDeeds_100 fl_X10_12 rfl (by decide) ?_
    refine g_getI 1 dX10_readDeeds_103 fl_X10_112 rfl rfl ?_
    refine g_isub dX10_readDeeds_106 ?_
    refine g_drop_0 ?_
    refine g_drop_1 ?_
    refine g_drop_2 ?_
    refine g_drop_3 ?_
    exact g_vq ((if_neg c32).symm.trans e34) hj35
  · skip
    refine g_iln dX10_readDeeds_92 rfl rfl ?_
    refine g_ic dX10_readDeeds_93 ?_
    refine g_iadd dX10_readDeeds_94 ?_
    refine g_goto dX10_readDeeds_95 (tgt := 107) rfl ?_
    refine g_drop_0 ?_
    refine g_drop_1 ?_
    refine g_drop_2 ?_
    refine g_drop_3 ?_
    exact g_vq ((if_pos c32).symm.trans e34) hj35
theorem dX10_forgetPast_0 : decode cX10_forgetPast 0 = .ok (.aload_n 0, 1) := by decide +kernel
theorem dX10_forgetPast_1 : decode cX10_forgetPast 1 = .ok (.getfield 53, 3) := by decide +kernel
theorem dX10_forgetPast_4 : decode cX10_forgetPast 4 = .ok (.invokevirtual 401, 3) := by decide +kernel
theorem dX10_forgetPast_7 : decode cX10_forgetPast 7 = .ok (.iconst 0, 1) := by decide +kernel
theorem dX10_forgetPast_8 : decode cX10_forgetPast 8 = .ok (.istore_n 1, 1) := by decide +kernel
theorem dX10_forgetPast_9 : decode cX10_forgetPast 9 = .ok (.iload_n 1, 1) := by decide +kernel
theorem dX10_forgetPast_10 : decode cX10_forgetPast 10 = .ok (.iconst 3, 1) := by decide +kernel
theorem dX10_forgetPast_11 : decode cX10_forgetPast 11 = .ok (.if_icmp .ge 16, 3) := by decide +kernel
theorem dX10_forgetPast_14 : decode cX10_forgetPast 14 = .ok (.aload_n 0, 1) := by decide +kernel
theorem dX10_forgetPast_15 : decode cX10_forgetPast 15 = .ok (.getfield 61, 3) := by decide +kernel
theorem dX10_forgetPast_18 : decode cX10_forgetPast 18 = .ok (.iload_n 1, 1) := by decide +kernel
theorem dX10_forgetPast_19 : decode cX10_forgetPast 19 = .ok (.iconst 0, 1) := by decide +kernel
theorem dX10_forgetPast_20 : decode cX10_forgetPast 20 = .ok (.bastore, 1) := by decide +kernel
theorem dX10_forgetPast_21 : decode cX10_forgetPast 21 = .ok (.iinc 1 1, 3) := by decide +kernel
theorem dX10_forgetPast_24 : decode cX10_forgetPast 24 = .ok (.goto (-15), 3) := by decide +kernel
theorem dX10_forgetPast_27 : decode cX10_forgetPast 27 = .ok (.return_, 1) := by decide +kernel
theorem s_X10_forgetPast_9 {q : xW} {k : Int → xW → Option (xW)} (hk : ∀ (l1_9 : Int) (s10 : xW), k l1_9 s10 = some q → xG 1 0 0 mX10_forgetPast 27 [vR 0, vI l1_9] [] 155 s10 (xR0 q)) : ∀ (f : Nat) (l1_3 : Int) (s4 : xW), F_X10_forgetPast_9  f l1_3 s4 k = some q → xG 1 0 0 mX10_forgetPast 9 [vR 0, vI l1_3] [] 155 s4 (xR0 q) := by
  intro f
  induction f with
  | zero => intro l1_3 s4 h; cases h
  | succ f ih =>
    intro l1_3 s4 h
    unfold F_X10_forgetPast_9 at h
    refine g_iln dX10_forgetPast_9 rfl rfl ?_
    refine g_ic dX10_forgetPast_10 ?_
    refine g_wge dX10_forgetPast_11 (tgt := 27) rfl rfl (xw_id (by decide)) (fun q5 => ?_) (fun q5 => ?_)
    · replace h := xif_f q5 h
      exact hk l1_3 s4 h
    · replace h := xif_t q5 h
      refine g_aln dX10_forgetPast_14 rfl rfl (by decide) ?_
      refine g_getC 88 dX10_forgetPast_15 fl_X10_61 rfl (by decide) ?_
      refine g_iln dX10_forgetPast_18 rfl rfl ?_
      refine g_ic dX10_forgetPast_19 ?_
      obtain ⟨hg6, h⟩ := xgd_e h
      obtain ⟨s7, e8, h⟩ := xlt_e h
      refine h_zast 3 dX10_forgetPast_20 rfl hg6 (by decide) (by decide) e8 ?_
      refine g_inc_1 dX10_forgetPast_21 (by decide) rfl ?_
      refine g_goto dX10_forgetPast_24 (tgt := 9) rfl ?_
      exact ih (l1_3 + 1) s7 h
theorem s_X10_forgetPast {s0 : xW} {q : xW} (h : F_X10_forgetPast  s0 = some q) : xC 1 0 0 mX10_forgetPast [vR 0] 155 s0 (xR0 q) := by
  refine xC.of [vR 0, vX] (by decide +kernel) (Nat.le_of_ble_eq_true rfl) rfl ?_
  unfold F_X10_forgetPast at h
  refine g_aln dX10_forgetPast_0 rfl rfl (by decide) ?_
  refine g_getC 21 dX10_forgetPast_1 fl_X10_53 rfl (by decide) ?_
  obtain ⟨s2, e1, h⟩ := xbp_e h
  refine g_cV00 dX10_forgetPast_4 ml_X10_401 rfl (s_X3_drop e1) (by decide) rfl ?_
  refine g_ic dX10_forgetPast_7 ?_
  refine g_istn_1 dX10_forgetPast_8 (by decide) rfl ?_
  refine s_X10_forgetPast_9 (fun l1_11 s12 h => ?_) xN _ _ h
  exact g_rV rfl dX10_forgetPast_27 h
theorem dX10_deeds_0 : decode cX10_deeds 0 = .ok (.aload_n 0, 1) := by decide +kernel
theorem dX10_deeds_1 : decode cX10_deeds 1 = .ok (.getfield 12, 3) := by decide +kernel
theorem dX10_deeds_4 : decode cX10_deeds 4 = .ok (.getfield 112, 3) := by decide +kernel
theorem dX10_deeds_7 : decode cX10_deeds 7 = .ok (.ifCond .ne 7, 3) := by decide +kernel
theorem dX10_deeds_10 : decode cX10_deeds 10 = .ok (.iconst 0, 1) := by decide +kernel
theorem dX10_deeds_11 : decode cX10_deeds 11 = .ok (.goto 7, 3) := by decide +kernel
theorem dX10_deeds_14 : decode cX10_deeds 14 = .ok (.aload_n 0, 1) := by decide +kernel
theorem dX10_deeds_15 : decode cX10_deeds 15 = .ok (.invokevirtual 128, 3) := by decide +kernel
theorem dX10_deeds_18 : decode cX10_deeds 18 = .ok (.istore_n 1, 1) := by decide +kernel
theorem dX10_deeds_19 : decode cX10_deeds 19 = .ok (.iload_n 1, 1) := by decide +kernel
theorem dX10_deeds_20 : decode cX10_deeds 20 = .ok (.ifCond .le 20, 3) := by decide +kernel
theorem dX10_deeds_23 : decode cX10_deeds 23 = .ok (.aload_n 0, 1) := by decide +kernel
theorem dX10_deeds_24 : decode cX10_deeds 24 = .ok (.getfield 75, 3) := by decide +kernel
theorem dX10_deeds_27 : decode cX10_deeds 27 = .ok (.dup, 1) := by decide +kernel
theorem dX10_deeds_28 : decode cX10_deeds 28 = .ok (.getfield 131, 3) := by decide +kernel
theorem dX10_deeds_31 : decode cX10_deeds 31 = .ok (.iload_n 1, 1) := by decide +kernel
theorem dX10_deeds_32 : decode cX10_deeds 32 = .ok (.iadd, 1) := by decide +kernel
theorem dX10_deeds_33 : decode cX10_deeds 33 = .ok (.putfield 131, 3) := by decide +kernel
theorem dX10_deeds_36 : decode cX10_deeds 36 = .ok (.aload_n 0, 1) := by decide +kernel
theorem dX10_deeds_37 : decode cX10_deeds 37 = .ok (.invokevirtual 122, 3) := by decide +kernel
theorem dX10_deeds_40 : decode cX10_deeds 40 = .ok (.aload_n 0, 1) := by decide +kernel
theorem dX10_deeds_41 : decode cX10_deeds 41 = .ok (.getfield 12, 3) := by decide +kernel
theorem dX10_deeds_44 : decode cX10_deeds 44 = .ok (.invokevirtual 125, 3) := by decide +kernel
theorem dX10_deeds_47 : decode cX10_deeds 47 = .ok (.iload_n 1, 1) := by decide +kernel
theorem dX10_deeds_48 : decode cX10_deeds 48 = .ok (.ireturn, 1) := by decide +kernel
theorem s_X10_deeds {s0 : xW} {q : Int × xW} (h : F_X10_deeds  s0 = some q) : xC 4 0 0 mX10_deeds [vR 0] 155 s0 (xRv (vI q.1) q.2) := by
  refine xC.of [vR 0, vX] (by decide +kernel) (Nat.le_of_ble_eq_true rfl) rfl ?_
  unfold F_X10_deeds at h
  refine g_aln dX10_deeds_0 rfl rfl (by decide) ?_
  refine g_getC 1 dX10_deeds_1 fl_X10_12 rfl (by decide) ?_
  refine g_getI 1 dX10_deeds_4 fl_X10_112 rfl rfl ?_
  obtain ⟨j3, ej4, h⟩ := xjn_e h
  have hj5 : ∀ (t1 : Int) (s2 : xW), j3 t1 s2 = some q → xG 4 0 0 mX10_deeds 18 [vR 0, vX] [vI t1] 155 s2 (xRv (vI q.1) q.2) := by
    intro t1 s2 h
    rw [ej4] at h
    refine g_istn_1 dX10_deeds_18 (by decide) rfl ?_
    refine g_iln dX10_deeds_19 rfl rfl ?_
    obtain ⟨j7, ej8, h⟩ := xjn_e h
    have hj9 : ∀ (s6 : xW), j7 s6 = some q → xG 4 0 0 mX10_deeds 40 [vR 0, vI t1] [] 155 s6 (xRv (vI q.1) q.2) := by
      intro s6 h
      rw [ej8] at h
      refine g_aln dX10_deeds_40 rfl rfl (by decide) ?_
      refine g_getC 1 dX10_deeds_41 fl_X10_12 rfl (by decide) ?_
      obtain ⟨s11, e10, h⟩ := xbp_e h
      refine g_cV00 dX10_deeds_44 ml_X10_125 rfl (s_X8_clear e10) (by decide) rfl ?_
      refine g_iln dX10_deeds_47 rfl rfl ?_
      exact g_rI rfl dX10_deeds_48 h
    clear ej8
    refine g_yle dX10_deeds_20 (tgt := 40) rfl rfl (fun q12 => ?_) (fun q12 => ?_)
    · replace h := xif_f q12 h
      exact hj9 s2 h
    · replace h := xif_t q12 h
      refine g_aln dX10_deeds_23 rfl rfl (by decide) ?_
      refine g_getC 92 dX10_deeds_24 fl_X10_75 rfl (by decide) ?_
      refine g_dup dX10_deeds_27 rfl ?_
      refine g_getI 0 dX10_deeds_28 fl_X10_131 rfl rfl ?_
      refine g_iln dX10_deeds_31 rfl rfl ?_
      refine g_iadd dX10_deeds_32 ?_
      obtain ⟨s13, e14, h⟩ := xlt_e h
      refine h_putI 0 dX10_deeds_33 fl_X10_131 rfl rfl e14 ?_
      refine g_aln dX10_deeds_36 rfl rfl (by decide) ?_
      obtain ⟨s16, e15, h⟩ := xbp_e h
      refine g_cV00 dX10_deeds_37 ml_X10_122 rfl (s_X10_forgetPast e15) (by decide) rfl ?_
      exact hj9 s16 h
  clear ej4
  refine g_yne dX10_deeds_7 (tgt := 14) rfl rfl (fun q17 => ?_) (fun q17 => ?_)
  · replace h := xif_f q17 h
    refine g_aln dX10_deeds_14 rfl rfl (by decide) ?_
    obtain ⟨r19, s20, e18, h⟩ := xbd_e h
    refine g_cV0v dX10_deeds_15 ml_X10_128 rfl (s_X10_readDeeds e18) (by decide) rfl ?_
    exact hj5 r19 s20 h
  · replace h := xif_t q17 h
    refine g_ic dX10_deeds_10 ?_
    refine g_goto dX10_deeds_11 (tgt := 18) rfl ?_
    exact hj5 0 s0 h
theorem dX10_digitsOf_0 : decode cX10_digitsOf 0 = .ok (.iload_n 0, 1) := by decide +kernel
theorem dX10_digitsOf_1 : decode cX10_digitsOf 1 = .ok (.tableswitch 73 98 110 #[67, 73, 73, 73, 73, 69, 73, 73, 73, 73, 69, 71, 67], 67) := by decide +kernel
theorem dX10_digitsOf_68 : decode cX10_digitsOf 68 = .ok (.iconst 1, 1) := by decide +kernel
theorem dX10_digitsOf_69 : decode cX10_digitsOf 69 = .ok (.ireturn, 1) := by decide +kernel
theorem dX10_digitsOf_70 : decode cX10_digitsOf 70 = .ok (.iconst 2, 1) := by decide +kernel
theorem dX10_digitsOf_71 : decode cX10_digitsOf 71 = .ok (.ireturn, 1) := by decide +kernel
theorem dX10_digitsOf_72 : decode cX10_digitsOf 72 = .ok (.iconst 3, 1) := by decide +kernel
theorem dX10_digitsOf_73 : decode cX10_digitsOf 73 = .ok (.ireturn, 1) := by decide +kernel
theorem dX10_digitsOf_74 : decode cX10_digitsOf 74 = .ok (.iconst 0, 1) := by decide +kernel
theorem dX10_digitsOf_75 : decode cX10_digitsOf 75 = .ok (.ireturn, 1) := by decide +kernel
theorem s_X10_digitsOf {a0 : Int} {s0 : xW} {q : Int} (h : F_X10_digitsOf a0 s0 = some q) : xC 0 0 0 mX10_digitsOf [vI a0] 155 s0 (xRv (vI q) s0) := by
  refine xC.of [vI a0] (by decide +kernel) (Nat.le_of_ble_eq_true rfl) rfl ?_
  unfold F_X10_digitsOf at h
  refine g_iln dX10_digitsOf_0 rfl rfl ?_
  obtain ⟨j1, ej2, h⟩ := xjn_e h
  have hj3 : j1  = some q → xG 0 0 0 mX10_digitsOf 74 [vX] [] 155 s0 (xRv (vI q) s0) := by
    intro  h
    rw [ej2] at h
    refine g_ic dX10_digitsOf_74 ?_
    exact g_pI rfl dX10_digitsOf_75 h
  clear ej2
  obtain ⟨j4, ej5, h⟩ := xjn_e h
  have hj6 : j4  = some q → xG 0 0 0 mX10_digitsOf 70 [vX] [] 155 s0 (xRv (vI q) s0) := by
    intro  h
    rw [ej5] at h
    refine g_ic dX10_digitsOf_70 ?_
    exact g_pI rfl dX10_digitsOf_71 h
  clear ej5
  obtain ⟨j7, ej8, h⟩ := xjn_e h
  have hj9 : j7  = some q → xG 0 0 0 mX10_digitsOf 68 [vX] [] 155 s0 (xRv (vI q) s0) := by
    intro  h
    rw [ej8] at h
    refine g_ic dX10_digitsOf_68 ?_
    exact g_pI rfl dX10_digitsOf_69 h
  clear ej8
  by_cases q10 : (xw a0) = 98
  · replace h := xif_t q10 h
    refine g_wtK dX10_digitsOf_1 q10 (by decide) (off := 67) rfl (tgt := 68) rfl ?_
    refine g_drop_0 ?_
    exact hj9  h
  replace h := xif_f q10 h
  by_cases q11 : (xw a0) = 99
  · replace h := xif_t q11 h
    refine g_wtK dX10_digitsOf_1 q11 (by decide) (off := 73) rfl (tgt := 74) rfl ?_
    refine g_drop_0 ?_
    exact hj3  h
  replace h := xif_f q11 h
  by_cases q12 : (xw a0) = 100
  · replace h := xif_t q12 h
    refine g_wtK dX10_digitsOf_1 q12 (by decide) (off := 73) rfl (tgt := 74) rfl ?_
    refine g_drop_0 ?_
    exact hj3  h
  replace h := xif_f q12 h
  by_cases q13 : (xw a0) = 101
  · replace h := xif_t q13 h
    refine g_wtK dX10_digitsOf_1 q13 (by decide) (off := 73) rfl (tgt := 74) rfl ?_
    refine g_drop_0 ?_
    exact hj3  h
  replace h := xif_f q13 h
  by_cases q14 : (xw a0) = 102
  · replace h := xif_t q14 h
    refine g_wtK dX10_digitsOf_1 q14 (by decide) (off := 73) rfl (tgt := 74) rfl ?_
    refine g_drop_0 ?_
    exact hj3  h
  replace h := xif_f q14 h
  by_cases q15 : (xw a0) = 103
  · replace h := xif_t q15 h
    refine g_wtK dX10_digitsOf_1 q15 (by decide) (off := 69) rfl (tgt := 70) rfl ?_
    refine g_drop_0 ?_
    exact hj6  h
  replace h := xif_f q15 h
  by_cases q16 : (xw a0) = 104
  · replace h := xif_t q16 h
    refine g_wtK dX10_digitsOf_1 q16 (by decide) (off := 73) rfl (tgt := 74) rfl ?_
    refine g_drop_0 ?_
    exact hj3  h
  replace h := xif_f q16 h
  by_cases q17 : (xw a0) = 105
  · replace h := xif_t q17 h
    refine g_wtK dX10_digitsOf_1 q17 (by decide) (off := 73) rfl (tgt := 74) rfl ?_
    refine g_drop_0 ?_
    exact hj3  h
  replace h := xif_f q17 h
  by_cases q18 : (xw a0) = 106
  · replace h := xif_t q18 h
    refine g_wtK dX10_digitsOf_1 q18 (by decide) (off := 73) rfl (tgt := 74) rfl ?_
    refine g_drop_0 ?_
    exact hj3  h
  replace h := xif_f q18 h
  by_cases q19 : (xw a0) = 107
  · replace h := xif_t q19 h
    refine g_wtK dX10_digitsOf_1 q19 (by decide) (off := 73) rfl (tgt := 74) rfl ?_
    refine g_drop_0 ?_
    exact hj3  h
  replace h := xif_f q19 h
  by_cases q20 : (xw a0) = 108
  · replace h := xif_t q20 h
    refine g_wtK dX10_digitsOf_1 q20 (by decide) (off := 69) rfl (tgt := 70) rfl ?_
    refine g_drop_0 ?_
    exact hj6  h
  replace h := xif_f q20 h
  by_cases q21 : (xw a0) = 109
  · replace h := xif_t q21 h
    refine g_wtK dX10_digitsOf_1 q21 (by decide) (off := 71) rfl (tgt := 72) rfl ?_
    refine g_ic dX10_digitsOf_72 ?_
    exact g_pI rfl dX10_digitsOf_73 h
  replace h := xif_f q21 h
  by_cases q22 : (xw a0) = 110
  · replace h := xif_t q22 h
    refine g_wtK dX10_digitsOf_1 q22 (by decide) (off := 67) rfl (tgt := 68) rfl ?_
    refine g_drop_0 ?_
    exact hj9  h
  replace h := xif_f q22 h
  refine g_wtO dX10_digitsOf_1 rfl (by omega) (tgt := 74) rfl ?_
  refine g_drop_0 ?_
  exact hj3  h
theorem dX10_placeOf_0 : decode cX10_placeOf 0 = .ok (.iload_n 0, 1) := by decide +kernel
theorem dX10_placeOf_1 : decode cX10_placeOf 1 = .ok (.ifCond .lt 23, 3) := by decide +kernel
theorem dX10_placeOf_4 : decode cX10_placeOf 4 = .ok (.iload_n 0, 1) := by decide +kernel
theorem dX10_placeOf_5 : decode cX10_placeOf 5 = .ok (.bipush 10, 2) := by decide +kernel
theorem dX10_placeOf_7 : decode cX10_placeOf 7 = .ok (.if_icmp .ge 17, 3) := by decide +kernel
theorem dX10_placeOf_10 : decode cX10_placeOf 10 = .ok (.iload_n 1, 1) := by decide +kernel
theorem dX10_placeOf_11 : decode cX10_placeOf 11 = .ok (.ifCond .lt 13, 3) := by decide +kernel
theorem dX10_placeOf_14 : decode cX10_placeOf 14 = .ok (.iload_n 1, 1) := by decide +kernel
theorem dX10_placeOf_15 : decode cX10_placeOf 15 = .ok (.bipush 10, 2) := by decide +kernel
theorem dX10_placeOf_17 : decode cX10_placeOf 17 = .ok (.if_icmp .ge 7, 3) := by decide +kernel
theorem dX10_placeOf_20 : decode cX10_placeOf 20 = .ok (.iconst 1, 1) := by decide +kernel
theorem dX10_placeOf_21 : decode cX10_placeOf 21 = .ok (.goto 4, 3) := by decide +kernel
theorem dX10_placeOf_24 : decode cX10_placeOf 24 = .ok (.iconst 0, 1) := by decide +kernel
theorem dX10_placeOf_25 : decode cX10_placeOf 25 = .ok (.istore_n 2, 1) := by decide +kernel
theorem dX10_placeOf_26 : decode cX10_placeOf 26 = .ok (.iload_n 2, 1) := by decide +kernel
theorem dX10_placeOf_27 : decode cX10_placeOf 27 = .ok (.ifCond .eq 12, 3) := by decide +kernel
theorem dX10_placeOf_30 : decode cX10_placeOf 30 = .ok (.iload_n 0, 1) := by decide +kernel
theorem dX10_placeOf_31 : decode cX10_placeOf 31 = .ok (.bipush 10, 2) := by decide +kernel
theorem dX10_placeOf_33 : decode cX10_placeOf 33 = .ok (.imul, 1) := by decide +kernel
theorem dX10_placeOf_34 : decode cX10_placeOf 34 = .ok (.iload_n 1, 1) := by decide +kernel
theorem dX10_placeOf_35 : decode cX10_placeOf 35 = .ok (.iadd, 1) := by decide +kernel
theorem dX10_placeOf_36 : decode cX10_placeOf 36 = .ok (.goto 4, 3) := by decide +kernel
theorem dX10_placeOf_39 : decode cX10_placeOf 39 = .ok (.iconst (-1), 1) := by decide +kernel
theorem dX10_placeOf_40 : decode cX10_placeOf 40 = .ok (.ireturn, 1) := by decide +kernel
theorem s_X10_placeOf {a0 a1 : Int} {s0 : xW} {q : Int} (h : F_X10_placeOf a0 a1 s0 = some q) : xC 0 0 0 mX10_placeOf [vI a0, vI a1] 155 s0 (xRv (vI q) s0) := by
  refine xC.of [vI a0, vI a1, vX] (by decide +kernel) (Nat.le_of_ble_eq_true rfl) rfl ?_
  unfold F_X10_placeOf at h
  refine g_iln dX10_placeOf_0 rfl rfl ?_
  obtain ⟨v5, e6, h⟩ := xlt_e h
  have hj7 : xG 0 0 0 mX10_placeOf 25 [vI a0, vI a1, vX] [vI v5] 155 s0 (xRv (vI q) s0) := by
    refine g_istn_2 dX10_placeOf_25 (by decide) rfl ?_
    refine g_iln dX10_placeOf_26 rfl rfl ?_
    obtain ⟨v9, e10, h⟩ := xlt_e h
    have hj11 : xG 0 0 0 mX10_placeOf 40 [vX, vX, vX] [vI v9] 155 s0 (xRv (vI q) s0) := by
      exact g_pI rfl dX10_placeOf_40 h
    refine g_yeq dX10_placeOf_27 (tgt := 39) rfl rfl (fun c8 => ?_) (fun c8 => ?_)
    · skip
      refine g_ic dX10_placeOf_39 ?_
      refine g_drop_0 ?_
      refine g_drop_1 ?_
      refine g_drop_2 ?_
      exact g_vq ((if_neg c8).symm.trans e10) hj11
    · skip
      refine g_iln dX10_placeOf_30 rfl rfl ?_
      refine g_bi dX10_placeOf_31 (by decide) ?_
      refine g_imul dX10_placeOf_33 ?_
      refine g_iln dX10_placeOf_34 rfl rfl ?_
      refine g_iadd dX10_placeOf_35 ?_
      refine g_goto dX10_placeOf_36 (tgt := 40) rfl ?_
      refine g_drop_0 ?_
      refine g_drop_1 ?_
      refine g_drop_2 ?_
      exact g_vq ((if_pos c8).symm.trans e10) hj11
  refine g_ylt dX10_placeOf_1 (tgt := 24) rfl rfl (fun c1 => ?_) (fun c1 => ?_)
  · skip
    refine g_ic dX10_placeOf_24 ?_
    exact g_vq ((if_neg c1).symm.trans e6) hj7
  · skip
    refine g_iln dX10_placeOf_4 rfl rfl ?_
    refine g_bi dX10_placeOf_5 (by decide) ?_
    refine g_wge dX10_placeOf_7 (tgt := 24) rfl rfl (xw_id (by decide)) (fun c2 => ?_) (fun c2 => ?_)
    · skip
      refine g_ic dX10_placeOf_24 ?_
      exact g_vq (((if_pos c1).trans (if_neg c2)).symm.trans e6) hj7
    · skip
      refine g_iln dX10_placeOf_10 rfl rfl ?_
      refine g_ylt dX10_placeOf_11 (tgt := 24) rfl rfl (fun c3 => ?_) (fun c3 => ?_)
      · skip
        refine g_ic dX10_placeOf_24 ?_
        exact g_vq ((((if_pos c1).trans (if_pos c2)).trans (if_neg c3)).symm.trans e6) hj7
      · skip
        refine g_iln dX10_placeOf_14 rfl rfl ?_
        refine g_bi dX10_placeOf_15 (by decide) ?_
        refine g_wge dX10_placeOf_17 (tgt := 24) rfl rfl (xw_id (by decide)) (fun c4 => ?_) (fun c4 => ?_)
        · skip
          refine g_ic dX10_placeOf_24 ?_
          exact g_vq (((((if_pos c1).trans (if_pos c2)).trans (if_pos c3)).trans (if_neg c4)).symm.trans e6) hj7
        · skip
          refine g_ic dX10_placeOf_20 ?_
          refine g_goto dX10_placeOf_21 (tgt := 25) rfl ?_
          exact g_vq (((((if_pos c1).trans (if_pos c2)).trans (if_pos c3)).trans (if_pos c4)).symm.trans e6) hj7
theorem dX10_haul_0 : decode cX10_haul 0 = .ok (.iload_n 1, 1) := by decide +kernel
theorem dX10_haul_1 : decode cX10_haul 1 = .ok (.iload_n 2, 1) := by decide +kernel
theorem dX10_haul_2 : decode cX10_haul 2 = .ok (.invokestatic 432, 3) := by decide +kernel
theorem dX10_haul_5 : decode cX10_haul 5 = .ok (.istore_n 3, 1) := by decide +kernel
theorem dX10_haul_6 : decode cX10_haul 6 = .ok (.iload_n 3, 1) := by decide +kernel
theorem dX10_haul_7 : decode cX10_haul 7 = .ok (.iconst (-1), 1) := by decide +kernel
theorem dX10_haul_8 : decode cX10_haul 8 = .ok (.if_icmp .ne 5, 3) := by decide +kernel
theorem dX10_haul_11 : decode cX10_haul 11 = .ok (.iconst (-1), 1) := by decide +kernel
theorem dX10_haul_12 : decode cX10_haul 12 = .ok (.ireturn, 1) := by decide +kernel
theorem dX10_haul_13 : decode cX10_haul 13 = .ok (.aload_n 0, 1) := by decide +kernel
theorem dX10_haul_14 : decode cX10_haul 14 = .ok (.getfield 46, 3) := by decide +kernel
theorem dX10_haul_17 : decode cX10_haul 17 = .ok (.getfield 379, 3) := by decide +kernel
theorem dX10_haul_20 : decode cX10_haul 20 = .ok (.iload_n 3, 1) := by decide +kernel
theorem dX10_haul_21 : decode cX10_haul 21 = .ok (.invokestatic 435, 3) := by decide +kernel
theorem dX10_haul_24 : decode cX10_haul 24 = .ok (.istore 4, 2) := by decide +kernel
theorem dX10_haul_26 : decode cX10_haul 26 = .ok (.aload_n 0, 1) := by decide +kernel
theorem dX10_haul_27 : decode cX10_haul 27 = .ok (.getfield 46, 3) := by decide +kernel
theorem dX10_haul_30 : decode cX10_haul 30 = .ok (.iload_n 3, 1) := by decide +kernel
theorem dX10_haul_31 : decode cX10_haul 31 = .ok (.putfield 379, 3) := by decide +kernel
theorem dX10_haul_34 : decode cX10_haul 34 = .ok (.iload 4, 2) := by decide +kernel
theorem dX10_haul_36 : decode cX10_haul 36 = .ok (.ifCond .ne 8, 3) := by decide +kernel
theorem dX10_haul_39 : decode cX10_haul 39 = .ok (.bipush (-2), 2) := by decide +kernel
theorem dX10_haul_41 : decode cX10_haul 41 = .ok (.goto 5, 3) := by decide +kernel
theorem dX10_haul_44 : decode cX10_haul 44 = .ok (.iload 4, 2) := by decide +kernel
theorem dX10_haul_46 : decode cX10_haul 46 = .ok (.ireturn, 1) := by decide +kernel
theorem s_X10_haul {a1 a2 : Int} {s0 : xW} {q : Int × xW} (h : F_X10_haul a1 a2 s0 = some q) : xC 2 0 0 mX10_haul [vR 0, vI a1, vI a2] 155 s0 (xRv (vI q.1) q.2) := by
  refine xC.of [vR 0, vI a1, vI a2, vX, vX] (by decide +kernel) (Nat.le_of_ble_eq_true rfl) rfl ?_
  unfold F_X10_haul at h
  refine g_iln dX10_haul_0 rfl rfl ?_
  refine g_iln dX10_haul_1 rfl rfl ?_
  obtain ⟨r2, e1, h⟩ := xbp_e h
  refine g_cS2v dX10_haul_2 ml_X10_432 (s_X10_placeOf e1) (by decide) rfl ?_
  refine g_istn_3 dX10_haul_5 (by decide) rfl ?_
  refine g_iln dX10_haul_6 rfl rfl ?_
  refine g_ic dX10_haul_7 ?_
  refine g_wne dX10_haul_8 (tgt := 13) rfl rfl (xw_id (by decide)) (fun q3 => ?_) (fun q3 => ?_)
  · replace h := xif_f q3 h
    refine g_aln dX10_haul_13 rfl rfl (by decide) ?_
    refine g_getC 17 dX10_haul_14 fl_X10_46 rfl (by decide) ?_
    refine g_getI 0 dX10_haul_17 fl_X10_379 rfl rfl ?_
    refine g_iln dX10_haul_20 rfl rfl ?_
    obtain ⟨r5, e4, h⟩ := xbp_e h
    refine g_cS2v dX10_haul_21 ml_X10_435 (s_X10_far e4) (by decide) rfl ?_
    refine g_ist_4 dX10_haul_24 (by decide) rfl ?_
    refine g_aln dX10_haul_26 rfl rfl (by decide) ?_
    refine g_getC 17 dX10_haul_27 fl_X10_46 rfl (by decide) ?_
    refine g_iln dX10_haul_30 rfl rfl ?_
    obtain ⟨s6, e7, h⟩ := xlt_e h
    refine h_putI 0 dX10_haul_31 fl_X10_379 rfl rfl e7 ?_
    refine g_il dX10_haul_34 rfl ?_
    obtain ⟨v9, e10, h⟩ := xlt_e h
    have hj11 : xG 2 0 0 mX10_haul 46 [vX, vX, vX, vX, vX] [vI v9] 155 s6 (xRv (vI q.1) q.2) := by
      exact g_rI rfl dX10_haul_46 h
    refine g_yne dX10_haul_36 (tgt := 44) rfl rfl (fun c8 => ?_) (fun c8 => ?_)
    · skip
      refine g_il dX10_haul_44 rfl ?_
      refine g_drop_0 ?_
      refine g_drop_1 ?_
      refine g_drop_2 ?_
      refine g_drop_3 ?_
      refine g_drop_4 ?_
      exact g_vq ((if_neg c8).symm.trans e10) hj11
    · skip
      refine g_bi dX10_haul_39 (by decide) ?_
      refine g_goto dX10_haul_41 (tgt := 46) rfl ?_
      refine g_drop_0 ?_
      refine g_drop_1 ?_
      refine g_drop_2 ?_
      refine g_drop_3 ?_
      refine g_drop_4 ?_
      exact g_vq ((if_pos c8).symm.trans e10) hj11
  · replace h := xif_t q3 h
    refine g_ic dX10_haul_11 ?_
    exact g_rI rfl dX10_haul_12 h
theorem dX10_move_0 : decode cX10_move 0 = .ok (.iload_n 2, 1) := by decide +kernel
theorem dX10_move_1 : decode cX10_move 1 = .ok (.iload_n 3, 1) := by decide +kernel
theorem dX10_move_2 : decode cX10_move 2 = .ok (.invokestatic 432, 3) := by decide +kernel
theorem dX10_move_5 : decode cX10_move 5 = .ok (.istore 4, 2) := by decide +kernel
theorem dX10_move_7 : decode cX10_move 7 = .ok (.iload 4, 2) := by decide +kernel
theorem dX10_move_9 : decode cX10_move 9 = .ok (.iconst (-1), 1) := by decide +kernel
theorem dX10_move_10 : decode cX10_move 10 = .ok (.if_icmp .eq 11, 3) := by decide +kernel
theorem dX10_move_13 : decode cX10_move 13 = .ok (.aload_n 0, 1) := by decide +kernel
theorem dX10_move_14 : decode cX10_move 14 = .ok (.iload_n 1, 1) := by decide +kernel
theorem dX10_move_15 : decode cX10_move 15 = .ok (.invokevirtual 142, 3) := by decide +kernel
theorem dX10_move_18 : decode cX10_move 18 = .ok (.ifCond .ne 5, 3) := by decide +kernel
theorem dX10_move_21 : decode cX10_move 21 = .ok (.iconst (-1), 1) := by decide +kernel
theorem dX10_move_22 : decode cX10_move 22 = .ok (.ireturn, 1) := by decide +kernel
theorem dX10_move_23 : decode cX10_move 23 = .ok (.aload_n 0, 1) := by decide +kernel
theorem dX10_move_24 : decode cX10_move 24 = .ok (.getfield 46, 3) := by decide +kernel
theorem dX10_move_27 : decode cX10_move 27 = .ok (.getfield 152, 3) := by decide +kernel
theorem dX10_move_30 : decode cX10_move 30 = .ok (.iload_n 1, 1) := by decide +kernel
theorem dX10_move_31 : decode cX10_move 31 = .ok (.iaload, 1) := by decide +kernel
theorem dX10_move_32 : decode cX10_move 32 = .ok (.iload 4, 2) := by decide +kernel
theorem dX10_move_34 : decode cX10_move 34 = .ok (.invokestatic 435, 3) := by decide +kernel
theorem dX10_move_37 : decode cX10_move 37 = .ok (.istore 5, 2) := by decide +kernel
theorem dX10_move_39 : decode cX10_move 39 = .ok (.aload_n 0, 1) := by decide +kernel
theorem dX10_move_40 : decode cX10_move 40 = .ok (.getfield 46, 3) := by decide +kernel
theorem dX10_move_43 : decode cX10_move 43 = .ok (.getfield 152, 3) := by decide +kernel
theorem dX10_move_46 : decode cX10_move 46 = .ok (.iload_n 1, 1) := by decide +kernel
theorem dX10_move_47 : decode cX10_move 47 = .ok (.iload 4, 2) := by decide +kernel
theorem dX10_move_49 : decode cX10_move 49 = .ok (.iastore, 1) := by decide +kernel
theorem dX10_move_50 : decode cX10_move 50 = .ok (.iload 5, 2) := by decide +kernel
theorem dX10_move_52 : decode cX10_move 52 = .ok (.ifCond .ne 8, 3) := by decide +kernel
theorem dX10_move_55 : decode cX10_move 55 = .ok (.bipush (-2), 2) := by decide +kernel
theorem dX10_move_57 : decode cX10_move 57 = .ok (.goto 5, 3) := by decide +kernel
theorem dX10_move_60 : decode cX10_move 60 = .ok (.iload 5, 2) := by decide +kernel
theorem dX10_move_62 : decode cX10_move 62 = .ok (.ireturn, 1) := by decide +kernel
theorem s_X10_move {a1 a2 a3 : Int} {s0 : xW} {q : Int × xW} (h : F_X10_move a1 a2 a3 s0 = some q) : xC 2 0 0 mX10_move [vR 0, vI a1, vI a2, vI a3] 155 s0 (xRv (vI q.1) q.2) := by
  refine xC.of [vR 0, vI a1, vI a2, vI a3, vX, vX] (by decide +kernel) (Nat.le_of_ble_eq_true rfl) rfl ?_
  unfold F_X10_move at h
  refine g_iln dX10_move_0 rfl rfl ?_
  refine g_iln dX10_move_1 rfl rfl ?_
  obtain ⟨r2, e1, h⟩ := xbp_e h
  refine g_cS2v dX10_move_2 ml_X10_432 (s_X10_placeOf e1) (by decide) rfl ?_
  refine g_ist_4 dX10_move_5 (by decide) rfl ?_
  refine g_il dX10_move_7 rfl ?_
  refine g_ic dX10_move_9 ?_
  obtain ⟨j3, ej4, h⟩ := xjn_e h
  have hj5 : j3  = some q → xG 2 0 0 mX10_move 21 [vX, vX, vX, vX, vX, vX] [] 155 s0 (xRv (vI q.1) q.2) := by
    intro  h
    rw [ej4] at h
    refine g_ic dX10_move_21 ?_
    exact g_rI rfl dX10_move_22 h
  clear ej4
  refine g_weq dX10_move_10 (tgt := 21) rfl rfl (xw_id (by decide)) (fun q6 => ?_) (fun q6 => ?_)
  · replace h := xif_f q6 h
    refine g_drop_0 ?_
    refine g_drop_1 ?_
    refine g_drop_2 ?_
    refine g_drop_3 ?_
    refine g_drop_4 ?_
    exact hj5  h
  · replace h := xif_t q6 h
    refine g_aln dX10_move_13 rfl rfl (by decide) ?_
    refine g_iln dX10_move_14 rfl rfl ?_
    obtain ⟨r8, e7, h⟩ := xbp_e h
    refine g_cV1v dX10_move_15 ml_X10_142 rfl (s_X10_isHouse e7) (by decide) rfl ?_
    refine g_yne dX10_move_18 (tgt := 23) rfl rfl (fun q9 => ?_) (fun q9 => ?_)
    · replace h := xif_f q9 h
      refine g_aln dX10_move_23 rfl rfl (by decide) ?_
      refine g_getC 17 dX10_move_24 fl_X10_46 rfl (by decide) ?_
      refine g_getC 18 dX10_move_27 fl_X10_152 rfl (by decide) ?_
      refine g_iln dX10_move_30 rfl rfl ?_
      obtain ⟨hg10, h⟩ := xgd_e h
      refine g_iald 8 dX10_move_31 rfl hg10 (by decide) ?_
      refine g_il dX10_move_32 rfl ?_
      obtain ⟨r12, e11, h⟩ := xbp_e h
      refine g_cS2v dX10_move_34 ml_X10_435 (s_X10_far e11) (by decide) rfl ?_
      refine g_ist_5 dX10_move_37 (by decide) rfl ?_
      refine g_aln dX10_move_39 rfl rfl (by decide) ?_
      refine g_getC 17 dX10_move_40 fl_X10_46 rfl (by decide) ?_
      refine g_getC 18 dX10_move_43 fl_X10_152 rfl (by decide) ?_
      refine g_iln dX10_move_46 rfl rfl ?_
      refine g_il dX10_move_47 rfl ?_
      obtain ⟨hg13, h⟩ := xgd_e h
      obtain ⟨s14, e15, h⟩ := xlt_e h
      refine h_iast 8 dX10_move_49 rfl hg13 (by decide) e15 ?_
      refine g_il dX10_move_50 rfl ?_
      obtain ⟨v17, e18, h⟩ := xlt_e h
      have hj19 : xG 2 0 0 mX10_move 62 [vX, vX, vX, vX, vX, vX] [vI v17] 155 s14 (xRv (vI q.1) q.2) := by
        exact g_rI rfl dX10_move_62 h
      refine g_yne dX10_move_52 (tgt := 60) rfl rfl (fun c16 => ?_) (fun c16 => ?_)
      · skip
        refine g_il dX10_move_60 rfl ?_
        refine g_drop_0 ?_
        refine g_drop_1 ?_
        refine g_drop_2 ?_
        refine g_drop_3 ?_
        refine g_drop_4 ?_
        refine g_drop_5 ?_
        exact g_vq ((if_neg c16).symm.trans e18) hj19
      · skip
        refine g_bi dX10_move_55 (by decide) ?_
        refine g_goto dX10_move_57 (tgt := 62) rfl ?_
        refine g_drop_0 ?_
        refine g_drop_1 ?_
        refine g_drop_2 ?_
        refine g_drop_3 ?_
        refine g_drop_4 ?_
        refine g_drop_5 ?_
        exact g_vq ((if_pos c16).symm.trans e18) hj19
    · replace h := xif_t q9 h
      refine g_drop_0 ?_
      refine g_drop_1 ?_
      refine g_drop_2 ?_
      refine g_drop_3 ?_
      refine g_drop_4 ?_
      exact hj5  h
theorem dX10_lengthen_0 : decode cX10_lengthen 0 = .ok (.aload_n 0, 1) := by decide +kernel
theorem dX10_lengthen_1 : decode cX10_lengthen 1 = .ok (.iload_n 1, 1) := by decide +kernel
theorem dX10_lengthen_2 : decode cX10_lengthen 2 = .ok (.invokevirtual 168, 3) := by decide +kernel
theorem dX10_lengthen_5 : decode cX10_lengthen 5 = .ok (.ifCond .eq 14, 3) := by decide +kernel
theorem dX10_lengthen_8 : decode cX10_lengthen 8 = .ok (.iload_n 2, 1) := by decide +kernel
theorem dX10_lengthen_9 : decode cX10_lengthen 9 = .ok (.iconst 1, 1) := by decide +kernel
theorem dX10_lengthen_10 : decode cX10_lengthen 10 = .ok (.if_icmp .lt 9, 3) := by decide +kernel
theorem dX10_lengthen_13 : decode cX10_lengthen 13 = .ok (.iload_n 2, 1) := by decide +kernel
theorem dX10_lengthen_14 : decode cX10_lengthen 14 = .ok (.bipush 9, 2) := by decide +kernel
theorem dX10_lengthen_16 : decode cX10_lengthen 16 = .ok (.if_icmp .le 5, 3) := by decide +kernel
theorem dX10_lengthen_19 : decode cX10_lengthen 19 = .ok (.iconst (-1), 1) := by decide +kernel
theorem dX10_lengthen_20 : decode cX10_lengthen 20 = .ok (.ireturn, 1) := by decide +kernel
theorem dX10_lengthen_21 : decode cX10_lengthen 21 = .ok (.aload_n 0, 1) := by decide +kernel
theorem dX10_lengthen_22 : decode cX10_lengthen 22 = .ok (.getfield 46, 3) := by decide +kernel
theorem dX10_lengthen_25 : decode cX10_lengthen 25 = .ok (.getfield 179, 3) := by decide +kernel
theorem dX10_lengthen_28 : decode cX10_lengthen 28 = .ok (.iload_n 1, 1) := by decide +kernel
theorem dX10_lengthen_29 : decode cX10_lengthen 29 = .ok (.iaload, 1) := by decide +kernel
theorem dX10_lengthen_30 : decode cX10_lengthen 30 = .ok (.istore_n 3, 1) := by decide +kernel
theorem dX10_lengthen_31 : decode cX10_lengthen 31 = .ok (.aload_n 0, 1) := by decide +kernel
theorem dX10_lengthen_32 : decode cX10_lengthen 32 = .ok (.getfield 46, 3) := by decide +kernel
theorem dX10_lengthen_35 : decode cX10_lengthen 35 = .ok (.getfield 179, 3) := by decide +kernel
theorem dX10_lengthen_38 : decode cX10_lengthen 38 = .ok (.iload_n 1, 1) := by decide +kernel
theorem dX10_lengthen_39 : decode cX10_lengthen 39 = .ok (.iload_n 2, 1) := by decide +kernel
theorem dX10_lengthen_40 : decode cX10_lengthen 40 = .ok (.iastore, 1) := by decide +kernel
theorem dX10_lengthen_41 : decode cX10_lengthen 41 = .ok (.iload_n 3, 1) := by decide +kernel
theorem dX10_lengthen_42 : decode cX10_lengthen 42 = .ok (.iload_n 2, 1) := by decide +kernel
theorem dX10_lengthen_43 : decode cX10_lengthen 43 = .ok (.if_icmp .ne 8, 3) := by decide +kernel
theorem dX10_lengthen_46 : decode cX10_lengthen 46 = .ok (.bipush (-2), 2) := by decide +kernel
theorem dX10_lengthen_48 : decode cX10_lengthen 48 = .ok (.goto 4, 3) := by decide +kernel
theorem dX10_lengthen_51 : decode cX10_lengthen 51 = .ok (.iload_n 3, 1) := by decide +kernel
theorem dX10_lengthen_52 : decode cX10_lengthen 52 = .ok (.ireturn, 1) := by decide +kernel
theorem s_X10_lengthen {a1 a2 : Int} {s0 : xW} {q : Int × xW} (h : F_X10_lengthen a1 a2 s0 = some q) : xC 1 0 0 mX10_lengthen [vR 0, vI a1, vI a2] 155 s0 (xRv (vI q.1) q.2) := by
  refine xC.of [vR 0, vI a1, vI a2, vX] (by decide +kernel) (Nat.le_of_ble_eq_true rfl) rfl ?_
  unfold F_X10_lengthen at h
  refine g_aln dX10_lengthen_0 rfl rfl (by decide) ?_
  refine g_iln dX10_lengthen_1 rfl rfl ?_
  obtain ⟨r2, e1, h⟩ := xbp_e h
  refine g_cV1v dX10_lengthen_2 ml_X10_168 rfl (s_X10_isDeed e1) (by decide) rfl ?_
  obtain ⟨j3, ej4, h⟩ := xjn_e h
  have hj5 : j3  = some q → xG 1 0 0 mX10_lengthen 19 [vX, vX, vX, vX] [] 155 s0 (xRv (vI q.1) q.2) := by
    intro  h
    rw [ej4] at h
    refine g_ic dX10_lengthen_19 ?_
    exact g_rI rfl dX10_lengthen_20 h
  clear ej4
  refine g_yeq dX10_lengthen_5 (tgt := 19) rfl rfl (fun q6 => ?_) (fun q6 => ?_)
  · replace h := xif_f q6 h
    refine g_drop_0 ?_
    refine g_drop_1 ?_
    refine g_drop_2 ?_
    exact hj5  h
  · replace h := xif_t q6 h
    refine g_iln dX10_lengthen_8 rfl rfl ?_
    refine g_ic dX10_lengthen_9 ?_
    refine g_wlt dX10_lengthen_10 (tgt := 19) rfl rfl (xw_id (by decide)) (fun q7 => ?_) (fun q7 => ?_)
    · replace h := xif_f q7 h
      refine g_drop_0 ?_
      refine g_drop_1 ?_
      refine g_drop_2 ?_
      exact hj5  h
    · replace h := xif_t q7 h
      refine g_iln dX10_lengthen_13 rfl rfl ?_
      refine g_bi dX10_lengthen_14 (by decide) ?_
      refine g_wle dX10_lengthen_16 (tgt := 21) rfl rfl (xw_id (by decide)) (fun q8 => ?_) (fun q8 => ?_)
      · replace h := xif_f q8 h
        refine g_aln dX10_lengthen_21 rfl rfl (by decide) ?_
        refine g_getC 17 dX10_lengthen_22 fl_X10_46 rfl (by decide) ?_
        refine g_getC 20 dX10_lengthen_25 fl_X10_179 rfl (by decide) ?_
        refine g_iln dX10_lengthen_28 rfl rfl ?_
        obtain ⟨hg9, h⟩ := xgd_e h
        refine g_iald 8 dX10_lengthen_29 rfl hg9 (by decide) ?_
        refine g_istn_3 dX10_lengthen_30 (by decide) rfl ?_
        refine g_aln dX10_lengthen_31 rfl rfl (by decide) ?_
        refine g_getC 17 dX10_lengthen_32 fl_X10_46 rfl (by decide) ?_
        refine g_getC 20 dX10_lengthen_35 fl_X10_179 rfl (by decide) ?_
        refine g_iln dX10_lengthen_38 rfl rfl ?_
        refine g_iln dX10_lengthen_39 rfl rfl ?_
        obtain ⟨hg10, h⟩ := xgd_e h
        obtain ⟨s11, e12, h⟩ := xlt_e h
        refine h_iast 8 dX10_lengthen_40 rfl hg10 (by decide) e12 ?_
        refine g_iln dX10_lengthen_41 rfl rfl ?_
        refine g_iln dX10_lengthen_42 rfl rfl ?_
        obtain ⟨v14, e15, h⟩ := xlt_e h
        have hj16 : xG 1 0 0 mX10_lengthen 52 [vX, vX, vX, vX] [vI v14] 155 s11 (xRv (vI q.1) q.2) := by
          exact g_rI rfl dX10_lengthen_52 h
        refine g_wne dX10_lengthen_43 (tgt := 51) rfl rfl rfl (fun c13 => ?_) (fun c13 => ?_)
        · skip
          refine g_iln dX10_lengthen_51 rfl rfl ?_
          refine g_drop_0 ?_
          refine g_drop_1 ?_
          refine g_drop_2 ?_
          refine g_drop_3 ?_
          exact g_vq ((if_neg c13).symm.trans e15) hj16
        · skip
          refine g_bi dX10_lengthen_46 (by decide) ?_
          refine g_goto dX10_lengthen_48 (tgt := 52) rfl ?_
          refine g_drop_0 ?_
          refine g_drop_1 ?_
          refine g_drop_2 ?_
          refine g_drop_3 ?_
          exact g_vq ((if_pos c13).symm.trans e15) hj16
      · replace h := xif_t q8 h
        refine g_drop_0 ?_
        refine g_drop_1 ?_
        refine g_drop_2 ?_
        exact hj5  h
theorem dX10_doAct_0 : decode cX10_doAct 0 = .ok (.aload_n 0, 1) := by decide +kernel
theorem dX10_doAct_1 : decode cX10_doAct 1 = .ok (.getfield 12, 3) := by decide +kernel
theorem dX10_doAct_4 : decode cX10_doAct 4 = .ok (.iload_n 1, 1) := by decide +kernel
theorem dX10_doAct_5 : decode cX10_doAct 5 = .ok (.iconst 1, 1) := by decide +kernel
theorem dX10_doAct_6 : decode cX10_doAct 6 = .ok (.iadd, 1) := by decide +kernel
theorem dX10_doAct_7 : decode cX10_doAct 7 = .ok (.invokevirtual 416, 3) := by decide +kernel
theorem dX10_doAct_10 : decode cX10_doAct 10 = .ok (.istore_n 2, 1) := by decide +kernel
theorem dX10_doAct_11 : decode cX10_doAct 11 = .ok (.aload_n 0, 1) := by decide +kernel
theorem dX10_doAct_12 : decode cX10_doAct 12 = .ok (.getfield 12, 3) := by decide +kernel
theorem dX10_doAct_15 : decode cX10_doAct 15 = .ok (.iload_n 1, 1) := by decide +kernel
theorem dX10_doAct_16 : decode cX10_doAct 16 = .ok (.iconst 2, 1) := by decide +kernel
theorem dX10_doAct_17 : decode cX10_doAct 17 = .ok (.iadd, 1) := by decide +kernel
theorem dX10_doAct_18 : decode cX10_doAct 18 = .ok (.invokevirtual 416, 3) := by decide +kernel
theorem dX10_doAct_21 : decode cX10_doAct 21 = .ok (.istore_n 3, 1) := by decide +kernel
theorem dX10_doAct_22 : decode cX10_doAct 22 = .ok (.aload_n 0, 1) := by decide +kernel
theorem dX10_doAct_23 : decode cX10_doAct 23 = .ok (.getfield 12, 3) := by decide +kernel
theorem dX10_doAct_26 : decode cX10_doAct 26 = .ok (.iload_n 1, 1) := by decide +kernel
theorem dX10_doAct_27 : decode cX10_doAct 27 = .ok (.invokevirtual 230, 3) := by decide +kernel
theorem dX10_doAct_30 : decode cX10_doAct 30 = .ok (.lookupswitch 78 #[(98, 48), (103, 54), (109, 61), (110, 42)], 42) := by decide +kernel
theorem dX10_doAct_72 : decode cX10_doAct 72 = .ok (.aload_n 0, 1) := by decide +kernel
theorem dX10_doAct_73 : decode cX10_doAct 73 = .ok (.iload_n 2, 1) := by decide +kernel
theorem dX10_doAct_74 : decode cX10_doAct 74 = .ok (.invokevirtual 202, 3) := by decide +kernel
theorem dX10_doAct_77 : decode cX10_doAct 77 = .ok (.ireturn, 1) := by decide +kernel
theorem dX10_doAct_78 : decode cX10_doAct 78 = .ok (.aload_n 0, 1) := by decide +kernel
theorem dX10_doAct_79 : decode cX10_doAct 79 = .ok (.iload_n 2, 1) := by decide +kernel
theorem dX10_doAct_80 : decode cX10_doAct 80 = .ok (.invokevirtual 208, 3) := by decide +kernel
theorem dX10_doAct_83 : decode cX10_doAct 83 = .ok (.ireturn, 1) := by decide +kernel
theorem dX10_doAct_84 : decode cX10_doAct 84 = .ok (.aload_n 0, 1) := by decide +kernel
theorem dX10_doAct_85 : decode cX10_doAct 85 = .ok (.iload_n 2, 1) := by decide +kernel
theorem dX10_doAct_86 : decode cX10_doAct 86 = .ok (.iload_n 3, 1) := by decide +kernel
theorem dX10_doAct_87 : decode cX10_doAct 87 = .ok (.invokevirtual 211, 3) := by decide +kernel
theorem dX10_doAct_90 : decode cX10_doAct 90 = .ok (.ireturn, 1) := by decide +kernel
theorem dX10_doAct_91 : decode cX10_doAct 91 = .ok (.aload_n 0, 1) := by decide +kernel
theorem dX10_doAct_92 : decode cX10_doAct 92 = .ok (.iload_n 2, 1) := by decide +kernel
theorem dX10_doAct_93 : decode cX10_doAct 93 = .ok (.iload_n 3, 1) := by decide +kernel
theorem dX10_doAct_94 : decode cX10_doAct 94 = .ok (.aload_n 0, 1) := by decide +kernel
theorem dX10_doAct_95 : decode cX10_doAct 95 = .ok (.getfield 12, 3) := by decide +kernel
theorem dX10_doAct_98 : decode cX10_doAct 98 = .ok (.iload_n 1, 1) := by decide +kernel
theorem dX10_doAct_99 : decode cX10_doAct 99 = .ok (.iconst 3, 1) := by decide +kernel
theorem dX10_doAct_100 : decode cX10_doAct 100 = .ok (.iadd, 1) := by decide +kernel
theorem dX10_doAct_101 : decode cX10_doAct 101 = .ok (.invokevirtual 416, 3) := by decide +kernel
theorem dX10_doAct_104 : decode cX10_doAct 104 = .ok (.invokevirtual 214, 3) := by decide +kernel
theorem dX10_doAct_107 : decode cX10_doAct 107 = .ok (.ireturn, 1) := by decide +kernel
theorem dX10_doAct_108 : decode cX10_doAct 108 = .ok (.aload_n 0, 1) := by decide +kernel
theorem dX10_doAct_109 : decode cX10_doAct 109 = .ok (.iload_n 2, 1) := by decide +kernel
theorem dX10_doAct_110 : decode cX10_doAct 110 = .ok (.iload_n 3, 1) := by decide +kernel
theorem dX10_doAct_111 : decode cX10_doAct 111 = .ok (.invokevirtual 218, 3) := by decide +kernel
theorem dX10_doAct_114 : decode cX10_doAct 114 = .ok (.ireturn, 1) := by decide +kernel
theorem s_X10_doAct {a1 : Int} {s0 : xW} {q : Int × xW} (h : F_X10_doAct a1 s0 = some q) : xC 6 0 0 mX10_doAct [vR 0, vI a1] 155 s0 (xRv (vI q.1) q.2) := by
  refine xC.of [vR 0, vI a1, vX, vX] (by decide +kernel) (Nat.le_of_ble_eq_true rfl) rfl ?_
  unfold F_X10_doAct at h
  refine g_aln dX10_doAct_0 rfl rfl (by decide) ?_
  refine g_getC 1 dX10_doAct_1 fl_X10_12 rfl (by decide) ?_
  refine g_iln dX10_doAct_4 rfl rfl ?_
  refine g_ic dX10_doAct_5 ?_
  refine g_iadd dX10_doAct_6 ?_
  obtain ⟨r2, e1, h⟩ := xbp_e h
  refine g_cV1v dX10_doAct_7 ml_X10_416 rfl (s_X8_digit e1) (by decide) rfl ?_
  refine g_istn_2 dX10_doAct_10 (by decide) rfl ?_
  refine g_aln dX10_doAct_11 rfl rfl (by decide) ?_
  refine g_getC 1 dX10_doAct_12 fl_X10_12 rfl (by decide) ?_
  refine g_iln dX10_doAct_15 rfl rfl ?_
  refine g_ic dX10_doAct_16 ?_
  refine g_iadd dX10_doAct_17 ?_
  obtain ⟨r4, e3, h⟩ := xbp_e h
  refine g_cV1v dX10_doAct_18 ml_X10_416 rfl (s_X8_digit e3) (by decide) rfl ?_
  refine g_istn_3 dX10_doAct_21 (by decide) rfl ?_
  refine g_aln dX10_doAct_22 rfl rfl (by decide) ?_
  refine g_getC 1 dX10_doAct_23 fl_X10_12 rfl (by decide) ?_
  refine g_iln dX10_doAct_26 rfl rfl ?_
  obtain ⟨r6, e5, h⟩ := xbp_e h
  refine g_cV1v dX10_doAct_27 ml_X10_230 rfl (s_X8_at e5) (by decide) rfl ?_
  by_cases q7 : (xw r6) = 98
  · replace h := xif_t q7 h
    refine g_wlK dX10_doAct_30 q7 (by decide) (off := 48) (by decide) (tgt := 78) rfl ?_
    refine g_aln dX10_doAct_78 rfl rfl (by decide) ?_
    refine g_iln dX10_doAct_79 rfl rfl ?_
    obtain ⟨r9, s10, e8, h⟩ := xbd_e h
    refine g_cV1v dX10_doAct_80 ml_X10_208 rfl (s_X10_buy e8) (by decide) rfl ?_
    exact g_rI rfl dX10_doAct_83 h
  replace h := xif_f q7 h
  by_cases q11 : (xw r6) = 103
  · replace h := xif_t q11 h
    refine g_wlK dX10_doAct_30 q11 (by decide) (off := 54) (by decide) (tgt := 84) rfl ?_
    refine g_aln dX10_doAct_84 rfl rfl (by decide) ?_
    refine g_iln dX10_doAct_85 rfl rfl ?_
    refine g_iln dX10_doAct_86 rfl rfl ?_
    obtain ⟨r13, s14, e12, h⟩ := xbd_e h
    refine g_cV2v dX10_doAct_87 ml_X10_211 rfl (s_X10_haul e12) (by decide) rfl ?_
    exact g_rI rfl dX10_doAct_90 h
  replace h := xif_f q11 h
  by_cases q15 : (xw r6) = 109
  · replace h := xif_t q15 h
    refine g_wlK dX10_doAct_30 q15 (by decide) (off := 61) (by decide) (tgt := 91) rfl ?_
    refine g_aln dX10_doAct_91 rfl rfl (by decide) ?_
    refine g_iln dX10_doAct_92 rfl rfl ?_
    refine g_iln dX10_doAct_93 rfl rfl ?_
    refine g_aln dX10_doAct_94 rfl rfl (by decide) ?_
    refine g_getC 1 dX10_doAct_95 fl_X10_12 rfl (by decide) ?_
    refine g_iln dX10_doAct_98 rfl rfl ?_
    refine g_ic dX10_doAct_99 ?_
    refine g_iadd dX10_doAct_100 ?_
    obtain ⟨r17, e16, h⟩ := xbp_e h
    refine g_cV1v dX10_doAct_101 ml_X10_416 rfl (s_X8_digit e16) (by decide) rfl ?_
    obtain ⟨r19, s20, e18, h⟩ := xbd_e h
    refine g_cV3v dX10_doAct_104 ml_X10_214 rfl (s_X10_move e18) (by decide) rfl ?_
    exact g_rI rfl dX10_doAct_107 h
  replace h := xif_f q15 h
  by_cases q21 : (xw r6) = 110
  · replace h := xif_t q21 h
    refine g_wlK dX10_doAct_30 q21 (by decide) (off := 42) (by decide) (tgt := 72) rfl ?_
    refine g_aln dX10_doAct_72 rfl rfl (by decide) ?_
    refine g_iln dX10_doAct_73 rfl rfl ?_
    obtain ⟨r23, s24, e22, h⟩ := xbd_e h
    refine g_cV1v dX10_doAct_74 ml_X10_202 rfl (s_X10_passDays e22) (by decide) rfl ?_
    exact g_rI rfl dX10_doAct_77 h
  replace h := xif_f q21 h
  refine g_wlK dX10_doAct_30 rfl (by decide) (off := 78) (by simp only [Op.lookupswitch.offset]; rw [if_neg (Ne.symm q7)]; rw [if_neg (Ne.symm q11)]; rw [if_neg (Ne.symm q15)]; rw [if_neg (Ne.symm q21)];) (tgt := 108) rfl ?_
  refine g_aln dX10_doAct_108 rfl rfl (by decide) ?_
  refine g_iln dX10_doAct_109 rfl rfl ?_
  refine g_iln dX10_doAct_110 rfl rfl ?_
  obtain ⟨r26, s27, e25, h⟩ := xbd_e h
  refine g_cV2v dX10_doAct_111 ml_X10_218 rfl (s_X10_lengthen e25) (by decide) rfl ?_
  exact g_rI rfl dX10_doAct_114 h
theorem dX10_draw_0 : decode cX10_draw 0 = .ok (.aload_n 0, 1) := by decide +kernel
theorem dX10_draw_1 : decode cX10_draw 1 = .ok (.aload_n 0, 1) := by decide +kernel
theorem dX10_draw_2 : decode cX10_draw 2 = .ok (.getfield 97, 3) := by decide +kernel
theorem dX10_draw_5 : decode cX10_draw 5 = .ok (.ldc_w 441, 3) := by decide +kernel
theorem dX10_draw_8 : decode cX10_draw 8 = .ok (.imul, 1) := by decide +kernel
theorem dX10_draw_9 : decode cX10_draw 9 = .ok (.sipush 12345, 3) := by decide +kernel
theorem dX10_draw_12 : decode cX10_draw 12 = .ok (.iadd, 1) := by decide +kernel
theorem dX10_draw_13 : decode cX10_draw 13 = .ok (.putfield 97, 3) := by decide +kernel
theorem dX10_draw_16 : decode cX10_draw 16 = .ok (.iload_n 1, 1) := by decide +kernel
theorem dX10_draw_17 : decode cX10_draw 17 = .ok (.ifCond .le 15, 3) := by decide +kernel
theorem dX10_draw_20 : decode cX10_draw 20 = .ok (.aload_n 0, 1) := by decide +kernel
theorem dX10_draw_21 : decode cX10_draw 21 = .ok (.getfield 97, 3) := by decide +kernel
theorem dX10_draw_24 : decode cX10_draw 24 = .ok (.bipush 16, 2) := by decide +kernel
theorem dX10_draw_26 : decode cX10_draw 26 = .ok (.iushr, 1) := by decide +kernel
theorem dX10_draw_27 : decode cX10_draw 27 = .ok (.iload_n 1, 1) := by decide +kernel
theorem dX10_draw_28 : decode cX10_draw 28 = .ok (.irem, 1) := by decide +kernel
theorem dX10_draw_29 : decode cX10_draw 29 = .ok (.goto 4, 3) := by decide +kernel
theorem dX10_draw_32 : decode cX10_draw 32 = .ok (.iconst 0, 1) := by decide +kernel
theorem dX10_draw_33 : decode cX10_draw 33 = .ok (.ireturn, 1) := by decide +kernel
theorem s_X10_draw {a1 : Int} {s0 : xW} {q : Int × xW} (h : F_X10_draw a1 s0 = some q) : xC 0 0 0 mX10_draw [vR 0, vI a1] 155 s0 (xRv (vI q.1) q.2) := by
  refine xC.of [vR 0, vI a1] (by decide +kernel) (Nat.le_of_ble_eq_true rfl) rfl ?_
  unfold F_X10_draw at h
  refine g_aln dX10_draw_0 rfl rfl (by decide) ?_
  refine g_aln dX10_draw_1 rfl rfl (by decide) ?_
  refine g_getI 15 dX10_draw_2 fl_X10_97 rfl rfl ?_
  refine g_ldcw dX10_draw_5 ct_X10_441 (w := 1103515245) rfl ?_
  refine g_imul dX10_draw_8 ?_
  refine g_si dX10_draw_9 (by decide) ?_
  refine g_iadd dX10_draw_12 ?_
  obtain ⟨s1, e2, h⟩ := xlt_e h
  refine h_putI 15 dX10_draw_13 fl_X10_97 rfl rfl e2 ?_
  refine g_iln dX10_draw_16 rfl rfl ?_
  obtain ⟨j4, ej5, h⟩ := xjn_e h
  have hj6 : ∀ (t3 : Int), j4 t3 = some q → xG 0 0 0 mX10_draw 33 [vX, vX] [vI t3] 155 s1 (xRv (vI q.1) q.2) := by
    intro t3 h
    rw [ej5] at h
    exact g_rI rfl dX10_draw_33 h
  clear ej5
  refine g_yle dX10_draw_17 (tgt := 32) rfl rfl (fun q7 => ?_) (fun q7 => ?_)
  · replace h := xif_f q7 h
    refine g_ic dX10_draw_32 ?_
    refine g_drop_0 ?_
    refine g_drop_1 ?_
    exact hj6 0 h
  · replace h := xif_t q7 h
    refine g_aln dX10_draw_20 rfl rfl (by decide) ?_
    refine g_getI 15 dX10_draw_21 fl_X10_97 rfl rfl ?_
    refine g_bi dX10_draw_24 (by decide) ?_
    refine g_iushr dX10_draw_26 ?_
    refine g_iln dX10_draw_27 rfl rfl ?_
    obtain ⟨hg8, h⟩ := xgd_e h
    refine g_wrem dX10_draw_28 rfl rfl hg8 ?_
    refine g_goto dX10_draw_29 (tgt := 33) rfl ?_
    refine g_drop_0 ?_
    refine g_drop_1 ?_
    exact hj6 (Int.tmod (xw (xushr (s1 0 15) 16)) (xw a1)) h
theorem dX10_minuteOfEcho_0 : decode cX10_minuteOfEcho 0 = .ok (.aload_n 0, 1) := by decide +kernel
theorem dX10_minuteOfEcho_1 : decode cX10_minuteOfEcho 1 = .ok (.getfield 46, 3) := by decide +kernel
theorem dX10_minuteOfEcho_4 : decode cX10_minuteOfEcho 4 = .ok (.getfield 152, 3) := by decide +kernel
theorem dX10_minuteOfEcho_7 : decode cX10_minuteOfEcho 7 = .ok (.iload_n 1, 1) := by decide +kernel
theorem dX10_minuteOfEcho_8 : decode cX10_minuteOfEcho 8 = .ok (.iaload, 1) := by decide +kernel
theorem dX10_minuteOfEcho_9 : decode cX10_minuteOfEcho 9 = .ok (.istore_n 2, 1) := by decide +kernel
theorem dX10_minuteOfEcho_10 : decode cX10_minuteOfEcho 10 = .ok (.aload_n 0, 1) := by decide +kernel
theorem dX10_minuteOfEcho_11 : decode cX10_minuteOfEcho 11 = .ok (.getfield 46, 3) := by decide +kernel
theorem dX10_minuteOfEcho_14 : decode cX10_minuteOfEcho 14 = .ok (.getfield 379, 3) := by decide +kernel
theorem dX10_minuteOfEcho_17 : decode cX10_minuteOfEcho 17 = .ok (.aload_n 0, 1) := by decide +kernel
theorem dX10_minuteOfEcho_18 : decode cX10_minuteOfEcho 18 = .ok (.getfield 46, 3) := by decide +kernel
theorem dX10_minuteOfEcho_21 : decode cX10_minuteOfEcho 21 = .ok (.getfield 438, 3) := by decide +kernel
theorem dX10_minuteOfEcho_24 : decode cX10_minuteOfEcho 24 = .ok (.invokestatic 435, 3) := by decide +kernel
theorem dX10_minuteOfEcho_27 : decode cX10_minuteOfEcho 27 = .ok (.aload_n 0, 1) := by decide +kernel
theorem dX10_minuteOfEcho_28 : decode cX10_minuteOfEcho 28 = .ok (.getfield 46, 3) := by decide +kernel
theorem dX10_minuteOfEcho_31 : decode cX10_minuteOfEcho 31 = .ok (.getfield 438, 3) := by decide +kernel
theorem dX10_minuteOfEcho_34 : decode cX10_minuteOfEcho 34 = .ok (.iload_n 2, 1) := by decide +kernel
theorem dX10_minuteOfEcho_35 : decode cX10_minuteOfEcho 35 = .ok (.invokestatic 435, 3) := by decide +kernel
theorem dX10_minuteOfEcho_38 : decode cX10_minuteOfEcho 38 = .ok (.iadd, 1) := by decide +kernel
theorem dX10_minuteOfEcho_39 : decode cX10_minuteOfEcho 39 = .ok (.istore_n 3, 1) := by decide +kernel
theorem dX10_minuteOfEcho_40 : decode cX10_minuteOfEcho 40 = .ok (.aload_n 0, 1) := by decide +kernel
theorem dX10_minuteOfEcho_41 : decode cX10_minuteOfEcho 41 = .ok (.getfield 68, 3) := by decide +kernel
theorem dX10_minuteOfEcho_44 : decode cX10_minuteOfEcho 44 = .ok (.aload_n 0, 1) := by decide +kernel
theorem dX10_minuteOfEcho_45 : decode cX10_minuteOfEcho 45 = .ok (.getfield 46, 3) := by decide +kernel
theorem dX10_minuteOfEcho_48 : decode cX10_minuteOfEcho 48 = .ok (.getfield 277, 3) := by decide +kernel
theorem dX10_minuteOfEcho_51 : decode cX10_minuteOfEcho 51 = .ok (.aload_n 0, 1) := by decide +kernel
theorem dX10_minuteOfEcho_52 : decode cX10_minuteOfEcho 52 = .ok (.getfield 30, 3) := by decide +kernel
theorem dX10_minuteOfEcho_55 : decode cX10_minuteOfEcho 55 = .ok (.aload_n 0, 1) := by decide +kernel
theorem dX10_minuteOfEcho_56 : decode cX10_minuteOfEcho 56 = .ok (.getfield 46, 3) := by decide +kernel
theorem dX10_minuteOfEcho_59 : decode cX10_minuteOfEcho 59 = .ok (.getfield 277, 3) := by decide +kernel
theorem dX10_minuteOfEcho_62 : decode cX10_minuteOfEcho 62 = .ok (.invokevirtual 280, 3) := by decide +kernel
theorem dX10_minuteOfEcho_65 : decode cX10_minuteOfEcho 65 = .ok (.aload_n 0, 1) := by decide +kernel
theorem dX10_minuteOfEcho_66 : decode cX10_minuteOfEcho 66 = .ok (.getfield 26, 3) := by decide +kernel
theorem dX10_minuteOfEcho_69 : decode cX10_minuteOfEcho 69 = .ok (.aload_n 0, 1) := by decide +kernel
theorem dX10_minuteOfEcho_70 : decode cX10_minuteOfEcho 70 = .ok (.getfield 46, 3) := by decide +kernel
theorem dX10_minuteOfEcho_73 : decode cX10_minuteOfEcho 73 = .ok (.getfield 277, 3) := by decide +kernel
theorem dX10_minuteOfEcho_76 : decode cX10_minuteOfEcho 76 = .ok (.invokevirtual 280, 3) := by decide +kernel
theorem dX10_minuteOfEcho_79 : decode cX10_minuteOfEcho 79 = .ok (.invokevirtual 442, 3) := by decide +kernel
theorem dX10_minuteOfEcho_82 : decode cX10_minuteOfEcho 82 = .ok (.aload_n 0, 1) := by decide +kernel
theorem dX10_minuteOfEcho_83 : decode cX10_minuteOfEcho 83 = .ok (.getfield 68, 3) := by decide +kernel
theorem dX10_minuteOfEcho_86 : decode cX10_minuteOfEcho 86 = .ok (.aload_n 0, 1) := by decide +kernel
theorem dX10_minuteOfEcho_87 : decode cX10_minuteOfEcho 87 = .ok (.getfield 36, 3) := by decide +kernel
theorem dX10_minuteOfEcho_90 : decode cX10_minuteOfEcho 90 = .ok (.iload_n 3, 1) := by decide +kernel
theorem dX10_minuteOfEcho_91 : decode cX10_minuteOfEcho 91 = .ok (.iload_n 2, 1) := by decide +kernel
theorem dX10_minuteOfEcho_92 : decode cX10_minuteOfEcho 92 = .ok (.iconst 1, 1) := by decide +kernel
theorem dX10_minuteOfEcho_93 : decode cX10_minuteOfEcho 93 = .ok (.invokevirtual 446, 3) := by decide +kernel
theorem dX10_minuteOfEcho_96 : decode cX10_minuteOfEcho 96 = .ok (.ireturn, 1) := by decide +kernel
theorem s_X10_minuteOfEcho {a1 : Int} {s0 : xW} {q : Int × xW} (h : F_X10_minuteOfEcho a1 s0 = some q) : xC 3 0 0 mX10_minuteOfEcho [vR 0, vI a1] 155 s0 (xRv (vI q.1) q.2) := by
  refine xC.of [vR 0, vI a1, vX, vX] (by decide +kernel) (Nat.le_of_ble_eq_true rfl) rfl ?_
  unfold F_X10_minuteOfEcho at h
  refine g_aln dX10_minuteOfEcho_0 rfl rfl (by decide) ?_
  refine g_getC 17 dX10_minuteOfEcho_1 fl_X10_46 rfl (by decide) ?_
  refine g_getC 18 dX10_minuteOfEcho_4 fl_X10_152 rfl (by decide) ?_
  refine g_iln dX10_minuteOfEcho_7 rfl rfl ?_
  obtain ⟨hg1, h⟩ := xgd_e h
  refine g_iald 8 dX10_minuteOfEcho_8 rfl hg1 (by decide) ?_
  refine g_istn_2 dX10_minuteOfEcho_9 (by decide) rfl ?_
  refine g_aln dX10_minuteOfEcho_10 rfl rfl (by decide) ?_
  refine g_getC 17 dX10_minuteOfEcho_11 fl_X10_46 rfl (by decide) ?_
  refine g_getI 0 dX10_minuteOfEcho_14 fl_X10_379 rfl rfl ?_
  refine g_aln dX10_minuteOfEcho_17 rfl rfl (by decide) ?_
  refine g_getC 17 dX10_minuteOfEcho_18 fl_X10_46 rfl (by decide) ?_
  refine g_getI 1 dX10_minuteOfEcho_21 fl_X10_438 rfl rfl ?_
  obtain ⟨r3, e2, h⟩ := xbp_e h
  refine g_cS2v dX10_minuteOfEcho_24 ml_X10_435 (s_X10_far e2) (by decide) rfl ?_
  refine g_aln dX10_minuteOfEcho_27 rfl rfl (by decide) ?_
  refine g_getC 17 dX10_minuteOfEcho_28 fl_X10_46 rfl (by decide) ?_
  refine g_getI 1 dX10_minuteOfEcho_31 fl_X10_438 rfl rfl ?_
  refine g_iln dX10_minuteOfEcho_34 rfl rfl ?_
  obtain ⟨r5, e4, h⟩ := xbp_e h
  refine g_cS2v dX10_minuteOfEcho_35 ml_X10_435 (s_X10_far e4) (by decide) rfl ?_
  refine g_iadd dX10_minuteOfEcho_38 ?_
  refine g_istn_3 dX10_minuteOfEcho_39 (by decide) rfl ?_
  refine g_aln dX10_minuteOfEcho_40 rfl rfl (by decide) ?_
  refine g_getC 89 dX10_minuteOfEcho_41 fl_X10_68 rfl (by decide) ?_
  refine g_aln dX10_minuteOfEcho_44 rfl rfl (by decide) ?_
  refine g_getC 17 dX10_minuteOfEcho_45 fl_X10_46 rfl (by decide) ?_
  refine g_getI 5 dX10_minuteOfEcho_48 fl_X10_277 rfl rfl ?_
  refine g_aln dX10_minuteOfEcho_51 rfl rfl (by decide) ?_
  refine g_getC 7 dX10_minuteOfEcho_52 fl_X10_30 rfl (by decide) ?_
  refine g_aln dX10_minuteOfEcho_55 rfl rfl (by decide) ?_
  refine g_getC 17 dX10_minuteOfEcho_56 fl_X10_46 rfl (by decide) ?_
  refine g_getI 5 dX10_minuteOfEcho_59 fl_X10_277 rfl rfl ?_
  obtain ⟨r7, e6, h⟩ := xbp_e h
  refine g_cV1v dX10_minuteOfEcho_62 ml_X10_280 rfl (s_X1_of e6) (by decide) rfl ?_
  refine g_aln dX10_minuteOfEcho_65 rfl rfl (by decide) ?_
  refine g_getC 5 dX10_minuteOfEcho_66 fl_X10_26 rfl (by decide) ?_
  refine g_aln dX10_minuteOfEcho_69 rfl rfl (by decide) ?_
  refine g_getC 17 dX10_minuteOfEcho_70 fl_X10_46 rfl (by decide) ?_
  refine g_getI 5 dX10_minuteOfEcho_73 fl_X10_277 rfl rfl ?_
  obtain ⟨r9, e8, h⟩ := xbp_e h
  refine g_cV1v dX10_minuteOfEcho_76 ml_X10_280 rfl (s_X1_of e8) (by decide) rfl ?_
  obtain ⟨s11, e10, h⟩ := xbp_e h
  refine g_cV30 dX10_minuteOfEcho_79 ml_X10_442 rfl (s_X0_on e10) (by decide) rfl ?_
  refine g_aln dX10_minuteOfEcho_82 rfl rfl (by decide) ?_
  refine g_getC 89 dX10_minuteOfEcho_83 fl_X10_68 rfl (by decide) ?_
  refine g_aln dX10_minuteOfEcho_86 rfl rfl (by decide) ?_
  obtain ⟨hg12, h⟩ := xgd_e h
  refine g_getR 4 dX10_minuteOfEcho_87 fl_X10_36 rfl rfl ?_
  refine g_iln dX10_minuteOfEcho_90 rfl rfl ?_
  refine g_iln dX10_minuteOfEcho_91 rfl rfl ?_
  refine g_ic dX10_minuteOfEcho_92 ?_
  obtain ⟨r14, s15, e13, h⟩ := xbd_e h
  refine g_cV4v dX10_minuteOfEcho_93 ml_X10_446 rfl (s_X0_minute e13) (by decide) rfl ?_
  exact g_rI rfl dX10_minuteOfEcho_96 h
theorem dX10_echo_0 : decode cX10_echo 0 = .ok (.aload_n 0, 1) := by decide +kernel
theorem dX10_echo_1 : decode cX10_echo 1 = .ok (.iload_n 1, 1) := by decide +kernel
theorem dX10_echo_2 : decode cX10_echo 2 = .ok (.invokevirtual 142, 3) := by decide +kernel
theorem dX10_echo_5 : decode cX10_echo 5 = .ok (.ifCond .ne 5, 3) := by decide +kernel
theorem dX10_echo_8 : decode cX10_echo 8 = .ok (.iconst (-1), 1) := by decide +kernel
theorem dX10_echo_9 : decode cX10_echo 9 = .ok (.ireturn, 1) := by decide +kernel
theorem dX10_echo_10 : decode cX10_echo 10 = .ok (.aload_n 0, 1) := by decide +kernel
theorem dX10_echo_11 : decode cX10_echo 11 = .ok (.invokevirtual 173, 3) := by decide +kernel
theorem dX10_echo_14 : decode cX10_echo 14 = .ok (.aload_n 0, 1) := by decide +kernel
theorem dX10_echo_15 : decode cX10_echo 15 = .ok (.iload_n 1, 1) := by decide +kernel
theorem dX10_echo_16 : decode cX10_echo 16 = .ok (.invokevirtual 162, 3) := by decide +kernel
theorem dX10_echo_19 : decode cX10_echo 19 = .ok (.istore_n 2, 1) := by decide +kernel
theorem dX10_echo_20 : decode cX10_echo 20 = .ok (.iconst 0, 1) := by decide +kernel
theorem dX10_echo_21 : decode cX10_echo 21 = .ok (.istore_n 3, 1) := by decide +kernel
theorem dX10_echo_22 : decode cX10_echo 22 = .ok (.iconst 0, 1) := by decide +kernel
theorem dX10_echo_23 : decode cX10_echo 23 = .ok (.istore 4, 2) := by decide +kernel
theorem dX10_echo_25 : decode cX10_echo 25 = .ok (.iload 4, 2) := by decide +kernel
theorem dX10_echo_27 : decode cX10_echo 27 = .ok (.aload_n 0, 1) := by decide +kernel
theorem dX10_echo_28 : decode cX10_echo 28 = .ok (.getfield 93, 3) := by decide +kernel
theorem dX10_echo_31 : decode cX10_echo 31 = .ok (.if_icmp .ge 34, 3) := by decide +kernel
theorem dX10_echo_34 : decode cX10_echo 34 = .ok (.iload_n 3, 1) := by decide +kernel
theorem dX10_echo_35 : decode cX10_echo 35 = .ok (.aload_n 0, 1) := by decide +kernel
theorem dX10_echo_36 : decode cX10_echo 36 = .ok (.getfield 68, 3) := by decide +kernel
theorem dX10_echo_39 : decode cX10_echo 39 = .ok (.getfield 325, 3) := by decide +kernel
theorem dX10_echo_42 : decode cX10_echo 42 = .ok (.iload 4, 2) := by decide +kernel
theorem dX10_echo_44 : decode cX10_echo 44 = .ok (.iaload, 1) := by decide +kernel
theorem dX10_echo_45 : decode cX10_echo 45 = .ok (.iload_n 2, 1) := by decide +kernel
theorem dX10_echo_46 : decode cX10_echo 46 = .ok (.if_icmp .le 10, 3) := by decide +kernel
theorem dX10_echo_49 : decode cX10_echo 49 = .ok (.iconst 1, 1) := by decide +kernel
theorem dX10_echo_50 : decode cX10_echo 50 = .ok (.iload 4, 2) := by decide +kernel
theorem dX10_echo_52 : decode cX10_echo 52 = .ok (.ishl, 1) := by decide +kernel
theorem dX10_echo_53 : decode cX10_echo 53 = .ok (.goto 4, 3) := by decide +kernel
theorem dX10_echo_56 : decode cX10_echo 56 = .ok (.iconst 0, 1) := by decide +kernel
theorem dX10_echo_57 : decode cX10_echo 57 = .ok (.ior, 1) := by decide +kernel
theorem dX10_echo_58 : decode cX10_echo 58 = .ok (.istore_n 3, 1) := by decide +kernel
theorem dX10_echo_59 : decode cX10_echo 59 = .ok (.iinc 4 1, 3) := by decide +kernel
theorem dX10_echo_62 : decode cX10_echo 62 = .ok (.goto (-37), 3) := by decide +kernel
theorem dX10_echo_65 : decode cX10_echo 65 = .ok (.aload_n 0, 1) := by decide +kernel
theorem dX10_echo_66 : decode cX10_echo 66 = .ok (.getfield 19, 3) := by decide +kernel
theorem dX10_echo_69 : decode cX10_echo 69 = .ok (.iload_n 3, 1) := by decide +kernel
theorem dX10_echo_70 : decode cX10_echo 70 = .ok (.i2l, 1) := by decide +kernel
theorem dX10_echo_71 : decode cX10_echo 71 = .ok (.invokevirtual 286, 3) := by decide +kernel
theorem dX10_echo_74 : decode cX10_echo 74 = .ok (.bipush 100, 2) := by decide +kernel
theorem dX10_echo_76 : decode cX10_echo 76 = .ok (.iload_n 2, 1) := by decide +kernel
theorem dX10_echo_77 : decode cX10_echo 77 = .ok (.iadd, 1) := by decide +kernel
theorem dX10_echo_78 : decode cX10_echo 78 = .ok (.aload_n 0, 1) := by decide +kernel
theorem dX10_echo_79 : decode cX10_echo 79 = .ok (.getfield 68, 3) := by decide +kernel
theorem dX10_echo_82 : decode cX10_echo 82 = .ok (.getfield 325, 3) := by decide +kernel
theorem dX10_echo_85 : decode cX10_echo 85 = .ok (.iload_n 1, 1) := by decide +kernel
theorem dX10_echo_86 : decode cX10_echo 86 = .ok (.iaload, 1) := by decide +kernel
theorem dX10_echo_87 : decode cX10_echo 87 = .ok (.isub, 1) := by decide +kernel
theorem dX10_echo_88 : decode cX10_echo 88 = .ok (.ireturn, 1) := by decide +kernel
theorem s_X10_echo_25 {s13 : xW} {l1_9 l2_10 : Int} {q : Int × xW} {k : Int → Int → Option (Int × xW)} (hk : ∀ (l3_20 : Int) (l4_21 : Int), k l3_20 l4_21 = some q → xG 5 0 0 mX10_echo 65 [vR 0, vI l1_9, vI l2_10, vI l3_20, vI l4_21] [] 155 s13 (xRv (vI q.1) q.2)) : ∀ (f : Nat) (l3_11 : Int) (l4_12 : Int), F_X10_echo_25 l1_9 l2_10 s13 f l3_11 l4_12 k = some q → xG 5 0 0 mX10_echo 25 [vR 0, vI l1_9, vI l2_10, vI l3_11, vI l4_12] [] 155 s13 (xRv (vI q.1) q.2) := by
  intro f
  induction f with
  | zero => intro l3_11 l4_12 h; cases h
  | succ f ih =>
    intro l3_11 l4_12 h
    unfold F_X10_echo_25 at h
    refine g_il dX10_echo_25 rfl ?_
    refine g_aln dX10_echo_27 rfl rfl (by decide) ?_
    refine g_getI 14 dX10_echo_28 fl_X10_93 rfl rfl ?_
    refine g_wge dX10_echo_31 (tgt := 65) rfl rfl rfl (fun q14 => ?_) (fun q14 => ?_)
    · replace h := xif_f q14 h
      exact hk l3_11 l4_12 h
    · replace h := xif_t q14 h
      refine g_iln dX10_echo_34 rfl rfl ?_
      refine g_aln dX10_echo_35 rfl rfl (by decide) ?_
      refine g_getC 89 dX10_echo_36 fl_X10_68 rfl (by decide) ?_
      refine g_getC 91 dX10_echo_39 fl_X10_325 rfl (by decide) ?_
      refine g_il dX10_echo_42 rfl ?_
      obtain ⟨hg15, h⟩ := xgd_e h
      refine g_iald 8 dX10_echo_44 rfl hg15 (by decide) ?_
      refine g_iln dX10_echo_45 rfl rfl ?_
      obtain ⟨v17, e18, h⟩ := xlt_e h
      have hj19 : xG 5 0 0 mX10_echo 57 [vR 0, vI l1_9, vI l2_10, vX, vI l4_12] [vI v17, vI l3_11] 155 s13 (xRv (vI q.1) q.2) := by
        refine g_ior dX10_echo_57 ?_
        refine g_istn_3 dX10_echo_58 (by decide) rfl ?_
        refine g_inc_4 dX10_echo_59 (by decide) rfl ?_
        refine g_goto dX10_echo_62 (tgt := 25) rfl ?_
        exact ih (xor' l3_11 v17) (l4_12 + 1) h
      refine g_wle dX10_echo_46 (tgt := 56) rfl rfl rfl (fun c16 => ?_) (fun c16 => ?_)
      · skip
        refine g_ic dX10_echo_56 ?_
        refine g_drop_3 ?_
        exact g_vq ((if_neg c16).symm.trans e18) hj19
      · skip
        refine g_ic dX10_echo_49 ?_
        refine g_il dX10_echo_50 rfl ?_
        refine g_ishl dX10_echo_52 ?_
        refine g_goto dX10_echo_53 (tgt := 57) rfl ?_
        refine g_drop_3 ?_
        exact g_vq ((if_pos c16).symm.trans e18) hj19
theorem s_X10_echo {a1 : Int} {s0 : xW} {q : Int × xW} (h : F_X10_echo a1 s0 = some q) : xC 5 0 0 mX10_echo [vR 0, vI a1] 155 s0 (xRv (vI q.1) q.2) := by
  refine xC.of [vR 0, vI a1, vX, vX, vX] (by decide +kernel) (Nat.le_of_ble_eq_true rfl) rfl ?_
  unfold F_X10_echo at h
  refine g_aln dX10_echo_0 rfl rfl (by decide) ?_
  refine g_iln dX10_echo_1 rfl rfl ?_
  obtain ⟨r2, e1, h⟩ := xbp_e h
  refine g_cV1v dX10_echo_2 ml_X10_142 rfl (s_X10_isHouse e1) (by decide) rfl ?_
  refine g_yne dX10_echo_5 (tgt := 10) rfl rfl (fun q3 => ?_) (fun q3 => ?_)
  · replace h := xif_f q3 h
    refine g_aln dX10_echo_10 rfl rfl (by decide) ?_
    obtain ⟨s5, e4, h⟩ := xbp_e h
    refine g_cV00 dX10_echo_11 ml_X10_173 rfl (s_X10_planToday e4) (by decide) rfl ?_
    refine g_aln dX10_echo_14 rfl rfl (by decide) ?_
    refine g_iln dX10_echo_15 rfl rfl ?_
    obtain ⟨r7, s8, e6, h⟩ := xbd_e h
    refine g_cV1v dX10_echo_16 ml_X10_162 rfl (s_X10_minuteOfEcho e6) (by decide) rfl ?_
    refine g_istn_2 dX10_echo_19 (by decide) rfl ?_
    refine g_ic dX10_echo_20 ?_
    refine g_istn_3 dX10_echo_21 (by decide) rfl ?_
    refine g_ic dX10_echo_22 ?_
    refine g_ist_4 dX10_echo_23 (by decide) rfl ?_
    refine s_X10_echo_25 (fun l3_22 l4_23 h => ?_) xN _ _ h
    refine g_aln dX10_echo_65 rfl rfl (by decide) ?_
    refine g_getC 3 dX10_echo_66 fl_X10_19 rfl (by decide) ?_
    refine g_iln dX10_echo_69 rfl rfl ?_
    refine g_wi2l dX10_echo_70 rfl ?_
    obtain ⟨s25, e24, h⟩ := xbp_e h
    refine g_cV10 dX10_echo_71 ml_X10_286 rfl (s_X6_tell e24) (by decide) rfl ?_
    refine g_bi dX10_echo_74 (by decide) ?_
    refine g_iln dX10_echo_76 rfl rfl ?_
    refine g_iadd dX10_echo_77 ?_
    refine g_aln dX10_echo_78 rfl rfl (by decide) ?_
    refine g_getC 89 dX10_echo_79 fl_X10_68 rfl (by decide) ?_
    refine g_getC 91 dX10_echo_82 fl_X10_325 rfl (by decide) ?_
    refine g_iln dX10_echo_85 rfl rfl ?_
    obtain ⟨hg26, h⟩ := xgd_e h
    refine g_iald 8 dX10_echo_86 rfl hg26 (by decide) ?_
    refine g_isub dX10_echo_87 ?_
    exact g_rI rfl dX10_echo_88 h
  · replace h := xif_t q3 h
    refine g_ic dX10_echo_8 ?_
    exact g_rI rfl dX10_echo_9 h
theorem dX8_cut_0 : decode cX8_cut 0 = .ok (.iload_n 1, 1) := by decide +kernel
theorem dX8_cut_1 : decode cX8_cut 1 = .ok (.ifCond .lt 11, 3) := by decide +kernel
theorem dX8_cut_4 : decode cX8_cut 4 = .ok (.iload_n 1, 1) := by decide +kernel
theorem dX8_cut_5 : decode cX8_cut 5 = .ok (.aload_n 0, 1) := by decide +kernel
theorem dX8_cut_6 : decode cX8_cut 6 = .ok (.getfield 15, 3) := by decide +kernel
theorem dX8_cut_9 : decode cX8_cut 9 = .ok (.if_icmp .le 5, 3) := by decide +kernel
theorem dX8_cut_12 : decode cX8_cut 12 = .ok (.iconst 0, 1) := by decide +kernel
theorem dX8_cut_13 : decode cX8_cut 13 = .ok (.ireturn, 1) := by decide +kernel
theorem dX8_cut_14 : decode cX8_cut 14 = .ok (.aload_n 0, 1) := by decide +kernel
theorem dX8_cut_15 : decode cX8_cut 15 = .ok (.iload_n 1, 1) := by decide +kernel
theorem dX8_cut_16 : decode cX8_cut 16 = .ok (.putfield 15, 3) := by decide +kernel
theorem dX8_cut_19 : decode cX8_cut 19 = .ok (.iconst 1, 1) := by decide +kernel
theorem dX8_cut_20 : decode cX8_cut 20 = .ok (.ireturn, 1) := by decide +kernel
theorem s_X8_cut {a1 : Int} {s0 : xW} {q : Int × xW} (h : F_X8_cut a1 s0 = some q) : xC 0 0 0 mX8_cut [vR 1, vI a1] 155 s0 (xRv (vI q.1) q.2) := by
  refine xC.of [vR 1, vI a1] (by decide +kernel) (Nat.le_of_ble_eq_true rfl) rfl ?_
  unfold F_X8_cut at h
  refine g_iln dX8_cut_0 rfl rfl ?_
  obtain ⟨j1, ej2, h⟩ := xjn_e h
  have hj3 : j1  = some q → xG 0 0 0 mX8_cut 12 [vX, vX] [] 155 s0 (xRv (vI q.1) q.2) := by
    intro  h
    rw [ej2] at h
    refine g_ic dX8_cut_12 ?_
    exact g_rZ rfl dX8_cut_13 (by decide) h
  clear ej2
  refine g_ylt dX8_cut_1 (tgt := 12) rfl rfl (fun q4 => ?_) (fun q4 => ?_)
  · replace h := xif_f q4 h
    refine g_drop_0 ?_
    refine g_drop_1 ?_
    exact hj3  h
  · replace h := xif_t q4 h
    refine g_iln dX8_cut_4 rfl rfl ?_
    refine g_aln dX8_cut_5 rfl rfl (by decide) ?_
    refine g_getI 1 dX8_cut_6 fl_X8_15 rfl rfl ?_
    refine g_wle dX8_cut_9 (tgt := 14) rfl rfl rfl (fun q5 => ?_) (fun q5 => ?_)
    · replace h := xif_f q5 h
      refine g_aln dX8_cut_14 rfl rfl (by decide) ?_
      refine g_iln dX8_cut_15 rfl rfl ?_
      obtain ⟨s6, e7, h⟩ := xlt_e h
      refine h_putI 1 dX8_cut_16 fl_X8_15 rfl rfl e7 ?_
      refine g_ic dX8_cut_19 ?_
      exact g_rZ rfl dX8_cut_20 (by decide) h
    · replace h := xif_t q5 h
      refine g_drop_0 ?_
      refine g_drop_1 ?_
      exact hj3  h
theorem dX10_end_0 : decode cX10_end 0 = .ok (.aload_n 0, 1) := by decide +kernel
theorem dX10_end_1 : decode cX10_end 1 = .ok (.getfield 12, 3) := by decide +kernel
theorem dX10_end_4 : decode cX10_end 4 = .ok (.iload_n 1, 1) := by decide +kernel
theorem dX10_end_5 : decode cX10_end 5 = .ok (.invokevirtual 115, 3) := by decide +kernel
theorem dX10_end_8 : decode cX10_end 8 = .ok (.ireturn, 1) := by decide +kernel
theorem s_X10_end {a1 : Int} {s0 : xW} {q : Int × xW} (h : F_X10_end a1 s0 = some q) : xC 1 0 0 mX10_end [vR 0, vI a1] 155 s0 (xRv (vI q.1) q.2) := by
  refine xC.of [vR 0, vI a1] (by decide +kernel) (Nat.le_of_ble_eq_true rfl) rfl ?_
  unfold F_X10_end at h
  refine g_aln dX10_end_0 rfl rfl (by decide) ?_
  refine g_getC 1 dX10_end_1 fl_X10_12 rfl (by decide) ?_
  refine g_iln dX10_end_4 rfl rfl ?_
  obtain ⟨r2, s3, e1, h⟩ := xbd_e h
  refine g_cV1v dX10_end_5 ml_X10_115 rfl (s_X8_cut e1) (by decide) rfl ?_
  obtain ⟨hg4, h⟩ := xgd_e h
  exact g_rZ rfl dX10_end_8 hg4 h
theorem dX10_entry_0 : decode cX10_entry 0 = .ok (.iload_n 0, 1) := by decide +kernel
theorem dX10_entry_1 : decode cX10_entry 1 = .ok (.ifCond .ne 6, 3) := by decide +kernel
theorem dX10_entry_4 : decode cX10_entry 4 = .ok (.iload_n 1, 1) := by decide +kernel
theorem dX10_entry_5 : decode cX10_entry 5 = .ok (.i2b, 1) := by decide +kernel
theorem dX10_entry_6 : decode cX10_entry 6 = .ok (.ireturn, 1) := by decide +kernel
theorem dX10_entry_7 : decode cX10_entry 7 = .ok (.iload_n 0, 1) := by decide +kernel
theorem dX10_entry_8 : decode cX10_entry 8 = .ok (.iconst 1, 1) := by decide +kernel
theorem dX10_entry_9 : decode cX10_entry 9 = .ok (.if_icmp .ne 8, 3) := by decide +kernel
theorem dX10_entry_12 : decode cX10_entry 12 = .ok (.iload_n 1, 1) := by decide +kernel
theorem dX10_entry_13 : decode cX10_entry 13 = .ok (.i2s, 1) := by decide +kernel
theorem dX10_entry_14 : decode cX10_entry 14 = .ok (.goto 4, 3) := by decide +kernel
theorem dX10_entry_17 : decode cX10_entry 17 = .ok (.iload_n 1, 1) := by decide +kernel
theorem dX10_entry_18 : decode cX10_entry 18 = .ok (.ireturn, 1) := by decide +kernel
theorem s_X10_entry {a0 a1 : Int} {s0 : xW} {q : Int} (h : F_X10_entry a0 a1 s0 = some q) : xC 0 0 0 mX10_entry [vI a0, vI a1] 155 s0 (xRv (vI q) s0) := by
  refine xC.of [vI a0, vI a1] (by decide +kernel) (Nat.le_of_ble_eq_true rfl) rfl ?_
  unfold F_X10_entry at h
  refine g_iln dX10_entry_0 rfl rfl ?_
  refine g_yne dX10_entry_1 (tgt := 7) rfl rfl (fun q1 => ?_) (fun q1 => ?_)
  · replace h := xif_f q1 h
    refine g_iln dX10_entry_7 rfl rfl ?_
    refine g_ic dX10_entry_8 ?_
    obtain ⟨v3, e4, h⟩ := xlt_e h
    have hj5 : xG 0 0 0 mX10_entry 18 [vX, vX] [vI v3] 155 s0 (xRv (vI q) s0) := by
      exact g_pI rfl dX10_entry_18 h
    refine g_wne dX10_entry_9 (tgt := 17) rfl rfl (xw_id (by decide)) (fun c2 => ?_) (fun c2 => ?_)
    · skip
      refine g_iln dX10_entry_17 rfl rfl ?_
      refine g_drop_0 ?_
      refine g_drop_1 ?_
      exact g_vq ((if_neg c2).symm.trans e4) hj5
    · skip
      refine g_iln dX10_entry_12 rfl rfl ?_
      refine g_i2s dX10_entry_13 ?_
      refine g_goto dX10_entry_14 (tgt := 18) rfl ?_
      refine g_drop_0 ?_
      refine g_drop_1 ?_
      exact g_vq ((if_pos c2).symm.trans e4) hj5
  · replace h := xif_t q1 h
    refine g_iln dX10_entry_4 rfl rfl ?_
    refine g_i2b dX10_entry_5 ?_
    exact g_pI rfl dX10_entry_6 h
theorem dX10_findFoes_0 : decode cX10_findFoes 0 = .ok (.aload_n 0, 1) := by decide +kernel
theorem dX10_findFoes_1 : decode cX10_findFoes 1 = .ok (.invokevirtual 173, 3) := by decide +kernel
theorem dX10_findFoes_4 : decode cX10_findFoes 4 = .ok (.iconst 0, 1) := by decide +kernel
theorem dX10_findFoes_5 : decode cX10_findFoes 5 = .ok (.istore_n 1, 1) := by decide +kernel
theorem dX10_findFoes_6 : decode cX10_findFoes 6 = .ok (.iload_n 1, 1) := by decide +kernel
theorem dX10_findFoes_7 : decode cX10_findFoes 7 = .ok (.aload_n 0, 1) := by decide +kernel
theorem dX10_findFoes_8 : decode cX10_findFoes 8 = .ok (.getfield 75, 3) := by decide +kernel
theorem dX10_findFoes_11 : decode cX10_findFoes 11 = .ok (.getfield 131, 3) := by decide +kernel
theorem dX10_findFoes_14 : decode cX10_findFoes 14 = .ok (.if_icmp .ge 23, 3) := by decide +kernel
theorem dX10_findFoes_17 : decode cX10_findFoes 17 = .ok (.aload_n 0, 1) := by decide +kernel
theorem dX10_findFoes_18 : decode cX10_findFoes 18 = .ok (.getfield 100, 3) := by decide +kernel
theorem dX10_findFoes_21 : decode cX10_findFoes 21 = .ok (.iload_n 1, 1) := by decide +kernel
theorem dX10_findFoes_22 : decode cX10_findFoes 22 = .ok (.aload_n 0, 1) := by decide +kernel
theorem dX10_findFoes_23 : decode cX10_findFoes 23 = .ok (.getfield 75, 3) := by decide +kernel
theorem dX10_findFoes_26 : decode cX10_findFoes 26 = .ok (.iload_n 1, 1) := by decide +kernel
theorem dX10_findFoes_27 : decode cX10_findFoes 27 = .ok (.invokevirtual 188, 3) := by decide +kernel
theorem dX10_findFoes_30 : decode cX10_findFoes 30 = .ok (.iastore, 1) := by decide +kernel
theorem dX10_findFoes_31 : decode cX10_findFoes 31 = .ok (.iinc 1 1, 3) := by decide +kernel
theorem dX10_findFoes_34 : decode cX10_findFoes 34 = .ok (.goto (-28), 3) := by decide +kernel
theorem dX10_findFoes_37 : decode cX10_findFoes 37 = .ok (.iconst 1, 1) := by decide +kernel
theorem dX10_findFoes_38 : decode cX10_findFoes 38 = .ok (.aload_n 0, 1) := by decide +kernel
theorem dX10_findFoes_39 : decode cX10_findFoes 39 = .ok (.getfield 75, 3) := by decide +kernel
theorem dX10_findFoes_42 : decode cX10_findFoes 42 = .ok (.getfield 131, 3) := by decide +kernel
theorem dX10_findFoes_45 : decode cX10_findFoes 45 = .ok (.ishl, 1) := by decide +kernel
theorem dX10_findFoes_46 : decode cX10_findFoes 46 = .ok (.iconst 1, 1) := by decide +kernel
theorem dX10_findFoes_47 : decode cX10_findFoes 47 = .ok (.isub, 1) := by decide +kernel
theorem dX10_findFoes_48 : decode cX10_findFoes 48 = .ok (.ireturn, 1) := by decide +kernel
theorem s_X10_findFoes_6 {q : Int × xW} {k : Int → xW → Option (Int × xW)} (hk : ∀ (l1_11 : Int) (s12 : xW), k l1_11 s12 = some q → xG 5 0 0 mX10_findFoes 37 [vR 0, vI l1_11] [] 155 s12 (xRv (vI q.1) q.2)) : ∀ (f : Nat) (l1_3 : Int) (s4 : xW), F_X10_findFoes_6  f l1_3 s4 k = some q → xG 5 0 0 mX10_findFoes 6 [vR 0, vI l1_3] [] 155 s4 (xRv (vI q.1) q.2) := by
  intro f
  induction f with
  | zero => intro l1_3 s4 h; cases h
  | succ f ih =>
    intro l1_3 s4 h
    unfold F_X10_findFoes_6 at h
    refine g_iln dX10_findFoes_6 rfl rfl ?_
    refine g_aln dX10_findFoes_7 rfl rfl (by decide) ?_
    refine g_getC 92 dX10_findFoes_8 fl_X10_75 rfl (by decide) ?_
    refine g_getI 0 dX10_findFoes_11 fl_X10_131 rfl rfl ?_
    refine g_wge dX10_findFoes_14 (tgt := 37) rfl rfl rfl (fun q5 => ?_) (fun q5 => ?_)
    · replace h := xif_f q5 h
      exact hk l1_3 s4 h
    · replace h := xif_t q5 h
      refine g_aln dX10_findFoes_17 rfl rfl (by decide) ?_
      refine g_getC 107 dX10_findFoes_18 fl_X10_100 rfl (by decide) ?_
      refine g_iln dX10_findFoes_21 rfl rfl ?_
      refine g_aln dX10_findFoes_22 rfl rfl (by decide) ?_
      refine g_getC 92 dX10_findFoes_23 fl_X10_75 rfl (by decide) ?_
      refine g_iln dX10_findFoes_26 rfl rfl ?_
      obtain ⟨r7, e6, h⟩ := xbp_e h
      refine g_cV1v dX10_findFoes_27 ml_X10_188 rfl (s_X4_foes e6) (by decide) rfl ?_
      obtain ⟨hg8, h⟩ := xgd_e h
      obtain ⟨s9, e10, h⟩ := xlt_e h
      refine h_iast 8 dX10_findFoes_30 rfl hg8 (by decide) e10 ?_
      refine g_inc_1 dX10_findFoes_31 (by decide) rfl ?_
      refine g_goto dX10_findFoes_34 (tgt := 6) rfl ?_
      exact ih (l1_3 + 1) s9 h
theorem s_X10_findFoes {s0 : xW} {q : Int × xW} (h : F_X10_findFoes  s0 = some q) : xC 5 0 0 mX10_findFoes [vR 0] 155 s0 (xRv (vI q.1) q.2) := by
  refine xC.of [vR 0, vX] (by decide +kernel) (Nat.le_of_ble_eq_true rfl) rfl ?_
  unfold F_X10_findFoes at h
  refine g_aln dX10_findFoes_0 rfl rfl (by decide) ?_
  obtain ⟨s2, e1, h⟩ := xbp_e h
  refine g_cV00 dX10_findFoes_1 ml_X10_173 rfl (s_X10_planToday e1) (by decide) rfl ?_
  refine g_ic dX10_findFoes_4 ?_
  refine g_istn_1 dX10_findFoes_5 (by decide) rfl ?_
  refine s_X10_findFoes_6 (fun l1_13 s14 h => ?_) xN _ _ h
  refine g_ic dX10_findFoes_37 ?_
  refine g_aln dX10_findFoes_38 rfl rfl (by decide) ?_
  refine g_getC 92 dX10_findFoes_39 fl_X10_75 rfl (by decide) ?_
  refine g_getI 0 dX10_findFoes_42 fl_X10_131 rfl rfl ?_
  refine g_ishl dX10_findFoes_45 ?_
  refine g_ic dX10_findFoes_46 ?_
  refine g_isub dX10_findFoes_47 ?_
  exact g_rI rfl dX10_findFoes_48 h
theorem dX10_isPeaceful_0 : decode cX10_isPeaceful 0 = .ok (.iconst 0, 1) := by decide +kernel
theorem dX10_isPeaceful_1 : decode cX10_isPeaceful 1 = .ok (.istore_n 2, 1) := by decide +kernel
theorem dX10_isPeaceful_2 : decode cX10_isPeaceful 2 = .ok (.iload_n 2, 1) := by decide +kernel
theorem dX10_isPeaceful_3 : decode cX10_isPeaceful 3 = .ok (.aload_n 0, 1) := by decide +kernel
theorem dX10_isPeaceful_4 : decode cX10_isPeaceful 4 = .ok (.getfield 75, 3) := by decide +kernel
theorem dX10_isPeaceful_7 : decode cX10_isPeaceful 7 = .ok (.getfield 131, 3) := by decide +kernel
theorem dX10_isPeaceful_10 : decode cX10_isPeaceful 10 = .ok (.if_icmp .ge 31, 3) := by decide +kernel
theorem dX10_isPeaceful_13 : decode cX10_isPeaceful 13 = .ok (.iload_n 1, 1) := by decide +kernel
theorem dX10_isPeaceful_14 : decode cX10_isPeaceful 14 = .ok (.iload_n 2, 1) := by decide +kernel
theorem dX10_isPeaceful_15 : decode cX10_isPeaceful 15 = .ok (.ishr, 1) := by decide +kernel
theorem dX10_isPeaceful_16 : decode cX10_isPeaceful 16 = .ok (.iconst 1, 1) := by decide +kernel
theorem dX10_isPeaceful_17 : decode cX10_isPeaceful 17 = .ok (.iand, 1) := by decide +kernel
theorem dX10_isPeaceful_18 : decode cX10_isPeaceful 18 = .ok (.iconst 1, 1) := by decide +kernel
theorem dX10_isPeaceful_19 : decode cX10_isPeaceful 19 = .ok (.if_icmp .ne 16, 3) := by decide +kernel
theorem dX10_isPeaceful_22 : decode cX10_isPeaceful 22 = .ok (.aload_n 0, 1) := by decide +kernel
theorem dX10_isPeaceful_23 : decode cX10_isPeaceful 23 = .ok (.getfield 100, 3) := by decide +kernel
theorem dX10_isPeaceful_26 : decode cX10_isPeaceful 26 = .ok (.iload_n 2, 1) := by decide +kernel
theorem dX10_isPeaceful_27 : decode cX10_isPeaceful 27 = .ok (.iaload, 1) := by decide +kernel
theorem dX10_isPeaceful_28 : decode cX10_isPeaceful 28 = .ok (.iload_n 1, 1) := by decide +kernel
theorem dX10_isPeaceful_29 : decode cX10_isPeaceful 29 = .ok (.iand, 1) := by decide +kernel
theorem dX10_isPeaceful_30 : decode cX10_isPeaceful 30 = .ok (.ifCond .eq 5, 3) := by decide +kernel
theorem dX10_isPeaceful_33 : decode cX10_isPeaceful 33 = .ok (.iconst 0, 1) := by decide +kernel
theorem dX10_isPeaceful_34 : decode cX10_isPeaceful 34 = .ok (.ireturn, 1) := by decide +kernel
theorem dX10_isPeaceful_35 : decode cX10_isPeaceful 35 = .ok (.iinc 2 1, 3) := by decide +kernel
theorem dX10_isPeaceful_38 : decode cX10_isPeaceful 38 = .ok (.goto (-36), 3) := by decide +kernel
theorem dX10_isPeaceful_41 : decode cX10_isPeaceful 41 = .ok (.iconst 1, 1) := by decide +kernel
theorem dX10_isPeaceful_42 : decode cX10_isPeaceful 42 = .ok (.ireturn, 1) := by decide +kernel
theorem s_X10_isPeaceful_2 {s3 : xW} {l1_1 : Int} {q : Int} {k : Int → Option (Int)} (hk : ∀ (l2_11 : Int), k l2_11 = some q → xG 0 0 0 mX10_isPeaceful 41 [vR 0, vI l1_1, vI l2_11] [] 155 s3 (xRv (vI q) s3)) : ∀ (f : Nat) (l2_2 : Int), F_X10_isPeaceful_2 l1_1 s3 f l2_2 k = some q → xG 0 0 0 mX10_isPeaceful 2 [vR 0, vI l1_1, vI l2_2] [] 155 s3 (xRv (vI q) s3) := by
  intro f
  induction f with
  | zero => intro l2_2 h; cases h
  | succ f ih =>
    intro l2_2 h
    unfold F_X10_isPeaceful_2 at h
    refine g_iln dX10_isPeaceful_2 rfl rfl ?_
    refine g_aln dX10_isPeaceful_3 rfl rfl (by decide) ?_
    refine g_getC 92 dX10_isPeaceful_4 fl_X10_75 rfl (by decide) ?_
    refine g_getI 0 dX10_isPeaceful_7 fl_X10_131 rfl rfl ?_
    refine g_wge dX10_isPeaceful_10 (tgt := 41) rfl rfl rfl (fun q4 => ?_) (fun q4 => ?_)
    · replace h := xif_f q4 h
      exact hk l2_2 h
    · replace h := xif_t q4 h
      refine g_iln dX10_isPeaceful_13 rfl rfl ?_
      refine g_iln dX10_isPeaceful_14 rfl rfl ?_
      refine g_ishr dX10_isPeaceful_15 ?_
      refine g_ic dX10_isPeaceful_16 ?_
      refine g_iand dX10_isPeaceful_17 ?_
      refine g_ic dX10_isPeaceful_18 ?_
      obtain ⟨j5, ej6, h⟩ := xjn_e h
      have hj7 : j5  = some q → xG 0 0 0 mX10_isPeaceful 35 [vR 0, vI l1_1, vI l2_2] [] 155 s3 (xRv (vI q) s3) := by
        intro  h
        rw [ej6] at h
        refine g_inc_2 dX10_isPeaceful_35 (by decide) rfl ?_
        refine g_goto dX10_isPeaceful_38 (tgt := 2) rfl ?_
        exact ih (l2_2 + 1) h
      clear ej6
      refine g_wne dX10_isPeaceful_19 (tgt := 35) rfl rfl (xw_id (by decide)) (fun q8 => ?_) (fun q8 => ?_)
      · replace h := xif_f q8 h
        exact hj7  h
      · replace h := xif_t q8 h
        refine g_aln dX10_isPeaceful_22 rfl rfl (by decide) ?_
        refine g_getC 107 dX10_isPeaceful_23 fl_X10_100 rfl (by decide) ?_
        refine g_iln dX10_isPeaceful_26 rfl rfl ?_
        obtain ⟨hg9, h⟩ := xgd_e h
        refine g_iald 8 dX10_isPeaceful_27 rfl hg9 (by decide) ?_
        refine g_iln dX10_isPeaceful_28 rfl rfl ?_
        refine g_iand dX10_isPeaceful_29 ?_
        refine g_yeq dX10_isPeaceful_30 (tgt := 35) rfl rfl (fun q10 => ?_) (fun q10 => ?_)
        · replace h := xif_f q10 h
          exact hj7  h
        · replace h := xif_t q10 h
          refine g_ic dX10_isPeaceful_33 ?_
          exact g_pZ rfl dX10_isPeaceful_34 (by decide) h
theorem s_X10_isPeaceful {a1 : Int} {s0 : xW} {q : Int} (h : F_X10_isPeaceful a1 s0 = some q) : xC 0 0 0 mX10_isPeaceful [vR 0, vI a1] 155 s0 (xRv (vI q) s0) := by
  refine xC.of [vR 0, vI a1, vX] (by decide +kernel) (Nat.le_of_ble_eq_true rfl) rfl ?_
  unfold F_X10_isPeaceful at h
  refine g_ic dX10_isPeaceful_0 ?_
  refine g_istn_2 dX10_isPeaceful_1 (by decide) rfl ?_
  refine s_X10_isPeaceful_2 (fun l2_12 h => ?_) xN _ h
  refine g_ic dX10_isPeaceful_41 ?_
  exact g_pZ rfl dX10_isPeaceful_42 (by decide) h
theorem dX10_fewest_0 : decode cX10_fewest 0 = .ok (.aload_n 0, 1) := by decide +kernel
theorem dX10_fewest_1 : decode cX10_fewest 1 = .ok (.invokevirtual 291, 3) := by decide +kernel
theorem dX10_fewest_4 : decode cX10_fewest 4 = .ok (.istore_n 1, 1) := by decide +kernel
theorem dX10_fewest_5 : decode cX10_fewest 5 = .ok (.aload_n 0, 1) := by decide +kernel
theorem dX10_fewest_6 : decode cX10_fewest 6 = .ok (.getfield 75, 3) := by decide +kernel
theorem dX10_fewest_9 : decode cX10_fewest 9 = .ok (.getfield 131, 3) := by decide +kernel
theorem dX10_fewest_12 : decode cX10_fewest 12 = .ok (.iconst 1, 1) := by decide +kernel
theorem dX10_fewest_13 : decode cX10_fewest 13 = .ok (.iadd, 1) := by decide +kernel
theorem dX10_fewest_14 : decode cX10_fewest 14 = .ok (.istore_n 2, 1) := by decide +kernel
theorem dX10_fewest_15 : decode cX10_fewest 15 = .ok (.iconst 0, 1) := by decide +kernel
theorem dX10_fewest_16 : decode cX10_fewest 16 = .ok (.istore_n 3, 1) := by decide +kernel
theorem dX10_fewest_17 : decode cX10_fewest 17 = .ok (.iconst 0, 1) := by decide +kernel
theorem dX10_fewest_18 : decode cX10_fewest 18 = .ok (.istore 4, 2) := by decide +kernel
theorem dX10_fewest_20 : decode cX10_fewest 20 = .ok (.iload 4, 2) := by decide +kernel
theorem dX10_fewest_22 : decode cX10_fewest 22 = .ok (.iload_n 1, 1) := by decide +kernel
theorem dX10_fewest_23 : decode cX10_fewest 23 = .ok (.if_icmp .gt 41, 3) := by decide +kernel
theorem dX10_fewest_26 : decode cX10_fewest 26 = .ok (.iload 4, 2) := by decide +kernel
theorem dX10_fewest_28 : decode cX10_fewest 28 = .ok (.invokestatic 294, 3) := by decide +kernel
theorem dX10_fewest_31 : decode cX10_fewest 31 = .ok (.istore 5, 2) := by decide +kernel
theorem dX10_fewest_33 : decode cX10_fewest 33 = .ok (.iload 5, 2) := by decide +kernel
theorem dX10_fewest_35 : decode cX10_fewest 35 = .ok (.iload_n 2, 1) := by decide +kernel
theorem dX10_fewest_36 : decode cX10_fewest 36 = .ok (.if_icmp .ge 22, 3) := by decide +kernel
theorem dX10_fewest_39 : decode cX10_fewest 39 = .ok (.aload_n 0, 1) := by decide +kernel
theorem dX10_fewest_40 : decode cX10_fewest 40 = .ok (.iload_n 1, 1) := by decide +kernel
theorem dX10_fewest_41 : decode cX10_fewest 41 = .ok (.iload 4, 2) := by decide +kernel
theorem dX10_fewest_43 : decode cX10_fewest 43 = .ok (.iconst (-1), 1) := by decide +kernel
theorem dX10_fewest_44 : decode cX10_fewest 44 = .ok (.ixor, 1) := by decide +kernel
theorem dX10_fewest_45 : decode cX10_fewest 45 = .ok (.iand, 1) := by decide +kernel
theorem dX10_fewest_46 : decode cX10_fewest 46 = .ok (.invokevirtual 299, 3) := by decide +kernel
theorem dX10_fewest_49 : decode cX10_fewest 49 = .ok (.ifCond .eq 9, 3) := by decide +kernel
theorem dX10_fewest_52 : decode cX10_fewest 52 = .ok (.iload 5, 2) := by decide +kernel
theorem dX10_fewest_54 : decode cX10_fewest 54 = .ok (.istore_n 2, 1) := by decide +kernel
theorem dX10_fewest_55 : decode cX10_fewest 55 = .ok (.iload 4, 2) := by decide +kernel
theorem dX10_fewest_57 : decode cX10_fewest 57 = .ok (.istore_n 3, 1) := by decide +kernel
theorem dX10_fewest_58 : decode cX10_fewest 58 = .ok (.iinc 4 1, 3) := by decide +kernel
theorem dX10_fewest_61 : decode cX10_fewest 61 = .ok (.goto (-41), 3) := by decide +kernel
theorem dX10_fewest_64 : decode cX10_fewest 64 = .ok (.aload_n 0, 1) := by decide +kernel
theorem dX10_fewest_65 : decode cX10_fewest 65 = .ok (.getfield 19, 3) := by decide +kernel
theorem dX10_fewest_68 : decode cX10_fewest 68 = .ok (.iload_n 3, 1) := by decide +kernel
theorem dX10_fewest_69 : decode cX10_fewest 69 = .ok (.i2l, 1) := by decide +kernel
theorem dX10_fewest_70 : decode cX10_fewest 70 = .ok (.invokevirtual 286, 3) := by decide +kernel
theorem dX10_fewest_73 : decode cX10_fewest 73 = .ok (.iload_n 2, 1) := by decide +kernel
theorem dX10_fewest_74 : decode cX10_fewest 74 = .ok (.ireturn, 1) := by decide +kernel
theorem s_X10_fewest_20 {s8 : xW} {l1_4 : Int} {q : Int × xW} {k : Int → Int → Int → Option (Int × xW)} (hk : ∀ (l2_19 : Int) (l3_20 : Int) (l4_21 : Int), k l2_19 l3_20 l4_21 = some q → xG 6 0 0 mX10_fewest 64 [vR 0, vI l1_4, vI l2_19, vI l3_20, vI l4_21, vX] [] 155 s8 (xRv (vI q.1) q.2)) : ∀ (f : Nat) (l2_5 : Int) (l3_6 : Int) (l4_7 : Int), F_X10_fewest_20 l1_4 s8 f l2_5 l3_6 l4_7 k = some q → xG 6 0 0 mX10_fewest 20 [vR 0, vI l1_4, vI l2_5, vI l3_6, vI l4_7, vX] [] 155 s8 (xRv (vI q.1) q.2) := by
  intro f
  induction f with
  | zero => intro l2_5 l3_6 l4_7 h; cases h
  | succ f ih =>
    intro l2_5 l3_6 l4_7 h
    unfold F_X10_fewest_20 at h
    refine g_il dX10_fewest_20 rfl ?_
    refine g_iln dX10_fewest_22 rfl rfl ?_
    refine g_wgt dX10_fewest_23 (tgt := 64) rfl rfl rfl (fun q9 => ?_) (fun q9 => ?_)
    · replace h := xif_f q9 h
      exact hk l2_5 l3_6 l4_7 h
    · replace h := xif_t q9 h
      refine g_il dX10_fewest_26 rfl ?_
      refine g_bitc dX10_fewest_28 bc_X10_294 (by decide) rfl ?_
      refine g_ist_5 dX10_fewest_31 (by decide) rfl ?_
      refine g_il dX10_fewest_33 rfl ?_
      refine g_iln dX10_fewest_35 rfl rfl ?_
      obtain ⟨j12, ej13, h⟩ := xjn_e h
      have hj14 : ∀ (l2_10 : Int) (l3_11 : Int), j12 l2_10 l3_11 = some q → xG 6 0 0 mX10_fewest 58 [vR 0, vI l1_4, vI l2_10, vI l3_11, vI l4_7, vX] [] 155 s8 (xRv (vI q.1) q.2) := by
        intro l2_10 l3_11 h
        rw [ej13] at h
        refine g_inc_4 dX10_fewest_58 (by decide) rfl ?_
        refine g_goto dX10_fewest_61 (tgt := 20) rfl ?_
        exact ih l2_10 l3_11 (l4_7 + 1) h
      clear ej13
      refine g_wge dX10_fewest_36 (tgt := 58) rfl rfl rfl (fun q15 => ?_) (fun q15 => ?_)
      · replace h := xif_f q15 h
        refine g_drop_5 ?_
        exact hj14 l2_5 l3_6 h
      · replace h := xif_t q15 h
        refine g_aln dX10_fewest_39 rfl rfl (by decide) ?_
        refine g_iln dX10_fewest_40 rfl rfl ?_
        refine g_il dX10_fewest_41 rfl ?_
        refine g_ic dX10_fewest_43 ?_
        refine g_ixor dX10_fewest_44 ?_
        refine g_iand dX10_fewest_45 ?_
        obtain ⟨r17, e16, h⟩ := xbp_e h
        refine g_cV1v dX10_fewest_46 ml_X10_299 rfl (s_X10_isPeaceful e16) (by decide) rfl ?_
        refine g_yeq dX10_fewest_49 (tgt := 58) rfl rfl (fun q18 => ?_) (fun q18 => ?_)
        · replace h := xif_f q18 h
          refine g_drop_5 ?_
          exact hj14 l2_5 l3_6 h
        · replace h := xif_t q18 h
          refine g_il dX10_fewest_52 rfl ?_
          refine g_istn_2 dX10_fewest_54 (by decide) rfl ?_
          refine g_il dX10_fewest_55 rfl ?_
          refine g_istn_3 dX10_fewest_57 (by decide) rfl ?_
          refine g_drop_5 ?_
          exact hj14 (xbc l4_7) l4_7 h
theorem s_X10_fewest {s0 : xW} {q : Int × xW} (h : F_X10_fewest  s0 = some q) : xC 6 0 0 mX10_fewest [vR 0] 155 s0 (xRv (vI q.1) q.2) := by
  refine xC.of [vR 0, vX, vX, vX, vX, vX] (by decide +kernel) (Nat.le_of_ble_eq_true rfl) rfl ?_
  unfold F_X10_fewest at h
  refine g_aln dX10_fewest_0 rfl rfl (by decide) ?_
  obtain ⟨r2, s3, e1, h⟩ := xbd_e h
  refine g_cV0v dX10_fewest_1 ml_X10_291 rfl (s_X10_findFoes e1) (by decide) rfl ?_
  refine g_istn_1 dX10_fewest_4 (by decide) rfl ?_
  refine g_aln dX10_fewest_5 rfl rfl (by decide) ?_
  refine g_getC 92 dX10_fewest_6 fl_X10_75 rfl (by decide) ?_
  refine g_getI 0 dX10_fewest_9 fl_X10_131 rfl rfl ?_
  refine g_ic dX10_fewest_12 ?_
  refine g_iadd dX10_fewest_13 ?_
  refine g_istn_2 dX10_fewest_14 (by decide) rfl ?_
  refine g_ic dX10_fewest_15 ?_
  refine g_istn_3 dX10_fewest_16 (by decide) rfl ?_
  refine g_ic dX10_fewest_17 ?_
  refine g_ist_4 dX10_fewest_18 (by decide) rfl ?_
  refine s_X10_fewest_20 (fun l2_22 l3_23 l4_24 h => ?_) xN _ _ _ h
  refine g_aln dX10_fewest_64 rfl rfl (by decide) ?_
  refine g_getC 3 dX10_fewest_65 fl_X10_19 rfl (by decide) ?_
  refine g_iln dX10_fewest_68 rfl rfl ?_
  refine g_wi2l dX10_fewest_69 rfl ?_
  obtain ⟨s26, e25, h⟩ := xbp_e h
  refine g_cV10 dX10_fewest_70 ml_X10_286 rfl (s_X6_tell e25) (by decide) rfl ?_
  refine g_iln dX10_fewest_73 rfl rfl ?_
  exact g_rI rfl dX10_fewest_74 h
theorem dX10_findNear_0 : decode cX10_findNear 0 = .ok (.iconst 0, 1) := by decide +kernel
theorem dX10_findNear_1 : decode cX10_findNear 1 = .ok (.istore_n 2, 1) := by decide +kernel
theorem dX10_findNear_2 : decode cX10_findNear 2 = .ok (.iload_n 2, 1) := by decide +kernel
theorem dX10_findNear_3 : decode cX10_findNear 3 = .ok (.aload_n 0, 1) := by decide +kernel
theorem dX10_findNear_4 : decode cX10_findNear 4 = .ok (.getfield 93, 3) := by decide +kernel
theorem dX10_findNear_7 : decode cX10_findNear 7 = .ok (.if_icmp .ge 73, 3) := by decide +kernel
theorem dX10_findNear_10 : decode cX10_findNear 10 = .ok (.aload_n 0, 1) := by decide +kernel
theorem dX10_findNear_11 : decode cX10_findNear 11 = .ok (.getfield 100, 3) := by decide +kernel
theorem dX10_findNear_14 : decode cX10_findNear 14 = .ok (.iload_n 2, 1) := by decide +kernel
theorem dX10_findNear_15 : decode cX10_findNear 15 = .ok (.iconst 0, 1) := by decide +kernel
theorem dX10_findNear_16 : decode cX10_findNear 16 = .ok (.iastore, 1) := by decide +kernel
theorem dX10_findNear_17 : decode cX10_findNear 17 = .ok (.iconst 0, 1) := by decide +kernel
theorem dX10_findNear_18 : decode cX10_findNear 18 = .ok (.istore_n 3, 1) := by decide +kernel
theorem dX10_findNear_19 : decode cX10_findNear 19 = .ok (.iload_n 3, 1) := by decide +kernel
theorem dX10_findNear_20 : decode cX10_findNear 20 = .ok (.aload_n 0, 1) := by decide +kernel
theorem dX10_findNear_21 : decode cX10_findNear 21 = .ok (.getfield 93, 3) := by decide +kernel
theorem dX10_findNear_24 : decode cX10_findNear 24 = .ok (.if_icmp .ge 50, 3) := by decide +kernel
theorem dX10_findNear_27 : decode cX10_findNear 27 = .ok (.aload_n 0, 1) := by decide +kernel
theorem dX10_findNear_28 : decode cX10_findNear 28 = .ok (.getfield 100, 3) := by decide +kernel
theorem dX10_findNear_31 : decode cX10_findNear 31 = .ok (.iload_n 2, 1) := by decide +kernel
theorem dX10_findNear_32 : decode cX10_findNear 32 = .ok (.dup2, 1) := by decide +kernel
theorem dX10_findNear_33 : decode cX10_findNear 33 = .ok (.iaload, 1) := by decide +kernel
theorem dX10_findNear_34 : decode cX10_findNear 34 = .ok (.aload_n 0, 1) := by decide +kernel
theorem dX10_findNear_35 : decode cX10_findNear 35 = .ok (.getfield 46, 3) := by decide +kernel
theorem dX10_findNear_38 : decode cX10_findNear 38 = .ok (.getfield 152, 3) := by decide +kernel
theorem dX10_findNear_41 : decode cX10_findNear 41 = .ok (.iload_n 2, 1) := by decide +kernel
theorem dX10_findNear_42 : decode cX10_findNear 42 = .ok (.iaload, 1) := by decide +kernel
theorem dX10_findNear_43 : decode cX10_findNear 43 = .ok (.aload_n 0, 1) := by decide +kernel
theorem dX10_findNear_44 : decode cX10_findNear 44 = .ok (.getfield 46, 3) := by decide +kernel
theorem dX10_findNear_47 : decode cX10_findNear 47 = .ok (.getfield 152, 3) := by decide +kernel
theorem dX10_findNear_50 : decode cX10_findNear 50 = .ok (.iload_n 3, 1) := by decide +kernel
theorem dX10_findNear_51 : decode cX10_findNear 51 = .ok (.iaload, 1) := by decide +kernel
theorem dX10_findNear_52 : decode cX10_findNear 52 = .ok (.invokestatic 435, 3) := by decide +kernel
theorem dX10_findNear_55 : decode cX10_findNear 55 = .ok (.iload_n 1, 1) := by decide +kernel
theorem dX10_findNear_56 : decode cX10_findNear 56 = .ok (.if_icmp .gt 9, 3) := by decide +kernel
theorem dX10_findNear_59 : decode cX10_findNear 59 = .ok (.iconst 1, 1) := by decide +kernel
theorem dX10_findNear_60 : decode cX10_findNear 60 = .ok (.iload_n 3, 1) := by decide +kernel
theorem dX10_findNear_61 : decode cX10_findNear 61 = .ok (.ishl, 1) := by decide +kernel
theorem dX10_findNear_62 : decode cX10_findNear 62 = .ok (.goto 4, 3) := by decide +kernel
theorem dX10_findNear_65 : decode cX10_findNear 65 = .ok (.iconst 0, 1) := by decide +kernel
theorem dX10_findNear_66 : decode cX10_findNear 66 = .ok (.ior, 1) := by decide +kernel
theorem dX10_findNear_67 : decode cX10_findNear 67 = .ok (.iastore, 1) := by decide +kernel
theorem dX10_findNear_68 : decode cX10_findNear 68 = .ok (.iinc 3 1, 3) := by decide +kernel
theorem dX10_findNear_71 : decode cX10_findNear 71 = .ok (.goto (-52), 3) := by decide +kernel
theorem dX10_findNear_74 : decode cX10_findNear 74 = .ok (.iinc 2 1, 3) := by decide +kernel
theorem dX10_findNear_77 : decode cX10_findNear 77 = .ok (.goto (-75), 3) := by decide +kernel
theorem dX10_findNear_80 : decode cX10_findNear 80 = .ok (.iconst 1, 1) := by decide +kernel
theorem dX10_findNear_81 : decode cX10_findNear 81 = .ok (.aload_n 0, 1) := by decide +kernel
theorem dX10_findNear_82 : decode cX10_findNear 82 = .ok (.getfield 93, 3) := by decide +kernel
theorem dX10_findNear_85 : decode cX10_findNear 85 = .ok (.ishl, 1) := by decide +kernel
theorem dX10_findNear_86 : decode cX10_findNear 86 = .ok (.iconst 1, 1) := by decide +kernel
theorem dX10_findNear_87 : decode cX10_findNear 87 = .ok (.isub, 1) := by decide +kernel
theorem dX10_findNear_88 : decode cX10_findNear 88 = .ok (.ireturn, 1) := by decide +kernel
theorem s_X10_findNear_19 {l1_8 l2_9 : Int} {q : Int × xW} {k : Int → xW → Option (Int × xW)} (hk : ∀ (l3_25 : Int) (s26 : xW), k l3_25 s26 = some q → xG 2 0 0 mX10_findNear 74 [vR 0, vI l1_8, vI l2_9, vI l3_25] [] 155 s26 (xRv (vI q.1) q.2)) : ∀ (f : Nat) (l3_10 : Int) (s11 : xW), F_X10_findNear_19 l1_8 l2_9 f l3_10 s11 k = some q → xG 2 0 0 mX10_findNear 19 [vR 0, vI l1_8, vI l2_9, vI l3_10] [] 155 s11 (xRv (vI q.1) q.2) := by
  intro f
  induction f with
  | zero => intro l3_10 s11 h; cases h
  | succ f ih =>
    intro l3_10 s11 h
    unfold F_X10_findNear_19 at h
    refine g_iln dX10_findNear_19 rfl rfl ?_
    refine g_aln dX10_findNear_20 rfl rfl (by decide) ?_
    refine g_getI 14 dX10_findNear_21 fl_X10_93 rfl rfl ?_
    refine g_wge dX10_findNear_24 (tgt := 74) rfl rfl rfl (fun q12 => ?_) (fun q12 => ?_)
    · replace h := xif_f q12 h
      exact hk l3_10 s11 h
    · replace h := xif_t q12 h
      refine g_aln dX10_findNear_27 rfl rfl (by decide) ?_
      refine g_getC 107 dX10_findNear_28 fl_X10_100 rfl (by decide) ?_
      refine g_iln dX10_findNear_31 rfl rfl ?_
      refine g_dup2 dX10_findNear_32 rfl rfl ?_
      obtain ⟨hg13, h⟩ := xgd_e h
      refine g_iald 8 dX10_findNear_33 rfl hg13 (by decide) ?_
      refine g_aln dX10_findNear_34 rfl rfl (by decide) ?_
      refine g_getC 17 dX10_findNear_35 fl_X10_46 rfl (by decide) ?_
      refine g_getC 18 dX10_findNear_38 fl_X10_152 rfl (by decide) ?_
      refine g_iln dX10_findNear_41 rfl rfl ?_
      obtain ⟨hg14, h⟩ := xgd_e h
      refine g_iald 8 dX10_findNear_42 rfl hg14 (by decide) ?_
      refine g_aln dX10_findNear_43 rfl rfl (by decide) ?_
      refine g_getC 17 dX10_findNear_44 fl_X10_46 rfl (by decide) ?_
      refine g_getC 18 dX10_findNear_47 fl_X10_152 rfl (by decide) ?_
      refine g_iln dX10_findNear_50 rfl rfl ?_
      obtain ⟨hg15, h⟩ := xgd_e h
      refine g_iald 8 dX10_findNear_51 rfl hg15 (by decide) ?_
      obtain ⟨r17, e16, h⟩ := xbp_e h
      refine g_cS2v dX10_findNear_52 ml_X10_435 (s_X10_far e16) (by decide) rfl ?_
      refine g_iln dX10_findNear_55 rfl rfl ?_
      obtain ⟨v19, e20, h⟩ := xlt_e h
      have hj21 : xG 2 0 0 mX10_findNear 66 [vR 0, vI l1_8, vI l2_9, vI l3_10] [vI v19, vI (s11 107 l2_9), vI l2_9, vR 107] 155 s11 (xRv (vI q.1) q.2) := by
        refine g_ior dX10_findNear_66 ?_
        obtain ⟨hg22, h⟩ := xgd_e h
        obtain ⟨s23, e24, h⟩ := xlt_e h
        refine h_iast 8 dX10_findNear_67 rfl hg22 (by decide) e24 ?_
        refine g_inc_3 dX10_findNear_68 (by decide) rfl ?_
        refine g_goto dX10_findNear_71 (tgt := 19) rfl ?_
        exact ih (l3_10 + 1) s23 h
      refine g_wgt dX10_findNear_56 (tgt := 65) rfl rfl rfl (fun c18 => ?_) (fun c18 => ?_)
      · skip
        refine g_ic dX10_findNear_65 ?_
        exact g_vq ((if_neg c18).symm.trans e20) hj21
      · skip
        refine g_ic dX10_findNear_59 ?_
        refine g_iln dX10_findNear_60 rfl rfl ?_
        refine g_ishl dX10_findNear_61 ?_
        refine g_goto dX10_findNear_62 (tgt := 66) rfl ?_
        exact g_vq ((if_pos c18).symm.trans e20) hj21
theorem s_X10_findNear_2 {l1_1 : Int} {q : Int × xW} {k : Int → xW → Option (Int × xW)} (hk : ∀ (l2_29 : Int) (s30 : xW), k l2_29 s30 = some q → xG 2 0 0 mX10_findNear 80 [vR 0, vI l1_1, vI l2_29, vX] [] 155 s30 (xRv (vI q.1) q.2)) : ∀ (f : Nat) (l2_2 : Int) (s3 : xW), F_X10_findNear_2 l1_1 f l2_2 s3 k = some q → xG 2 0 0 mX10_findNear 2 [vR 0, vI l1_1, vI l2_2, vX] [] 155 s3 (xRv (vI q.1) q.2) := by
  intro f
  induction f with
  | zero => intro l2_2 s3 h; cases h
  | succ f ih =>
    intro l2_2 s3 h
    unfold F_X10_findNear_2 at h
    refine g_iln dX10_findNear_2 rfl rfl ?_
    refine g_aln dX10_findNear_3 rfl rfl (by decide) ?_
    refine g_getI 14 dX10_findNear_4 fl_X10_93 rfl rfl ?_
    refine g_wge dX10_findNear_7 (tgt := 80) rfl rfl rfl (fun q4 => ?_) (fun q4 => ?_)
    · replace h := xif_f q4 h
      exact hk l2_2 s3 h
    · replace h := xif_t q4 h
      refine g_aln dX10_findNear_10 rfl rfl (by decide) ?_
      refine g_getC 107 dX10_findNear_11 fl_X10_100 rfl (by decide) ?_
      refine g_iln dX10_findNear_14 rfl rfl ?_
      refine g_ic dX10_findNear_15 ?_
      obtain ⟨hg5, h⟩ := xgd_e h
      obtain ⟨s6, e7, h⟩ := xlt_e h
      refine h_iast 8 dX10_findNear_16 rfl hg5 (by decide) e7 ?_
      refine g_ic dX10_findNear_17 ?_
      refine g_istn_3 dX10_findNear_18 (by decide) rfl ?_
      refine s_X10_findNear_19 (fun l3_27 s28 h => ?_) xN _ _ h
      refine g_inc_2 dX10_findNear_74 (by decide) rfl ?_
      refine g_goto dX10_findNear_77 (tgt := 2) rfl ?_
      refine g_drop_3 ?_
      exact ih (l2_2 + 1) s28 h
theorem s_X10_findNear {a1 : Int} {s0 : xW} {q : Int × xW} (h : F_X10_findNear a1 s0 = some q) : xC 2 0 0 mX10_findNear [vR 0, vI a1] 155 s0 (xRv (vI q.1) q.2) := by
  refine xC.of [vR 0, vI a1, vX, vX] (by decide +kernel) (Nat.le_of_ble_eq_true rfl) rfl ?_
  unfold F_X10_findNear at h
  refine g_ic dX10_findNear_0 ?_
  refine g_istn_2 dX10_findNear_1 (by decide) rfl ?_
  refine s_X10_findNear_2 (fun l2_31 s32 h => ?_) xN _ _ h
  refine g_ic dX10_findNear_80 ?_
  refine g_aln dX10_findNear_81 rfl rfl (by decide) ?_
  refine g_getI 14 dX10_findNear_82 fl_X10_93 rfl rfl ?_
  refine g_ishl dX10_findNear_85 ?_
  refine g_ic dX10_findNear_86 ?_
  refine g_isub dX10_findNear_87 ?_
  exact g_rI rfl dX10_findNear_88 h
theorem dX10_sumOfChances_0 : decode cX10_sumOfChances 0 = .ok (.lconst 0, 1) := by decide +kernel
theorem dX10_sumOfChances_1 : decode cX10_sumOfChances 1 = .ok (.lstore_n 2, 1) := by decide +kernel
theorem dX10_sumOfChances_2 : decode cX10_sumOfChances 2 = .ok (.iconst 0, 1) := by decide +kernel
theorem dX10_sumOfChances_3 : decode cX10_sumOfChances 3 = .ok (.istore 4, 2) := by decide +kernel
theorem dX10_sumOfChances_5 : decode cX10_sumOfChances 5 = .ok (.iload 4, 2) := by decide +kernel
theorem dX10_sumOfChances_7 : decode cX10_sumOfChances 7 = .ok (.iload_n 1, 1) := by decide +kernel
theorem dX10_sumOfChances_8 : decode cX10_sumOfChances 8 = .ok (.if_icmp .ge 19, 3) := by decide +kernel
theorem dX10_sumOfChances_11 : decode cX10_sumOfChances 11 = .ok (.lload_n 2, 1) := by decide +kernel
theorem dX10_sumOfChances_12 : decode cX10_sumOfChances 12 = .ok (.aload_n 0, 1) := by decide +kernel
theorem dX10_sumOfChances_13 : decode cX10_sumOfChances 13 = .ok (.getfield 104, 3) := by decide +kernel
theorem dX10_sumOfChances_16 : decode cX10_sumOfChances 16 = .ok (.iload 4, 2) := by decide +kernel
theorem dX10_sumOfChances_18 : decode cX10_sumOfChances 18 = .ok (.laload, 1) := by decide +kernel
theorem dX10_sumOfChances_19 : decode cX10_sumOfChances 19 = .ok (.ladd, 1) := by decide +kernel
theorem dX10_sumOfChances_20 : decode cX10_sumOfChances 20 = .ok (.lstore_n 2, 1) := by decide +kernel
theorem dX10_sumOfChances_21 : decode cX10_sumOfChances 21 = .ok (.iinc 4 1, 3) := by decide +kernel
theorem dX10_sumOfChances_24 : decode cX10_sumOfChances 24 = .ok (.goto (-19), 3) := by decide +kernel
theorem dX10_sumOfChances_27 : decode cX10_sumOfChances 27 = .ok (.lload_n 2, 1) := by decide +kernel
theorem dX10_sumOfChances_28 : decode cX10_sumOfChances 28 = .ok (.lreturn, 1) := by decide +kernel
theorem s_X10_sumOfChances_5 {s4 : xW} {l1_1 : Int} {q : Int} {k : Int → Int → Option (Int)} (hk : ∀ (l2_7 : Int) (l4_8 : Int), k l2_7 l4_8 = some q → xG 0 0 0 mX10_sumOfChances 27 [vR 0, vI l1_1, vL l2_7, vX, vI l4_8] [] 155 s4 (xRv (vL q) s4)) : ∀ (f : Nat) (l2_2 : Int) (l4_3 : Int), F_X10_sumOfChances_5 l1_1 s4 f l2_2 l4_3 k = some q → xG 0 0 0 mX10_sumOfChances 5 [vR 0, vI l1_1, vL l2_2, vX, vI l4_3] [] 155 s4 (xRv (vL q) s4) := by
  intro f
  induction f with
  | zero => intro l2_2 l4_3 h; cases h
  | succ f ih =>
    intro l2_2 l4_3 h
    unfold F_X10_sumOfChances_5 at h
    refine g_il dX10_sumOfChances_5 rfl ?_
    refine g_iln dX10_sumOfChances_7 rfl rfl ?_
    refine g_wge dX10_sumOfChances_8 (tgt := 27) rfl rfl rfl (fun q5 => ?_) (fun q5 => ?_)
    · replace h := xif_f q5 h
      exact hk l2_2 l4_3 h
    · replace h := xif_t q5 h
      refine g_lln dX10_sumOfChances_11 rfl rfl ?_
      refine g_aln dX10_sumOfChances_12 rfl rfl (by decide) ?_
      refine g_getC 108 dX10_sumOfChances_13 fl_X10_104 rfl (by decide) ?_
      refine g_il dX10_sumOfChances_16 rfl ?_
      obtain ⟨hg6, h⟩ := xgd_e h
      refine g_lald 16 dX10_sumOfChances_18 rfl hg6 (by decide) ?_
      refine g_ladd dX10_sumOfChances_19 ?_
      refine g_lstn_2 dX10_sumOfChances_20 (by decide) rfl ?_
      refine g_inc_4 dX10_sumOfChances_21 (by decide) rfl ?_
      refine g_goto dX10_sumOfChances_24 (tgt := 5) rfl ?_
      exact ih (l2_2 + (s4 108 l4_3)) (l4_3 + 1) h
theorem s_X10_sumOfChances {a1 : Int} {s0 : xW} {q : Int} (h : F_X10_sumOfChances a1 s0 = some q) : xC 0 0 0 mX10_sumOfChances [vR 0, vI a1] 155 s0 (xRv (vL q) s0) := by
  refine xC.of [vR 0, vI a1, vX, vX, vX] (by decide +kernel) (Nat.le_of_ble_eq_true rfl) rfl ?_
  unfold F_X10_sumOfChances at h
  refine g_lc dX10_sumOfChances_0 (w := 0) rfl ?_
  refine g_lstn_2 dX10_sumOfChances_1 (by decide) rfl ?_
  refine g_ic dX10_sumOfChances_2 ?_
  refine g_ist_4 dX10_sumOfChances_3 (by decide) rfl ?_
  refine s_X10_sumOfChances_5 (fun l2_9 l4_10 h => ?_) xN _ _ h
  refine g_lln dX10_sumOfChances_27 rfl rfl ?_
  exact g_pL rfl dX10_sumOfChances_28 h
