theorem dX11_ruled_0 : decode cX11_ruled 0 = .ok (.iconst 0, 1) := by decide +kernel
theorem dX11_ruled_1 : decode cX11_ruled 1 = .ok (.istore_n 1, 1) := by decide +kernel
theorem dX11_ruled_2 : decode cX11_ruled 2 = .ok (.iconst 0, 1) := by decide +kernel
theorem dX11_ruled_3 : decode cX11_ruled 3 = .ok (.istore_n 2, 1) := by decide +kernel
theorem dX11_ruled_4 : decode cX11_ruled 4 = .ok (.iload_n 2, 1) := by decide +kernel
theorem dX11_ruled_5 : decode cX11_ruled 5 = .ok (.aload_n 0, 1) := by decide +kernel
theorem dX11_ruled_6 : decode cX11_ruled 6 = .ok (.getfield 255, 3) := by decide +kernel
theorem dX11_ruled_9 : decode cX11_ruled 9 = .ok (.if_icmp .ge 116, 3) := by decide +kernel
theorem dX11_ruled_12 : decode cX11_ruled 12 = .ok (.aload_n 0, 1) := by decide +kernel
theorem dX11_ruled_13 : decode cX11_ruled 13 = .ok (.getfield 59, 3) := by decide +kernel
theorem dX11_ruled_16 : decode cX11_ruled 16 = .ok (.iload_n 2, 1) := by decide +kernel
theorem dX11_ruled_17 : decode cX11_ruled 17 = .ok (.iaload, 1) := by decide +kernel
theorem dX11_ruled_18 : decode cX11_ruled 18 = .ok (.istore_n 3, 1) := by decide +kernel
theorem dX11_ruled_19 : decode cX11_ruled 19 = .ok (.iload_n 3, 1) := by decide +kernel
theorem dX11_ruled_20 : decode cX11_ruled 20 = .ok (.sipush 3000, 3) := by decide +kernel
theorem dX11_ruled_23 : decode cX11_ruled 23 = .ok (.if_icmp .ne 23, 3) := by decide +kernel
theorem dX11_ruled_26 : decode cX11_ruled 26 = .ok (.aload_n 0, 1) := by decide +kernel
theorem dX11_ruled_27 : decode cX11_ruled 27 = .ok (.getfield 65, 3) := by decide +kernel
theorem dX11_ruled_30 : decode cX11_ruled 30 = .ok (.iload_n 1, 1) := by decide +kernel
theorem dX11_ruled_31 : decode cX11_ruled 31 = .ok (.iconst 1, 1) := by decide +kernel
theorem dX11_ruled_32 : decode cX11_ruled 32 = .ok (.isub, 1) := by decide +kernel
theorem dX11_ruled_33 : decode cX11_ruled 33 = .ok (.aload_n 0, 1) := by decide +kernel
theorem dX11_ruled_34 : decode cX11_ruled 34 = .ok (.getfield 65, 3) := by decide +kernel
theorem dX11_ruled_37 : decode cX11_ruled 37 = .ok (.iload_n 1, 1) := by decide +kernel
theorem dX11_ruled_38 : decode cX11_ruled 38 = .ok (.iconst 1, 1) := by decide +kernel
theorem dX11_ruled_39 : decode cX11_ruled 39 = .ok (.isub, 1) := by decide +kernel
theorem dX11_ruled_40 : decode cX11_ruled 40 = .ok (.iaload, 1) := by decide +kernel
theorem dX11_ruled_41 : decode cX11_ruled 41 = .ok (.ineg, 1) := by decide +kernel
theorem dX11_ruled_42 : decode cX11_ruled 42 = .ok (.iastore, 1) := by decide +kernel
theorem dX11_ruled_43 : decode cX11_ruled 43 = .ok (.goto 76, 3) := by decide +kernel
theorem dX11_ruled_46 : decode cX11_ruled 46 = .ok (.iload_n 3, 1) := by decide +kernel
theorem dX11_ruled_47 : decode cX11_ruled 47 = .ok (.sipush 2000, 3) := by decide +kernel
theorem dX11_ruled_50 : decode cX11_ruled 50 = .ok (.if_icmp .lt 39, 3) := by decide +kernel
theorem dX11_ruled_53 : decode cX11_ruled 53 = .ok (.iinc 1 (-1), 3) := by decide +kernel
theorem dX11_ruled_56 : decode cX11_ruled 56 = .ok (.aload_n 0, 1) := by decide +kernel
theorem dX11_ruled_57 : decode cX11_ruled 57 = .ok (.getfield 65, 3) := by decide +kernel
theorem dX11_ruled_60 : decode cX11_ruled 60 = .ok (.iload_n 1, 1) := by decide +kernel
theorem dX11_ruled_61 : decode cX11_ruled 61 = .ok (.iconst 1, 1) := by decide +kernel
theorem dX11_ruled_62 : decode cX11_ruled 62 = .ok (.isub, 1) := by decide +kernel
theorem dX11_ruled_63 : decode cX11_ruled 63 = .ok (.iload_n 3, 1) := by decide +kernel
theorem dX11_ruled_64 : decode cX11_ruled 64 = .ok (.sipush 2000, 3) := by decide +kernel
theorem dX11_ruled_67 : decode cX11_ruled 67 = .ok (.isub, 1) := by decide +kernel
theorem dX11_ruled_68 : decode cX11_ruled 68 = .ok (.aload_n 0, 1) := by decide +kernel
theorem dX11_ruled_69 : decode cX11_ruled 69 = .ok (.getfield 65, 3) := by decide +kernel
theorem dX11_ruled_72 : decode cX11_ruled 72 = .ok (.iload_n 1, 1) := by decide +kernel
theorem dX11_ruled_73 : decode cX11_ruled 73 = .ok (.iconst 1, 1) := by decide +kernel
theorem dX11_ruled_74 : decode cX11_ruled 74 = .ok (.isub, 1) := by decide +kernel
theorem dX11_ruled_75 : decode cX11_ruled 75 = .ok (.iaload, 1) := by decide +kernel
theorem dX11_ruled_76 : decode cX11_ruled 76 = .ok (.aload_n 0, 1) := by decide +kernel
theorem dX11_ruled_77 : decode cX11_ruled 77 = .ok (.getfield 65, 3) := by decide +kernel
theorem dX11_ruled_80 : decode cX11_ruled 80 = .ok (.iload_n 1, 1) := by decide +kernel
theorem dX11_ruled_81 : decode cX11_ruled 81 = .ok (.iaload, 1) := by decide +kernel
theorem dX11_ruled_82 : decode cX11_ruled 82 = .ok (.invokestatic 265, 3) := by decide +kernel
theorem dX11_ruled_85 : decode cX11_ruled 85 = .ok (.iastore, 1) := by decide +kernel
theorem dX11_ruled_86 : decode cX11_ruled 86 = .ok (.goto 33, 3) := by decide +kernel
theorem dX11_ruled_89 : decode cX11_ruled 89 = .ok (.aload_n 0, 1) := by decide +kernel
theorem dX11_ruled_90 : decode cX11_ruled 90 = .ok (.getfield 65, 3) := by decide +kernel
theorem dX11_ruled_93 : decode cX11_ruled 93 = .ok (.iload_n 1, 1) := by decide +kernel
theorem dX11_ruled_94 : decode cX11_ruled 94 = .ok (.iload_n 3, 1) := by decide +kernel
theorem dX11_ruled_95 : decode cX11_ruled 95 = .ok (.sipush 1000, 3) := by decide +kernel
theorem dX11_ruled_98 : decode cX11_ruled 98 = .ok (.if_icmp .lt 16, 3) := by decide +kernel
theorem dX11_ruled_101 : decode cX11_ruled 101 = .ok (.aload_n 0, 1) := by decide +kernel
theorem dX11_ruled_102 : decode cX11_ruled 102 = .ok (.getfield 68, 3) := by decide +kernel
theorem dX11_ruled_105 : decode cX11_ruled 105 = .ok (.iload_n 3, 1) := by decide +kernel
theorem dX11_ruled_106 : decode cX11_ruled 106 = .ok (.sipush 1000, 3) := by decide +kernel
theorem dX11_ruled_109 : decode cX11_ruled 109 = .ok (.isub, 1) := by decide +kernel
theorem dX11_ruled_110 : decode cX11_ruled 110 = .ok (.iaload, 1) := by decide +kernel
theorem dX11_ruled_111 : decode cX11_ruled 111 = .ok (.goto 4, 3) := by decide +kernel
theorem dX11_ruled_114 : decode cX11_ruled 114 = .ok (.iload_n 3, 1) := by decide +kernel
theorem dX11_ruled_115 : decode cX11_ruled 115 = .ok (.iastore, 1) := by decide +kernel
theorem dX11_ruled_116 : decode cX11_ruled 116 = .ok (.iinc 1 1, 3) := by decide +kernel
theorem dX11_ruled_119 : decode cX11_ruled 119 = .ok (.iinc 2 1, 3) := by decide +kernel
theorem dX11_ruled_122 : decode cX11_ruled 122 = .ok (.goto (-118), 3) := by decide +kernel
theorem dX11_ruled_125 : decode cX11_ruled 125 = .ok (.aload_n 0, 1) := by decide +kernel
theorem dX11_ruled_126 : decode cX11_ruled 126 = .ok (.getfield 255, 3) := by decide +kernel
theorem dX11_ruled_129 : decode cX11_ruled 129 = .ok (.ifCond .ne 23, 3) := by decide +kernel
theorem dX11_ruled_132 : decode cX11_ruled 132 = .ok (.iconst 2, 1) := by decide +kernel
theorem dX11_ruled_133 : decode cX11_ruled 133 = .ok (.aload_n 0, 1) := by decide +kernel
theorem dX11_ruled_134 : decode cX11_ruled 134 = .ok (.getfield 68, 3) := by decide +kernel
theorem dX11_ruled_137 : decode cX11_ruled 137 = .ok (.iconst 0, 1) := by decide +kernel
theorem dX11_ruled_138 : decode cX11_ruled 138 = .ok (.iaload, 1) := by decide +kernel
theorem dX11_ruled_139 : decode cX11_ruled 139 = .ok (.imul, 1) := by decide +kernel
theorem dX11_ruled_140 : decode cX11_ruled 140 = .ok (.aload_n 0, 1) := by decide +kernel
theorem dX11_ruled_141 : decode cX11_ruled 141 = .ok (.getfield 68, 3) := by decide +kernel
theorem dX11_ruled_144 : decode cX11_ruled 144 = .ok (.iconst 1, 1) := by decide +kernel
theorem dX11_ruled_145 : decode cX11_ruled 145 = .ok (.iaload, 1) := by decide +kernel
theorem dX11_ruled_146 : decode cX11_ruled 146 = .ok (.iconst 2, 1) := by decide +kernel
theorem dX11_ruled_147 : decode cX11_ruled 147 = .ok (.idiv, 1) := by decide +kernel
theorem dX11_ruled_148 : decode cX11_ruled 148 = .ok (.isub, 1) := by decide +kernel
theorem dX11_ruled_149 : decode cX11_ruled 149 = .ok (.goto 9, 3) := by decide +kernel
theorem dX11_ruled_152 : decode cX11_ruled 152 = .ok (.aload_n 0, 1) := by decide +kernel
theorem dX11_ruled_153 : decode cX11_ruled 153 = .ok (.getfield 65, 3) := by decide +kernel
theorem dX11_ruled_156 : decode cX11_ruled 156 = .ok (.iconst 0, 1) := by decide +kernel
theorem dX11_ruled_157 : decode cX11_ruled 157 = .ok (.iaload, 1) := by decide +kernel
theorem dX11_ruled_158 : decode cX11_ruled 158 = .ok (.ireturn, 1) := by decide +kernel
theorem s_X11_ruled_4 {q : Int × xW} {k : Int → Int → xW → Option (Int × xW)} (hk : ∀ (l1_33 : Int) (l2_34 : Int) (s35 : xW), k l1_33 l2_34 s35 = some q → xG 2 0 0 mX11_ruled 125 [vR 121, vI l1_33, vI l2_34, vX] [] 155 s35 (xRv (vI q.1) q.2)) : ∀ (f : Nat) (l1_1 : Int) (l2_2 : Int) (s3 : xW), F_X11_ruled_4  f l1_1 l2_2 s3 k = some q → xG 2 0 0 mX11_ruled 4 [vR 121, vI l1_1, vI l2_2, vX] [] 155 s3 (xRv (vI q.1) q.2) := by
  intro f
  induction f with
  | zero => intro l1_1 l2_2 s3 h; cases h
  | succ f ih =>
    intro l1_1 l2_2 s3 h
    unfold F_X11_ruled_4 at h
    refine g_iln dX11_ruled_4 rfl rfl ?_
    refine g_aln dX11_ruled_5 rfl rfl (by decide) ?_
    refine g_getI 23 dX11_ruled_6 fl_X11_255 rfl rfl ?_
    refine g_wge dX11_ruled_9 (tgt := 125) rfl rfl rfl (fun q4 => ?_) (fun q4 => ?_)
    · replace h := xif_f q4 h
      exact hk l1_1 l2_2 s3 h
    · replace h := xif_t q4 h
      refine g_aln dX11_ruled_12 rfl rfl (by decide) ?_
      refine g_getC 131 dX11_ruled_13 fl_X11_59 rfl (by decide) ?_
      refine g_iln dX11_ruled_16 rfl rfl ?_
      obtain ⟨hg5, h⟩ := xgd_e h
      refine g_iald 80 dX11_ruled_17 rfl hg5 (by decide) ?_
      refine g_istn_3 dX11_ruled_18 (by decide) rfl ?_
      refine g_iln dX11_ruled_19 rfl rfl ?_
      refine g_si dX11_ruled_20 (by decide) ?_
      obtain ⟨j8, ej9, h⟩ := xjn_e h
      have hj10 : ∀ (l1_6 : Int) (s7 : xW), j8 l1_6 s7 = some q → xG 2 0 0 mX11_ruled 119 [vR 121, vI l1_6, vI l2_2, vX] [] 155 s7 (xRv (vI q.1) q.2) := by
        intro l1_6 s7 h
        rw [ej9] at h
        refine g_inc_2 dX11_ruled_119 (by decide) rfl ?_
        refine g_goto dX11_ruled_122 (tgt := 4) rfl ?_
        exact ih l1_6 (l2_2 + 1) s7 h
      clear ej9
      refine g_wne dX11_ruled_23 (tgt := 46) rfl rfl (xw_id (by decide)) (fun q11 => ?_) (fun q11 => ?_)
      · replace h := xif_f q11 h
        refine g_iln dX11_ruled_46 rfl rfl ?_
        refine g_si dX11_ruled_47 (by decide) ?_
        refine g_wlt dX11_ruled_50 (tgt := 89) rfl rfl (xw_id (by decide)) (fun q12 => ?_) (fun q12 => ?_)
        · replace h := xif_f q12 h
          refine g_aln dX11_ruled_89 rfl rfl (by decide) ?_
          refine g_getC 133 dX11_ruled_90 fl_X11_65 rfl (by decide) ?_
          refine g_iln dX11_ruled_93 rfl rfl ?_
          refine g_iln dX11_ruled_94 rfl rfl ?_
          refine g_si dX11_ruled_95 (by decide) ?_
          obtain ⟨j14, ej15, h⟩ := xjn_e h
          have hj16 : ∀ (t13 : Int), j14 t13 = some q → xG 2 0 0 mX11_ruled 115 [vR 121, vI l1_1, vI l2_2, vX] [vI t13, vI l1_1, vR 133] 155 s3 (xRv (vI q.1) q.2) := by
            intro t13 h
            rw [ej15] at h
            obtain ⟨hg17, h⟩ := xgd_e h
            obtain ⟨s18, e19, h⟩ := xlt_e h
            refine h_iast 80 dX11_ruled_115 rfl hg17 (by decide) e19 ?_
            refine g_inc_1 dX11_ruled_116 (by decide) rfl ?_
            exact hj10 (l1_1 + 1) s18 h
          clear ej15
          refine g_wlt dX11_ruled_98 (tgt := 114) rfl rfl (xw_id (by decide)) (fun q20 => ?_) (fun q20 => ?_)
          · replace h := xif_f q20 h
            refine g_iln dX11_ruled_114 rfl rfl ?_
            refine g_drop_3 ?_
            exact hj16 (s3 131 l2_2) h
          · replace h := xif_t q20 h
            refine g_aln dX11_ruled_101 rfl rfl (by decide) ?_
            refine g_getC 134 dX11_ruled_102 fl_X11_68 rfl (by decide) ?_
            refine g_iln dX11_ruled_105 rfl rfl ?_
            refine g_si dX11_ruled_106 (by decide) ?_
            refine g_isub dX11_ruled_109 ?_
            obtain ⟨hg21, h⟩ := xgd_e h
            refine g_iald 7 dX11_ruled_110 rfl hg21 (by decide) ?_
            refine g_goto dX11_ruled_111 (tgt := 115) rfl ?_
            refine g_drop_3 ?_
            exact hj16 (s3 134 ((s3 131 l2_2) - 1000)) h
        · replace h := xif_t q12 h
          refine g_inc_1 dX11_ruled_53 (by decide) rfl ?_
          refine g_aln dX11_ruled_56 rfl rfl (by decide) ?_
          refine g_getC 133 dX11_ruled_57 fl_X11_65 rfl (by decide) ?_
          refine g_iln dX11_ruled_60 rfl rfl ?_
          refine g_ic dX11_ruled_61 ?_
          refine g_isub dX11_ruled_62 ?_
          refine g_iln dX11_ruled_63 rfl rfl ?_
          refine g_si dX11_ruled_64 (by decide) ?_
          refine g_isub dX11_ruled_67 ?_
          refine g_aln dX11_ruled_68 rfl rfl (by decide) ?_
          refine g_getC 133 dX11_ruled_69 fl_X11_65 rfl (by decide) ?_
          refine g_iln dX11_ruled_72 rfl rfl ?_
          refine g_ic dX11_ruled_73 ?_
          refine g_isub dX11_ruled_74 ?_
          obtain ⟨hg22, h⟩ := xgd_e h
          refine g_iald 80 dX11_ruled_75 rfl hg22 (by decide) ?_
          refine g_aln dX11_ruled_76 rfl rfl (by decide) ?_
          refine g_getC 133 dX11_ruled_77 fl_X11_65 rfl (by decide) ?_
          refine g_iln dX11_ruled_80 rfl rfl ?_
          obtain ⟨hg23, h⟩ := xgd_e h
          refine g_iald 80 dX11_ruled_81 rfl hg23 (by decide) ?_
          obtain ⟨r25, e24, h⟩ := xbp_e h
          refine g_cS3v dX11_ruled_82 ml_X11_265 (s_X11_worked e24) (by decide) rfl ?_
          obtain ⟨hg26, h⟩ := xgd_e h
          obtain ⟨s27, e28, h⟩ := xlt_e h
          refine h_iast 80 dX11_ruled_85 rfl hg26 (by decide) e28 ?_
          refine g_goto dX11_ruled_86 (tgt := 119) rfl ?_
          refine g_drop_3 ?_
          exact hj10 (l1_1 + (-1)) s27 h
      · replace h := xif_t q11 h
        refine g_aln dX11_ruled_26 rfl rfl (by decide) ?_
        refine g_getC 133 dX11_ruled_27 fl_X11_65 rfl (by decide) ?_
        refine g_iln dX11_ruled_30 rfl rfl ?_
        refine g_ic dX11_ruled_31 ?_
        refine g_isub dX11_ruled_32 ?_
        refine g_aln dX11_ruled_33 rfl rfl (by decide) ?_
        refine g_getC 133 dX11_ruled_34 fl_X11_65 rfl (by decide) ?_
        refine g_iln dX11_ruled_37 rfl rfl ?_
        refine g_ic dX11_ruled_38 ?_
        refine g_isub dX11_ruled_39 ?_
        obtain ⟨hg29, h⟩ := xgd_e h
        refine g_iald 80 dX11_ruled_40 rfl hg29 (by decide) ?_
        refine g_ineg dX11_ruled_41 ?_
        obtain ⟨hg30, h⟩ := xgd_e h
        obtain ⟨s31, e32, h⟩ := xlt_e h
        refine h_iast 80 dX11_ruled_42 rfl hg30 (by decide) e32 ?_
        refine g_goto dX11_ruled_43 (tgt := 119) rfl ?_
        refine g_drop_3 ?_
        exact hj10 l1_1 s31 h
theorem s_X11_ruled {s0 : xW} {q : Int × xW} (h : F_X11_ruled  s0 = some q) : xC 2 0 0 mX11_ruled [vR 121] 155 s0 (xRv (vI q.1) q.2) := by
  refine xC.of [vR 121, vX, vX, vX] (by decide +kernel) (Nat.le_of_ble_eq_true rfl) rfl ?_
  unfold F_X11_ruled at h
  refine g_ic dX11_ruled_0 ?_
  refine g_istn_1 dX11_ruled_1 (by decide) rfl ?_
  refine g_ic dX11_ruled_2 ?_
  refine g_istn_2 dX11_ruled_3 (by decide) rfl ?_
  refine s_X11_ruled_4 (fun l1_36 l2_37 s38 h => ?_) xN _ _ _ h
  refine g_aln dX11_ruled_125 rfl rfl (by decide) ?_
  refine g_getI 23 dX11_ruled_126 fl_X11_255 rfl rfl ?_
  obtain ⟨j40, ej41, h⟩ := xjn_e h
  have hj42 : ∀ (t39 : Int), j40 t39 = some q → xG 2 0 0 mX11_ruled 158 [vX, vX, vX, vX] [vI t39] 155 s38 (xRv (vI q.1) q.2) := by
    intro t39 h
    rw [ej41] at h
    exact g_rI rfl dX11_ruled_158 h
  clear ej41
  refine g_yne dX11_ruled_129 (tgt := 152) rfl rfl (fun q43 => ?_) (fun q43 => ?_)
  · replace h := xif_f q43 h
    refine g_aln dX11_ruled_152 rfl rfl (by decide) ?_
    refine g_getC 133 dX11_ruled_153 fl_X11_65 rfl (by decide) ?_
    refine g_ic dX11_ruled_156 ?_
    refine g_iald 80 dX11_ruled_157 rfl (by decide) (by decide) ?_
    refine g_drop_0 ?_
    refine g_drop_1 ?_
    refine g_drop_2 ?_
    exact hj42 (s38 133 0) h
  · replace h := xif_t q43 h
    refine g_ic dX11_ruled_132 ?_
    refine g_aln dX11_ruled_133 rfl rfl (by decide) ?_
    refine g_getC 134 dX11_ruled_134 fl_X11_68 rfl (by decide) ?_
    refine g_ic dX11_ruled_137 ?_
    refine g_iald 7 dX11_ruled_138 rfl (by decide) (by decide) ?_
    refine g_imul dX11_ruled_139 ?_
    refine g_aln dX11_ruled_140 rfl rfl (by decide) ?_
    refine g_getC 134 dX11_ruled_141 fl_X11_68 rfl (by decide) ?_
    refine g_ic dX11_ruled_144 ?_
    refine g_iald 7 dX11_ruled_145 rfl (by decide) (by decide) ?_
    refine g_ic dX11_ruled_146 ?_
    refine g_wdiv dX11_ruled_147 rfl (xw_id (by decide)) (by decide) ?_
    refine g_isub dX11_ruled_148 ?_
    refine g_goto dX11_ruled_149 (tgt := 158) rfl ?_
    refine g_drop_0 ?_
    refine g_drop_1 ?_
    refine g_drop_2 ?_
    exact hj42 ((2 * (s38 134 0)) - (Int.tdiv (xw (s38 134 1)) 2)) h
theorem dX11_hearsBy_0 : decode cX11_hearsBy 0 = .ok (.aload_n 1, 1) := by decide +kernel
theorem dX11_hearsBy_1 : decode cX11_hearsBy 1 = .ok (.iload_n 2, 1) := by decide +kernel
theorem dX11_hearsBy_2 : decode cX11_hearsBy 2 = .ok (.iaload, 1) := by decide +kernel
theorem dX11_hearsBy_3 : decode cX11_hearsBy 3 = .ok (.istore 6, 2) := by decide +kernel
theorem dX11_hearsBy_5 : decode cX11_hearsBy 5 = .ok (.aload_n 1, 1) := by decide +kernel
theorem dX11_hearsBy_6 : decode cX11_hearsBy 6 = .ok (.bipush 8, 2) := by decide +kernel
theorem dX11_hearsBy_8 : decode cX11_hearsBy 8 = .ok (.iload_n 2, 1) := by decide +kernel
theorem dX11_hearsBy_9 : decode cX11_hearsBy 9 = .ok (.iadd, 1) := by decide +kernel
theorem dX11_hearsBy_10 : decode cX11_hearsBy 10 = .ok (.iaload, 1) := by decide +kernel
theorem dX11_hearsBy_11 : decode cX11_hearsBy 11 = .ok (.istore 7, 2) := by decide +kernel
theorem dX11_hearsBy_13 : decode cX11_hearsBy 13 = .ok (.aload_n 1, 1) := by decide +kernel
theorem dX11_hearsBy_14 : decode cX11_hearsBy 14 = .ok (.bipush 32, 2) := by decide +kernel
theorem dX11_hearsBy_16 : decode cX11_hearsBy 16 = .ok (.iaload, 1) := by decide +kernel
theorem dX11_hearsBy_17 : decode cX11_hearsBy 17 = .ok (.aload_n 1, 1) := by decide +kernel
theorem dX11_hearsBy_18 : decode cX11_hearsBy 18 = .ok (.bipush 33, 2) := by decide +kernel
theorem dX11_hearsBy_20 : decode cX11_hearsBy 20 = .ok (.iaload, 1) := by decide +kernel
theorem dX11_hearsBy_21 : decode cX11_hearsBy 21 = .ok (.iload 6, 2) := by decide +kernel
theorem dX11_hearsBy_23 : decode cX11_hearsBy 23 = .ok (.iload 7, 2) := by decide +kernel
theorem dX11_hearsBy_25 : decode cX11_hearsBy 25 = .ok (.invokestatic 272, 3) := by decide +kernel
theorem dX11_hearsBy_28 : decode cX11_hearsBy 28 = .ok (.istore 8, 2) := by decide +kernel
theorem dX11_hearsBy_30 : decode cX11_hearsBy 30 = .ok (.aload_n 1, 1) := by decide +kernel
theorem dX11_hearsBy_31 : decode cX11_hearsBy 31 = .ok (.bipush 32, 2) := by decide +kernel
theorem dX11_hearsBy_33 : decode cX11_hearsBy 33 = .ok (.iaload, 1) := by decide +kernel
theorem dX11_hearsBy_34 : decode cX11_hearsBy 34 = .ok (.aload_n 1, 1) := by decide +kernel
theorem dX11_hearsBy_35 : decode cX11_hearsBy 35 = .ok (.bipush 33, 2) := by decide +kernel
theorem dX11_hearsBy_37 : decode cX11_hearsBy 37 = .ok (.iaload, 1) := by decide +kernel
theorem dX11_hearsBy_38 : decode cX11_hearsBy 38 = .ok (.aload_n 1, 1) := by decide +kernel
theorem dX11_hearsBy_39 : decode cX11_hearsBy 39 = .ok (.bipush 34, 2) := by decide +kernel
theorem dX11_hearsBy_41 : decode cX11_hearsBy 41 = .ok (.iaload, 1) := by decide +kernel
theorem dX11_hearsBy_42 : decode cX11_hearsBy 42 = .ok (.aload_n 1, 1) := by decide +kernel
theorem dX11_hearsBy_43 : decode cX11_hearsBy 43 = .ok (.bipush 35, 2) := by decide +kernel
theorem dX11_hearsBy_45 : decode cX11_hearsBy 45 = .ok (.iaload, 1) := by decide +kernel
theorem dX11_hearsBy_46 : decode cX11_hearsBy 46 = .ok (.invokestatic 272, 3) := by decide +kernel
theorem dX11_hearsBy_49 : decode cX11_hearsBy 49 = .ok (.aload_n 1, 1) := by decide +kernel
theorem dX11_hearsBy_50 : decode cX11_hearsBy 50 = .ok (.bipush 34, 2) := by decide +kernel
theorem dX11_hearsBy_52 : decode cX11_hearsBy 52 = .ok (.iaload, 1) := by decide +kernel
theorem dX11_hearsBy_53 : decode cX11_hearsBy 53 = .ok (.aload_n 1, 1) := by decide +kernel
theorem dX11_hearsBy_54 : decode cX11_hearsBy 54 = .ok (.bipush 35, 2) := by decide +kernel
theorem dX11_hearsBy_56 : decode cX11_hearsBy 56 = .ok (.iaload, 1) := by decide +kernel
theorem dX11_hearsBy_57 : decode cX11_hearsBy 57 = .ok (.iload 6, 2) := by decide +kernel
theorem dX11_hearsBy_59 : decode cX11_hearsBy 59 = .ok (.iload 7, 2) := by decide +kernel
theorem dX11_hearsBy_61 : decode cX11_hearsBy 61 = .ok (.invokestatic 272, 3) := by decide +kernel
theorem dX11_hearsBy_64 : decode cX11_hearsBy 64 = .ok (.iadd, 1) := by decide +kernel
theorem dX11_hearsBy_65 : decode cX11_hearsBy 65 = .ok (.istore 9, 2) := by decide +kernel
theorem dX11_hearsBy_67 : decode cX11_hearsBy 67 = .ok (.aload_n 0, 1) := by decide +kernel
theorem dX11_hearsBy_68 : decode cX11_hearsBy 68 = .ok (.getfield 68, 3) := by decide +kernel
theorem dX11_hearsBy_71 : decode cX11_hearsBy 71 = .ok (.iconst 0, 1) := by decide +kernel
theorem dX11_hearsBy_72 : decode cX11_hearsBy 72 = .ok (.iload_n 3, 1) := by decide +kernel
theorem dX11_hearsBy_73 : decode cX11_hearsBy 73 = .ok (.ifCond .eq 8, 3) := by decide +kernel
theorem dX11_hearsBy_76 : decode cX11_hearsBy 76 = .ok (.iload 9, 2) := by decide +kernel
theorem dX11_hearsBy_78 : decode cX11_hearsBy 78 = .ok (.goto 5, 3) := by decide +kernel
theorem dX11_hearsBy_81 : decode cX11_hearsBy 81 = .ok (.iload 8, 2) := by decide +kernel
theorem dX11_hearsBy_83 : decode cX11_hearsBy 83 = .ok (.iastore, 1) := by decide +kernel
theorem dX11_hearsBy_84 : decode cX11_hearsBy 84 = .ok (.aload_n 0, 1) := by decide +kernel
theorem dX11_hearsBy_85 : decode cX11_hearsBy 85 = .ok (.getfield 68, 3) := by decide +kernel
theorem dX11_hearsBy_88 : decode cX11_hearsBy 88 = .ok (.iconst 1, 1) := by decide +kernel
theorem dX11_hearsBy_89 : decode cX11_hearsBy 89 = .ok (.iload 5, 2) := by decide +kernel
theorem dX11_hearsBy_91 : decode cX11_hearsBy 91 = .ok (.iastore, 1) := by decide +kernel
theorem dX11_hearsBy_92 : decode cX11_hearsBy 92 = .ok (.aload_n 0, 1) := by decide +kernel
theorem dX11_hearsBy_93 : decode cX11_hearsBy 93 = .ok (.getfield 68, 3) := by decide +kernel
theorem dX11_hearsBy_96 : decode cX11_hearsBy 96 = .ok (.iconst 2, 1) := by decide +kernel
theorem dX11_hearsBy_97 : decode cX11_hearsBy 97 = .ok (.iload 4, 2) := by decide +kernel
theorem dX11_hearsBy_99 : decode cX11_hearsBy 99 = .ok (.iastore, 1) := by decide +kernel
theorem dX11_hearsBy_100 : decode cX11_hearsBy 100 = .ok (.aload_n 0, 1) := by decide +kernel
theorem dX11_hearsBy_101 : decode cX11_hearsBy 101 = .ok (.getfield 68, 3) := by decide +kernel
theorem dX11_hearsBy_104 : decode cX11_hearsBy 104 = .ok (.iconst 3, 1) := by decide +kernel
theorem dX11_hearsBy_105 : decode cX11_hearsBy 105 = .ok (.iload 6, 2) := by decide +kernel
theorem dX11_hearsBy_107 : decode cX11_hearsBy 107 = .ok (.iastore, 1) := by decide +kernel
theorem dX11_hearsBy_108 : decode cX11_hearsBy 108 = .ok (.aload_n 0, 1) := by decide +kernel
theorem dX11_hearsBy_109 : decode cX11_hearsBy 109 = .ok (.getfield 68, 3) := by decide +kernel
theorem dX11_hearsBy_112 : decode cX11_hearsBy 112 = .ok (.iconst 4, 1) := by decide +kernel
theorem dX11_hearsBy_113 : decode cX11_hearsBy 113 = .ok (.iload 7, 2) := by decide +kernel
theorem dX11_hearsBy_115 : decode cX11_hearsBy 115 = .ok (.iastore, 1) := by decide +kernel
theorem dX11_hearsBy_116 : decode cX11_hearsBy 116 = .ok (.aload_n 0, 1) := by decide +kernel
theorem dX11_hearsBy_117 : decode cX11_hearsBy 117 = .ok (.getfield 68, 3) := by decide +kernel
theorem dX11_hearsBy_120 : decode cX11_hearsBy 120 = .ok (.iconst 5, 1) := by decide +kernel
theorem dX11_hearsBy_121 : decode cX11_hearsBy 121 = .ok (.aload_n 1, 1) := by decide +kernel
theorem dX11_hearsBy_122 : decode cX11_hearsBy 122 = .ok (.bipush 39, 2) := by decide +kernel
theorem dX11_hearsBy_124 : decode cX11_hearsBy 124 = .ok (.iaload, 1) := by decide +kernel
theorem dX11_hearsBy_125 : decode cX11_hearsBy 125 = .ok (.bipush 7, 2) := by decide +kernel
theorem dX11_hearsBy_127 : decode cX11_hearsBy 127 = .ok (.irem, 1) := by decide +kernel
theorem dX11_hearsBy_128 : decode cX11_hearsBy 128 = .ok (.iastore, 1) := by decide +kernel
theorem dX11_hearsBy_129 : decode cX11_hearsBy 129 = .ok (.aload_n 0, 1) := by decide +kernel
theorem dX11_hearsBy_130 : decode cX11_hearsBy 130 = .ok (.getfield 68, 3) := by decide +kernel
theorem dX11_hearsBy_133 : decode cX11_hearsBy 133 = .ok (.bipush 6, 2) := by decide +kernel
theorem dX11_hearsBy_135 : decode cX11_hearsBy 135 = .ok (.iload_n 3, 1) := by decide +kernel
theorem dX11_hearsBy_136 : decode cX11_hearsBy 136 = .ok (.invokestatic 159, 3) := by decide +kernel
theorem dX11_hearsBy_139 : decode cX11_hearsBy 139 = .ok (.iastore, 1) := by decide +kernel
theorem dX11_hearsBy_140 : decode cX11_hearsBy 140 = .ok (.iload 4, 2) := by decide +kernel
theorem dX11_hearsBy_142 : decode cX11_hearsBy 142 = .ok (.iconst 0, 1) := by decide +kernel
theorem dX11_hearsBy_143 : decode cX11_hearsBy 143 = .ok (.bipush 99, 2) := by decide +kernel
theorem dX11_hearsBy_145 : decode cX11_hearsBy 145 = .ok (.aload_n 0, 1) := by decide +kernel
theorem dX11_hearsBy_146 : decode cX11_hearsBy 146 = .ok (.invokevirtual 276, 3) := by decide +kernel
theorem dX11_hearsBy_149 : decode cX11_hearsBy 149 = .ok (.invokestatic 150, 3) := by decide +kernel
theorem dX11_hearsBy_152 : decode cX11_hearsBy 152 = .ok (.invokestatic 279, 3) := by decide +kernel
theorem dX11_hearsBy_155 : decode cX11_hearsBy 155 = .ok (.iadd, 1) := by decide +kernel
theorem dX11_hearsBy_156 : decode cX11_hearsBy 156 = .ok (.ireturn, 1) := by decide +kernel
theorem s_X11_hearsBy {a1 a2 a3 a4 a5 : Int} {s0 : xW} {q : Int × xW} (h : F_X11_hearsBy a1 a2 a3 a4 a5 s0 = some q) : xC 3 0 0 mX11_hearsBy [vR 121, vR a1, vI a2, vI a3, vI a4, vI a5] 155 s0 (xRv (vI q.1) q.2) := by
  refine xC.of [vR 121, vR a1, vI a2, vI a3, vI a4, vI a5, vX, vX, vX, vX] (by decide +kernel) (Nat.le_of_ble_eq_true rfl) rfl ?_
  unfold F_X11_hearsBy at h
  obtain ⟨hm1, h⟩ := xgd_e h
  refine g_aln dX11_hearsBy_0 rfl rfl (xf_now_39 _ hm1) ?_
  refine g_iln dX11_hearsBy_1 rfl rfl ?_
  obtain ⟨hg1, h⟩ := xgd_e h
  refine g_iald 40 dX11_hearsBy_2 (xf_now_40 _ hm1) hg1 (by decide) ?_
  refine g_ist_6 dX11_hearsBy_3 (by decide) rfl ?_
  refine g_aln dX11_hearsBy_5 rfl rfl (xf_now_39 _ hm1) ?_
  refine g_bi dX11_hearsBy_6 (by decide) ?_
  refine g_iln dX11_hearsBy_8 rfl rfl ?_
  refine g_iadd dX11_hearsBy_9 ?_
  obtain ⟨hg2, h⟩ := xgd_e h
  refine g_iald 40 dX11_hearsBy_10 (xf_now_40 _ hm1) hg2 (by decide) ?_
  refine g_ist_7 dX11_hearsBy_11 (by decide) rfl ?_
  refine g_aln dX11_hearsBy_13 rfl rfl (xf_now_39 _ hm1) ?_
  refine g_bi dX11_hearsBy_14 (by decide) ?_
  refine g_iald 40 dX11_hearsBy_16 (xf_now_40 _ hm1) (by decide) (by decide) ?_
  refine g_aln dX11_hearsBy_17 rfl rfl (xf_now_39 _ hm1) ?_
  refine g_bi dX11_hearsBy_18 (by decide) ?_
  refine g_iald 40 dX11_hearsBy_20 (xf_now_40 _ hm1) (by decide) (by decide) ?_
  refine g_il dX11_hearsBy_21 rfl ?_
  refine g_il dX11_hearsBy_23 rfl ?_
  obtain ⟨r4, e3, h⟩ := xbp_e h
  refine g_cS4v dX11_hearsBy_25 ml_X11_272 (s_X11_far e3) (by decide) rfl ?_
  refine g_ist_8 dX11_hearsBy_28 (by decide) rfl ?_
  refine g_aln dX11_hearsBy_30 rfl rfl (xf_now_39 _ hm1) ?_
  refine g_bi dX11_hearsBy_31 (by decide) ?_
  refine g_iald 40 dX11_hearsBy_33 (xf_now_40 _ hm1) (by decide) (by decide) ?_
  refine g_aln dX11_hearsBy_34 rfl rfl (xf_now_39 _ hm1) ?_
  refine g_bi dX11_hearsBy_35 (by decide) ?_
  refine g_iald 40 dX11_hearsBy_37 (xf_now_40 _ hm1) (by decide) (by decide) ?_
  refine g_aln dX11_hearsBy_38 rfl rfl (xf_now_39 _ hm1) ?_
  refine g_bi dX11_hearsBy_39 (by decide) ?_
  refine g_iald 40 dX11_hearsBy_41 (xf_now_40 _ hm1) (by decide) (by decide) ?_
  refine g_aln dX11_hearsBy_42 rfl rfl (xf_now_39 _ hm1) ?_
  refine g_bi dX11_hearsBy_43 (by decide) ?_
  refine g_iald 40 dX11_hearsBy_45 (xf_now_40 _ hm1) (by decide) (by decide) ?_
  obtain ⟨r6, e5, h⟩ := xbp_e h
  refine g_cS4v dX11_hearsBy_46 ml_X11_272 (s_X11_far e5) (by decide) rfl ?_
  refine g_aln dX11_hearsBy_49 rfl rfl (xf_now_39 _ hm1) ?_
  refine g_bi dX11_hearsBy_50 (by decide) ?_
  refine g_iald 40 dX11_hearsBy_52 (xf_now_40 _ hm1) (by decide) (by decide) ?_
  refine g_aln dX11_hearsBy_53 rfl rfl (xf_now_39 _ hm1) ?_
  refine g_bi dX11_hearsBy_54 (by decide) ?_
  refine g_iald 40 dX11_hearsBy_56 (xf_now_40 _ hm1) (by decide) (by decide) ?_
  refine g_il dX11_hearsBy_57 rfl ?_
  refine g_il dX11_hearsBy_59 rfl ?_
  obtain ⟨r8, e7, h⟩ := xbp_e h
  refine g_cS4v dX11_hearsBy_61 ml_X11_272 (s_X11_far e7) (by decide) rfl ?_
  refine g_iadd dX11_hearsBy_64 ?_
  refine g_ist_9 dX11_hearsBy_65 (by decide) rfl ?_
  refine g_aln dX11_hearsBy_67 rfl rfl (by decide) ?_
  refine g_getC 134 dX11_hearsBy_68 fl_X11_68 rfl (by decide) ?_
  refine g_ic dX11_hearsBy_71 ?_
  refine g_iln dX11_hearsBy_72 rfl rfl ?_
  obtain ⟨v10, e11, h⟩ := xlt_e h
  have hj12 : xG 3 0 0 mX11_hearsBy 83 [vR 121, vR a1, vX, vI a3, vI a4, vI a5, vI (s0 a1 a2), vI (s0 a1 (8 + a2)), vX, vX] [vI v10, vI 0, vR 134] 155 s0 (xRv (vI q.1) q.2) := by
    obtain ⟨s13, e14, h⟩ := xlt_e h
    refine h_iast 7 dX11_hearsBy_83 rfl (by decide) (by decide) e14 ?_
    refine g_aln dX11_hearsBy_84 rfl rfl (by decide) ?_
    refine g_getC 134 dX11_hearsBy_85 fl_X11_68 rfl (by decide) ?_
    refine g_ic dX11_hearsBy_88 ?_
    refine g_il dX11_hearsBy_89 rfl ?_
    obtain ⟨s15, e16, h⟩ := xlt_e h
    refine h_iast 7 dX11_hearsBy_91 rfl (by decide) (by decide) e16 ?_
    refine g_aln dX11_hearsBy_92 rfl rfl (by decide) ?_
    refine g_getC 134 dX11_hearsBy_93 fl_X11_68 rfl (by decide) ?_
    refine g_ic dX11_hearsBy_96 ?_
    refine g_il dX11_hearsBy_97 rfl ?_
    obtain ⟨s17, e18, h⟩ := xlt_e h
    refine h_iast 7 dX11_hearsBy_99 rfl (by decide) (by decide) e18 ?_
    refine g_aln dX11_hearsBy_100 rfl rfl (by decide) ?_
    refine g_getC 134 dX11_hearsBy_101 fl_X11_68 rfl (by decide) ?_
    refine g_ic dX11_hearsBy_104 ?_
    refine g_il dX11_hearsBy_105 rfl ?_
    obtain ⟨s19, e20, h⟩ := xlt_e h
    refine h_iast 7 dX11_hearsBy_107 rfl (by decide) (by decide) e20 ?_
    refine g_aln dX11_hearsBy_108 rfl rfl (by decide) ?_
    refine g_getC 134 dX11_hearsBy_109 fl_X11_68 rfl (by decide) ?_
    refine g_ic dX11_hearsBy_112 ?_
    refine g_il dX11_hearsBy_113 rfl ?_
    obtain ⟨s21, e22, h⟩ := xlt_e h
    refine h_iast 7 dX11_hearsBy_115 rfl (by decide) (by decide) e22 ?_
    refine g_aln dX11_hearsBy_116 rfl rfl (by decide) ?_
    refine g_getC 134 dX11_hearsBy_117 fl_X11_68 rfl (by decide) ?_
    refine g_ic dX11_hearsBy_120 ?_
    refine g_aln dX11_hearsBy_121 rfl rfl (xf_now_39 _ hm1) ?_
    refine g_bi dX11_hearsBy_122 (by decide) ?_
    refine g_iald 40 dX11_hearsBy_124 (xf_now_40 _ hm1) (by decide) (by decide) ?_
    refine g_bi dX11_hearsBy_125 (by decide) ?_
    refine g_wrem dX11_hearsBy_127 rfl (xw_id (by decide)) (by decide) ?_
    obtain ⟨s23, e24, h⟩ := xlt_e h
    refine h_iast 7 dX11_hearsBy_128 rfl (by decide) (by decide) e24 ?_
    refine g_aln dX11_hearsBy_129 rfl rfl (by decide) ?_
    refine g_getC 134 dX11_hearsBy_130 fl_X11_68 rfl (by decide) ?_
    refine g_bi dX11_hearsBy_133 (by decide) ?_
    refine g_iln dX11_hearsBy_135 rfl rfl ?_
    obtain ⟨r26, e25, h⟩ := xbp_e h
    refine g_cS1v dX11_hearsBy_136 ml_X11_159 (s_X11_flag e25) (by decide) rfl ?_
    obtain ⟨s27, e28, h⟩ := xlt_e h
    refine h_iast 7 dX11_hearsBy_139 rfl (by decide) (by decide) e28 ?_
    refine g_il dX11_hearsBy_140 rfl ?_
    refine g_ic dX11_hearsBy_142 ?_
    refine g_bi dX11_hearsBy_143 (by decide) ?_
    refine g_aln dX11_hearsBy_145 rfl rfl (by decide) ?_
    obtain ⟨r30, s31, e29, h⟩ := xbd_e h
    refine g_cV0v dX11_hearsBy_146 ml_X11_276 rfl (s_X11_ruled e29) (by decide) rfl ?_
    refine g_wmin dX11_hearsBy_149 mx_X11_150 (xw_id (by decide)) rfl (by decide) rfl ?_
    refine g_wmax dX11_hearsBy_152 mx_X11_279 (xw_id (by decide)) rfl (by decide) rfl ?_
    refine g_iadd dX11_hearsBy_155 ?_
    exact g_rI rfl dX11_hearsBy_156 h
  refine g_yeq dX11_hearsBy_73 (tgt := 81) rfl rfl (fun c9 => ?_) (fun c9 => ?_)
  · skip
    refine g_il dX11_hearsBy_81 rfl ?_
    refine g_drop_2 ?_
    refine g_drop_8 ?_
    refine g_drop_9 ?_
    exact g_vq ((if_neg c9).symm.trans e11) hj12
  · skip
    refine g_il dX11_hearsBy_76 rfl ?_
    refine g_goto dX11_hearsBy_78 (tgt := 83) rfl ?_
    refine g_drop_2 ?_
    refine g_drop_8 ?_
    refine g_drop_9 ?_
    exact g_vq ((if_pos c9).symm.trans e11) hj12
theorem dX11_hears_0 : decode cX11_hears 0 = .ok (.aload_n 0, 1) := by decide +kernel
theorem dX11_hears_1 : decode cX11_hears 1 = .ok (.aload_n 1, 1) := by decide +kernel
theorem dX11_hears_2 : decode cX11_hears 2 = .ok (.iload_n 2, 1) := by decide +kernel
theorem dX11_hears_3 : decode cX11_hears 3 = .ok (.iconst 0, 1) := by decide +kernel
theorem dX11_hears_4 : decode cX11_hears 4 = .ok (.aload_n 0, 1) := by decide +kernel
theorem dX11_hears_5 : decode cX11_hears 5 = .ok (.aload_n 1, 1) := by decide +kernel
theorem dX11_hears_6 : decode cX11_hears 6 = .ok (.bipush 39, 2) := by decide +kernel
theorem dX11_hears_8 : decode cX11_hears 8 = .ok (.iaload, 1) := by decide +kernel
theorem dX11_hears_9 : decode cX11_hears 9 = .ok (.invokevirtual 282, 3) := by decide +kernel
theorem dX11_hears_12 : decode cX11_hears 12 = .ok (.aload_n 0, 1) := by decide +kernel
theorem dX11_hears_13 : decode cX11_hears 13 = .ok (.aload_n 1, 1) := by decide +kernel
theorem dX11_hears_14 : decode cX11_hears 14 = .ok (.bipush 39, 2) := by decide +kernel
theorem dX11_hears_16 : decode cX11_hears 16 = .ok (.iaload, 1) := by decide +kernel
theorem dX11_hears_17 : decode cX11_hears 17 = .ok (.invokevirtual 285, 3) := by decide +kernel
theorem dX11_hears_20 : decode cX11_hears 20 = .ok (.invokevirtual 288, 3) := by decide +kernel
theorem dX11_hears_23 : decode cX11_hears 23 = .ok (.ireturn, 1) := by decide +kernel
theorem s_X11_hears {a1 a2 : Int} {s0 : xW} {q : Int × xW} (h : F_X11_hears a1 a2 s0 = some q) : xC 4 0 0 mX11_hears [vR 121, vR a1, vI a2] 155 s0 (xRv (vI q.1) q.2) := by
  refine xC.of [vR 121, vR a1, vI a2] (by decide +kernel) (Nat.le_of_ble_eq_true rfl) rfl ?_
  unfold F_X11_hears at h
  obtain ⟨hm1, h⟩ := xgd_e h
  refine g_aln dX11_hears_0 rfl rfl (by decide) ?_
  refine g_aln dX11_hears_1 rfl rfl (xf_now_39 _ hm1) ?_
  refine g_iln dX11_hears_2 rfl rfl ?_
  refine g_ic dX11_hears_3 ?_
  refine g_aln dX11_hears_4 rfl rfl (by decide) ?_
  refine g_aln dX11_hears_5 rfl rfl (xf_now_39 _ hm1) ?_
  refine g_bi dX11_hears_6 (by decide) ?_
  refine g_iald 40 dX11_hears_8 (xf_now_40 _ hm1) (by decide) (by decide) ?_
  obtain ⟨r2, e1, h⟩ := xbp_e h
  refine g_cV1v dX11_hears_9 ml_X11_282 rfl (s_X11_dampOn e1) (by decide) rfl ?_
  refine g_aln dX11_hears_12 rfl rfl (by decide) ?_
  refine g_aln dX11_hears_13 rfl rfl (xf_now_39 _ hm1) ?_
  refine g_bi dX11_hears_14 (by decide) ?_
  refine g_iald 40 dX11_hears_16 (xf_now_40 _ hm1) (by decide) (by decide) ?_
  obtain ⟨r4, e3, h⟩ := xbp_e h
  refine g_cV1v dX11_hears_17 ml_X11_285 rfl (s_X11_windOn e3) (by decide) rfl ?_
  obtain ⟨r6, s7, e5, h⟩ := xbd_e h
  refine g_cV5v dX11_hears_20 ml_X11_288 rfl (s_X11_hearsBy e5) (by decide) rfl ?_
  exact g_rI rfl dX11_hears_23 h
theorem dX11_laysBegins_0 : decode cX11_laysBegins 0 = .ok (.iconst 0, 1) := by decide +kernel
theorem dX11_laysBegins_1 : decode cX11_laysBegins 1 = .ok (.istore_n 2, 1) := by decide +kernel
theorem dX11_laysBegins_2 : decode cX11_laysBegins 2 = .ok (.iload_n 2, 1) := by decide +kernel
theorem dX11_laysBegins_3 : decode cX11_laysBegins 3 = .ok (.aload_n 0, 1) := by decide +kernel
theorem dX11_laysBegins_4 : decode cX11_laysBegins 4 = .ok (.getfield 136, 3) := by decide +kernel
theorem dX11_laysBegins_7 : decode cX11_laysBegins 7 = .ok (.if_icmp .ge 26, 3) := by decide +kernel
theorem dX11_laysBegins_10 : decode cX11_laysBegins 10 = .ok (.aload_n 0, 1) := by decide +kernel
theorem dX11_laysBegins_11 : decode cX11_laysBegins 11 = .ok (.getfield 71, 3) := by decide +kernel
theorem dX11_laysBegins_14 : decode cX11_laysBegins 14 = .ok (.iload_n 2, 1) := by decide +kernel
theorem dX11_laysBegins_15 : decode cX11_laysBegins 15 = .ok (.aload_n 0, 1) := by decide +kernel
theorem dX11_laysBegins_16 : decode cX11_laysBegins 16 = .ok (.aload_n 1, 1) := by decide +kernel
theorem dX11_laysBegins_17 : decode cX11_laysBegins 17 = .ok (.aload_n 0, 1) := by decide +kernel
theorem dX11_laysBegins_18 : decode cX11_laysBegins 18 = .ok (.getfield 41, 3) := by decide +kernel
theorem dX11_laysBegins_21 : decode cX11_laysBegins 21 = .ok (.iload_n 2, 1) := by decide +kernel
theorem dX11_laysBegins_22 : decode cX11_laysBegins 22 = .ok (.iaload, 1) := by decide +kernel
theorem dX11_laysBegins_23 : decode cX11_laysBegins 23 = .ok (.invokevirtual 292, 3) := by decide +kernel
theorem dX11_laysBegins_26 : decode cX11_laysBegins 26 = .ok (.iastore, 1) := by decide +kernel
theorem dX11_laysBegins_27 : decode cX11_laysBegins 27 = .ok (.iinc 2 1, 3) := by decide +kernel
theorem dX11_laysBegins_30 : decode cX11_laysBegins 30 = .ok (.goto (-28), 3) := by decide +kernel
theorem dX11_laysBegins_33 : decode cX11_laysBegins 33 = .ok (.return_, 1) := by decide +kernel
theorem s_X11_laysBegins_2 {l1_1 : Int} (hm2 : l1_1 ∈ xNows) {q : xW} {k : Int → xW → Option (xW)} (hk : ∀ (l2_13 : Int) (s14 : xW), k l2_13 s14 = some q → xG 5 0 0 mX11_laysBegins 33 [vR 121, vR l1_1, vI l2_13] [] 155 s14 (xR0 q)) : ∀ (f : Nat) (l2_3 : Int) (s4 : xW), F_X11_laysBegins_2 l1_1 f l2_3 s4 k = some q → xG 5 0 0 mX11_laysBegins 2 [vR 121, vR l1_1, vI l2_3] [] 155 s4 (xR0 q) := by
  intro f
  induction f with
  | zero => intro l2_3 s4 h; cases h
  | succ f ih =>
    intro l2_3 s4 h
    unfold F_X11_laysBegins_2 at h
    refine g_iln dX11_laysBegins_2 rfl rfl ?_
    refine g_aln dX11_laysBegins_3 rfl rfl (by decide) ?_
    refine g_getI 4 dX11_laysBegins_4 fl_X11_136 rfl rfl ?_
    refine g_wge dX11_laysBegins_7 (tgt := 33) rfl rfl rfl (fun q5 => ?_) (fun q5 => ?_)
    · replace h := xif_f q5 h
      exact hk l2_3 s4 h
    · replace h := xif_t q5 h
      refine g_aln dX11_laysBegins_10 rfl rfl (by decide) ?_
      refine g_getC 135 dX11_laysBegins_11 fl_X11_71 rfl (by decide) ?_
      refine g_iln dX11_laysBegins_14 rfl rfl ?_
      refine g_aln dX11_laysBegins_15 rfl rfl (by decide) ?_
      refine g_aln dX11_laysBegins_16 rfl rfl (xf_now_39 _ hm2) ?_
      refine g_aln dX11_laysBegins_17 rfl rfl (by decide) ?_
      refine g_getC 125 dX11_laysBegins_18 fl_X11_41 rfl (by decide) ?_
      refine g_iln dX11_laysBegins_21 rfl rfl ?_
      obtain ⟨hg6, h⟩ := xgd_e h
      refine g_iald 8 dX11_laysBegins_22 rfl hg6 (by decide) ?_
      obtain ⟨r8, s9, e7, h⟩ := xbd_e h
      refine g_cV2v dX11_laysBegins_23 ml_X11_292 rfl (s_X11_hears e7) (by decide) rfl ?_
      obtain ⟨hg10, h⟩ := xgd_e h
      obtain ⟨s11, e12, h⟩ := xlt_e h
      refine h_iast 8 dX11_laysBegins_26 rfl hg10 (by decide) e12 ?_
      refine g_inc_2 dX11_laysBegins_27 (by decide) rfl ?_
      refine g_goto dX11_laysBegins_30 (tgt := 2) rfl ?_
      exact ih (l2_3 + 1) s11 h
theorem s_X11_laysBegins {a1 : Int} {s0 : xW} {q : xW} (h : F_X11_laysBegins a1 s0 = some q) : xC 5 0 0 mX11_laysBegins [vR 121, vR a1] 155 s0 (xR0 q) := by
  refine xC.of [vR 121, vR a1, vX] (by decide +kernel) (Nat.le_of_ble_eq_true rfl) rfl ?_
  unfold F_X11_laysBegins at h
  obtain ⟨hm1, h⟩ := xgd_e h
  refine g_ic dX11_laysBegins_0 ?_
  refine g_istn_2 dX11_laysBegins_1 (by decide) rfl ?_
  refine s_X11_laysBegins_2 hm1 (fun l2_15 s16 h => ?_) xN _ _ h
  exact g_rV rfl dX11_laysBegins_33 h
theorem dX11_meet_0 : decode cX11_meet 0 = .ok (.aload_n 0, 1) := by decide +kernel
theorem dX11_meet_1 : decode cX11_meet 1 = .ok (.getfield 71, 3) := by decide +kernel
theorem dX11_meet_4 : decode cX11_meet 4 = .ok (.iload_n 2, 1) := by decide +kernel
theorem dX11_meet_5 : decode cX11_meet 5 = .ok (.iaload, 1) := by decide +kernel
theorem dX11_meet_6 : decode cX11_meet 6 = .ok (.aload_n 0, 1) := by decide +kernel
theorem dX11_meet_7 : decode cX11_meet 7 = .ok (.getfield 71, 3) := by decide +kernel
theorem dX11_meet_10 : decode cX11_meet 10 = .ok (.iload_n 3, 1) := by decide +kernel
theorem dX11_meet_11 : decode cX11_meet 11 = .ok (.iaload, 1) := by decide +kernel
theorem dX11_meet_12 : decode cX11_meet 12 = .ok (.aload_n 1, 1) := by decide +kernel
theorem dX11_meet_13 : decode cX11_meet 13 = .ok (.bipush 24, 2) := by decide +kernel
theorem dX11_meet_15 : decode cX11_meet 15 = .ok (.iload_n 3, 1) := by decide +kernel
theorem dX11_meet_16 : decode cX11_meet 16 = .ok (.iadd, 1) := by decide +kernel
theorem dX11_meet_17 : decode cX11_meet 17 = .ok (.iaload, 1) := by decide +kernel
theorem dX11_meet_18 : decode cX11_meet 18 = .ok (.iadd, 1) := by decide +kernel
theorem dX11_meet_19 : decode cX11_meet 19 = .ok (.if_icmp .ge 29, 3) := by decide +kernel
theorem dX11_meet_22 : decode cX11_meet 22 = .ok (.aload_n 0, 1) := by decide +kernel
theorem dX11_meet_23 : decode cX11_meet 23 = .ok (.getfield 71, 3) := by decide +kernel
theorem dX11_meet_26 : decode cX11_meet 26 = .ok (.iload_n 3, 1) := by decide +kernel
theorem dX11_meet_27 : decode cX11_meet 27 = .ok (.iaload, 1) := by decide +kernel
theorem dX11_meet_28 : decode cX11_meet 28 = .ok (.aload_n 0, 1) := by decide +kernel
theorem dX11_meet_29 : decode cX11_meet 29 = .ok (.getfield 71, 3) := by decide +kernel
theorem dX11_meet_32 : decode cX11_meet 32 = .ok (.iload_n 2, 1) := by decide +kernel
theorem dX11_meet_33 : decode cX11_meet 33 = .ok (.iaload, 1) := by decide +kernel
theorem dX11_meet_34 : decode cX11_meet 34 = .ok (.aload_n 1, 1) := by decide +kernel
theorem dX11_meet_35 : decode cX11_meet 35 = .ok (.bipush 24, 2) := by decide +kernel
theorem dX11_meet_37 : decode cX11_meet 37 = .ok (.iload_n 2, 1) := by decide +kernel
theorem dX11_meet_38 : decode cX11_meet 38 = .ok (.iadd, 1) := by decide +kernel
theorem dX11_meet_39 : decode cX11_meet 39 = .ok (.iaload, 1) := by decide +kernel
theorem dX11_meet_40 : decode cX11_meet 40 = .ok (.iadd, 1) := by decide +kernel
theorem dX11_meet_41 : decode cX11_meet 41 = .ok (.if_icmp .ge 7, 3) := by decide +kernel
theorem dX11_meet_44 : decode cX11_meet 44 = .ok (.iconst 1, 1) := by decide +kernel
theorem dX11_meet_45 : decode cX11_meet 45 = .ok (.goto 4, 3) := by decide +kernel
theorem dX11_meet_48 : decode cX11_meet 48 = .ok (.iconst 0, 1) := by decide +kernel
theorem dX11_meet_49 : decode cX11_meet 49 = .ok (.ireturn, 1) := by decide +kernel
theorem s_X11_meet {a1 a2 a3 : Int} {s0 : xW} {q : Int} (h : F_X11_meet a1 a2 a3 s0 = some q) : xC 0 0 0 mX11_meet [vR 121, vR a1, vI a2, vI a3] 155 s0 (xRv (vI q) s0) := by
  refine xC.of [vR 121, vR a1, vI a2, vI a3] (by decide +kernel) (Nat.le_of_ble_eq_true rfl) rfl ?_
  unfold F_X11_meet at h
  obtain ⟨hm1, h⟩ := xgd_e h
  refine g_aln dX11_meet_0 rfl rfl (by decide) ?_
  refine g_getC 135 dX11_meet_1 fl_X11_71 rfl (by decide) ?_
  refine g_iln dX11_meet_4 rfl rfl ?_
  obtain ⟨hg1, h⟩ := xgd_e h
  refine g_iald 8 dX11_meet_5 rfl hg1 (by decide) ?_
  refine g_aln dX11_meet_6 rfl rfl (by decide) ?_
  refine g_getC 135 dX11_meet_7 fl_X11_71 rfl (by decide) ?_
  refine g_iln dX11_meet_10 rfl rfl ?_
  obtain ⟨hg2, h⟩ := xgd_e h
  refine g_iald 8 dX11_meet_11 rfl hg2 (by decide) ?_
  refine g_aln dX11_meet_12 rfl rfl (xf_now_39 _ hm1) ?_
  refine g_bi dX11_meet_13 (by decide) ?_
  refine g_iln dX11_meet_15 rfl rfl ?_
  refine g_iadd dX11_meet_16 ?_
  obtain ⟨hg3, h⟩ := xgd_e h
  refine g_iald 40 dX11_meet_17 (xf_now_40 _ hm1) hg3 (by decide) ?_
  refine g_iadd dX11_meet_18 ?_
  obtain ⟨j5, ej6, h⟩ := xjn_e h
  have hj7 : ∀ (t4 : Int), j5 t4 = some q → xG 0 0 0 mX11_meet 49 [vX, vX, vX, vX] [vI t4] 155 s0 (xRv (vI q) s0) := by
    intro t4 h
    rw [ej6] at h
    obtain ⟨hg8, h⟩ := xgd_e h
    exact g_pZ rfl dX11_meet_49 hg8 h
  clear ej6
  obtain ⟨j9, ej10, h⟩ := xjn_e h
  have hj11 : j9  = some q → xG 0 0 0 mX11_meet 48 [vX, vX, vX, vX] [] 155 s0 (xRv (vI q) s0) := by
    intro  h
    rw [ej10] at h
    refine g_ic dX11_meet_48 ?_
    exact hj7 0 h
  clear ej10
  refine g_wge dX11_meet_19 (tgt := 48) rfl rfl rfl (fun q12 => ?_) (fun q12 => ?_)
  · replace h := xif_f q12 h
    refine g_drop_0 ?_
    refine g_drop_1 ?_
    refine g_drop_2 ?_
    refine g_drop_3 ?_
    exact hj11  h
  · replace h := xif_t q12 h
    refine g_aln dX11_meet_22 rfl rfl (by decide) ?_
    refine g_getC 135 dX11_meet_23 fl_X11_71 rfl (by decide) ?_
    refine g_iln dX11_meet_26 rfl rfl ?_
    obtain ⟨hg13, h⟩ := xgd_e h
    refine g_iald 8 dX11_meet_27 rfl hg13 (by decide) ?_
    refine g_aln dX11_meet_28 rfl rfl (by decide) ?_
    refine g_getC 135 dX11_meet_29 fl_X11_71 rfl (by decide) ?_
    refine g_iln dX11_meet_32 rfl rfl ?_
    obtain ⟨hg14, h⟩ := xgd_e h
    refine g_iald 8 dX11_meet_33 rfl hg14 (by decide) ?_
    refine g_aln dX11_meet_34 rfl rfl (xf_now_39 _ hm1) ?_
    refine g_bi dX11_meet_35 (by decide) ?_
    refine g_iln dX11_meet_37 rfl rfl ?_
    refine g_iadd dX11_meet_38 ?_
    obtain ⟨hg15, h⟩ := xgd_e h
    refine g_iald 40 dX11_meet_39 (xf_now_40 _ hm1) hg15 (by decide) ?_
    refine g_iadd dX11_meet_40 ?_
    refine g_wge dX11_meet_41 (tgt := 48) rfl rfl rfl (fun q16 => ?_) (fun q16 => ?_)
    · replace h := xif_f q16 h
      refine g_drop_0 ?_
      refine g_drop_1 ?_
      refine g_drop_2 ?_
      refine g_drop_3 ?_
      exact hj11  h
    · replace h := xif_t q16 h
      refine g_ic dX11_meet_44 ?_
      refine g_goto dX11_meet_45 (tgt := 49) rfl ?_
      refine g_drop_0 ?_
      refine g_drop_1 ?_
      refine g_drop_2 ?_
      refine g_drop_3 ?_
      exact hj7 1 h
theorem dX11_clash_0 : decode cX11_clash 0 = .ok (.aload_n 0, 1) := by decide +kernel
theorem dX11_clash_1 : decode cX11_clash 1 = .ok (.getfield 44, 3) := by decide +kernel
theorem dX11_clash_4 : decode cX11_clash 4 = .ok (.iload_n 2, 1) := by decide +kernel
theorem dX11_clash_5 : decode cX11_clash 5 = .ok (.iaload, 1) := by decide +kernel
theorem dX11_clash_6 : decode cX11_clash 6 = .ok (.aload_n 0, 1) := by decide +kernel
theorem dX11_clash_7 : decode cX11_clash 7 = .ok (.getfield 44, 3) := by decide +kernel
theorem dX11_clash_10 : decode cX11_clash 10 = .ok (.iload_n 3, 1) := by decide +kernel
theorem dX11_clash_11 : decode cX11_clash 11 = .ok (.iaload, 1) := by decide +kernel
theorem dX11_clash_12 : decode cX11_clash 12 = .ok (.iand, 1) := by decide +kernel
theorem dX11_clash_13 : decode cX11_clash 13 = .ok (.ifCond .eq 17, 3) := by decide +kernel
theorem dX11_clash_16 : decode cX11_clash 16 = .ok (.aload_n 0, 1) := by decide +kernel
theorem dX11_clash_17 : decode cX11_clash 17 = .ok (.aload_n 1, 1) := by decide +kernel
theorem dX11_clash_18 : decode cX11_clash 18 = .ok (.iload_n 2, 1) := by decide +kernel
theorem dX11_clash_19 : decode cX11_clash 19 = .ok (.iload_n 3, 1) := by decide +kernel
theorem dX11_clash_20 : decode cX11_clash 20 = .ok (.invokevirtual 296, 3) := by decide +kernel
theorem dX11_clash_23 : decode cX11_clash 23 = .ok (.ifCond .eq 7, 3) := by decide +kernel
theorem dX11_clash_26 : decode cX11_clash 26 = .ok (.iconst 1, 1) := by decide +kernel
theorem dX11_clash_27 : decode cX11_clash 27 = .ok (.goto 4, 3) := by decide +kernel
theorem dX11_clash_30 : decode cX11_clash 30 = .ok (.iconst 0, 1) := by decide +kernel
theorem dX11_clash_31 : decode cX11_clash 31 = .ok (.ireturn, 1) := by decide +kernel
theorem s_X11_clash {a1 a2 a3 : Int} {s0 : xW} {q : Int} (h : F_X11_clash a1 a2 a3 s0 = some q) : xC 1 0 0 mX11_clash [vR 121, vR a1, vI a2, vI a3] 155 s0 (xRv (vI q) s0) := by
  refine xC.of [vR 121, vR a1, vI a2, vI a3] (by decide +kernel) (Nat.le_of_ble_eq_true rfl) rfl ?_
  unfold F_X11_clash at h
  obtain ⟨hm1, h⟩ := xgd_e h
  refine g_aln dX11_clash_0 rfl rfl (by decide) ?_
  refine g_getC 126 dX11_clash_1 fl_X11_44 rfl (by decide) ?_
  refine g_iln dX11_clash_4 rfl rfl ?_
  obtain ⟨hg1, h⟩ := xgd_e h
  refine g_iald 8 dX11_clash_5 rfl hg1 (by decide) ?_
  refine g_aln dX11_clash_6 rfl rfl (by decide) ?_
  refine g_getC 126 dX11_clash_7 fl_X11_44 rfl (by decide) ?_
  refine g_iln dX11_clash_10 rfl rfl ?_
  obtain ⟨hg2, h⟩ := xgd_e h
  refine g_iald 8 dX11_clash_11 rfl hg2 (by decide) ?_
  refine g_iand dX11_clash_12 ?_
  obtain ⟨j4, ej5, h⟩ := xjn_e h
  have hj6 : ∀ (t3 : Int), j4 t3 = some q → xG 1 0 0 mX11_clash 31 [vX, vX, vX, vX] [vI t3] 155 s0 (xRv (vI q) s0) := by
    intro t3 h
    rw [ej5] at h
    obtain ⟨hg7, h⟩ := xgd_e h
    exact g_pZ rfl dX11_clash_31 hg7 h
  clear ej5
  obtain ⟨j8, ej9, h⟩ := xjn_e h
  have hj10 : j8  = some q → xG 1 0 0 mX11_clash 30 [vX, vX, vX, vX] [] 155 s0 (xRv (vI q) s0) := by
    intro  h
    rw [ej9] at h
    refine g_ic dX11_clash_30 ?_
    exact hj6 0 h
  clear ej9
  refine g_yeq dX11_clash_13 (tgt := 30) rfl rfl (fun q11 => ?_) (fun q11 => ?_)
  · replace h := xif_f q11 h
    refine g_drop_0 ?_
    refine g_drop_1 ?_
    refine g_drop_2 ?_
    refine g_drop_3 ?_
    exact hj10  h
  · replace h := xif_t q11 h
    refine g_aln dX11_clash_16 rfl rfl (by decide) ?_
    refine g_aln dX11_clash_17 rfl rfl (xf_now_39 _ hm1) ?_
    refine g_iln dX11_clash_18 rfl rfl ?_
    refine g_iln dX11_clash_19 rfl rfl ?_
    obtain ⟨r13, e12, h⟩ := xbp_e h
    refine g_cV3v dX11_clash_20 ml_X11_296 rfl (s_X11_meet e12) (by decide) rfl ?_
    refine g_yeq dX11_clash_23 (tgt := 30) rfl rfl (fun q14 => ?_) (fun q14 => ?_)
    · replace h := xif_f q14 h
      refine g_drop_0 ?_
      refine g_drop_1 ?_
      refine g_drop_2 ?_
      refine g_drop_3 ?_
      exact hj10  h
    · replace h := xif_t q14 h
      refine g_ic dX11_clash_26 ?_
      refine g_goto dX11_clash_27 (tgt := 31) rfl ?_
      refine g_drop_0 ?_
      refine g_drop_1 ?_
      refine g_drop_2 ?_
      refine g_drop_3 ?_
      exact hj6 1 h
theorem dX11_clashing_0 : decode cX11_clashing 0 = .ok (.iconst 0, 1) := by decide +kernel
theorem dX11_clashing_1 : decode cX11_clashing 1 = .ok (.istore_n 3, 1) := by decide +kernel
theorem dX11_clashing_2 : decode cX11_clashing 2 = .ok (.iconst 0, 1) := by decide +kernel
theorem dX11_clashing_3 : decode cX11_clashing 3 = .ok (.istore 4, 2) := by decide +kernel
theorem dX11_clashing_5 : decode cX11_clashing 5 = .ok (.iload 4, 2) := by decide +kernel
theorem dX11_clashing_7 : decode cX11_clashing 7 = .ok (.aload_n 0, 1) := by decide +kernel
theorem dX11_clashing_8 : decode cX11_clashing 8 = .ok (.getfield 136, 3) := by decide +kernel
theorem dX11_clashing_11 : decode cX11_clashing 11 = .ok (.if_icmp .ge 37, 3) := by decide +kernel
theorem dX11_clashing_14 : decode cX11_clashing 14 = .ok (.iload_n 3, 1) := by decide +kernel
theorem dX11_clashing_15 : decode cX11_clashing 15 = .ok (.iload 4, 2) := by decide +kernel
theorem dX11_clashing_17 : decode cX11_clashing 17 = .ok (.iload_n 2, 1) := by decide +kernel
theorem dX11_clashing_18 : decode cX11_clashing 18 = .ok (.if_icmp .eq 21, 3) := by decide +kernel
theorem dX11_clashing_21 : decode cX11_clashing 21 = .ok (.aload_n 0, 1) := by decide +kernel
theorem dX11_clashing_22 : decode cX11_clashing 22 = .ok (.aload_n 1, 1) := by decide +kernel
theorem dX11_clashing_23 : decode cX11_clashing 23 = .ok (.iload_n 2, 1) := by decide +kernel
theorem dX11_clashing_24 : decode cX11_clashing 24 = .ok (.iload 4, 2) := by decide +kernel
theorem dX11_clashing_26 : decode cX11_clashing 26 = .ok (.invokevirtual 300, 3) := by decide +kernel
theorem dX11_clashing_29 : decode cX11_clashing 29 = .ok (.ifCond .eq 10, 3) := by decide +kernel
theorem dX11_clashing_32 : decode cX11_clashing 32 = .ok (.iconst 1, 1) := by decide +kernel
theorem dX11_clashing_33 : decode cX11_clashing 33 = .ok (.iload 4, 2) := by decide +kernel
theorem dX11_clashing_35 : decode cX11_clashing 35 = .ok (.ishl, 1) := by decide +kernel
theorem dX11_clashing_36 : decode cX11_clashing 36 = .ok (.goto 4, 3) := by decide +kernel
theorem dX11_clashing_39 : decode cX11_clashing 39 = .ok (.iconst 0, 1) := by decide +kernel
theorem dX11_clashing_40 : decode cX11_clashing 40 = .ok (.ior, 1) := by decide +kernel
theorem dX11_clashing_41 : decode cX11_clashing 41 = .ok (.istore_n 3, 1) := by decide +kernel
theorem dX11_clashing_42 : decode cX11_clashing 42 = .ok (.iinc 4 1, 3) := by decide +kernel
theorem dX11_clashing_45 : decode cX11_clashing 45 = .ok (.goto (-40), 3) := by decide +kernel
theorem dX11_clashing_48 : decode cX11_clashing 48 = .ok (.iload_n 3, 1) := by decide +kernel
theorem dX11_clashing_49 : decode cX11_clashing 49 = .ok (.ireturn, 1) := by decide +kernel
theorem s_X11_clashing_5 {s6 : xW} {l1_1 l2_3 : Int} (hm2 : l1_1 ∈ xNows) {q : Int} {k : Int → Int → Option (Int)} (hk : ∀ (l3_19 : Int) (l4_20 : Int), k l3_19 l4_20 = some q → xG 2 0 0 mX11_clashing 48 [vR 121, vR l1_1, vI l2_3, vI l3_19, vI l4_20] [] 155 s6 (xRv (vI q) s6)) : ∀ (f : Nat) (l3_4 : Int) (l4_5 : Int), F_X11_clashing_5 l1_1 l2_3 s6 f l3_4 l4_5 k = some q → xG 2 0 0 mX11_clashing 5 [vR 121, vR l1_1, vI l2_3, vI l3_4, vI l4_5] [] 155 s6 (xRv (vI q) s6) := by
  intro f
  induction f with
  | zero => intro l3_4 l4_5 h; cases h
  | succ f ih =>
    intro l3_4 l4_5 h
    unfold F_X11_clashing_5 at h
    refine g_il dX11_clashing_5 rfl ?_
    refine g_aln dX11_clashing_7 rfl rfl (by decide) ?_
    refine g_getI 4 dX11_clashing_8 fl_X11_136 rfl rfl ?_
    refine g_wge dX11_clashing_11 (tgt := 48) rfl rfl rfl (fun q7 => ?_) (fun q7 => ?_)
    · replace h := xif_f q7 h
      exact hk l3_4 l4_5 h
    · replace h := xif_t q7 h
      refine g_iln dX11_clashing_14 rfl rfl ?_
      refine g_il dX11_clashing_15 rfl ?_
      refine g_iln dX11_clashing_17 rfl rfl ?_
      obtain ⟨j9, ej10, h⟩ := xjn_e h
      have hj11 : ∀ (t8 : Int), j9 t8 = some q → xG 2 0 0 mX11_clashing 40 [vR 121, vR l1_1, vI l2_3, vX, vI l4_5] [vI t8, vI l3_4] 155 s6 (xRv (vI q) s6) := by
        intro t8 h
        rw [ej10] at h
        refine g_ior dX11_clashing_40 ?_
        refine g_istn_3 dX11_clashing_41 (by decide) rfl ?_
        refine g_inc_4 dX11_clashing_42 (by decide) rfl ?_
        refine g_goto dX11_clashing_45 (tgt := 5) rfl ?_
        exact ih (xor' l3_4 t8) (l4_5 + 1) h
      clear ej10
      obtain ⟨j12, ej13, h⟩ := xjn_e h
      have hj14 : j12  = some q → xG 2 0 0 mX11_clashing 39 [vR 121, vR l1_1, vI l2_3, vX, vI l4_5] [vI l3_4] 155 s6 (xRv (vI q) s6) := by
        intro  h
        rw [ej13] at h
        refine g_ic dX11_clashing_39 ?_
        exact hj11 0 h
      clear ej13
      refine g_weq dX11_clashing_18 (tgt := 39) rfl rfl rfl (fun q15 => ?_) (fun q15 => ?_)
      · replace h := xif_f q15 h
        refine g_drop_3 ?_
        exact hj14  h
      · replace h := xif_t q15 h
        refine g_aln dX11_clashing_21 rfl rfl (by decide) ?_
        refine g_aln dX11_clashing_22 rfl rfl (xf_now_39 _ hm2) ?_
        refine g_iln dX11_clashing_23 rfl rfl ?_
        refine g_il dX11_clashing_24 rfl ?_
        obtain ⟨r17, e16, h⟩ := xbp_e h
        refine g_cV3v dX11_clashing_26 ml_X11_300 rfl (s_X11_clash e16) (by decide) rfl ?_
        refine g_yeq dX11_clashing_29 (tgt := 39) rfl rfl (fun q18 => ?_) (fun q18 => ?_)
        · replace h := xif_f q18 h
          refine g_drop_3 ?_
          exact hj14  h
        · replace h := xif_t q18 h
          refine g_ic dX11_clashing_32 ?_
          refine g_il dX11_clashing_33 rfl ?_
          refine g_ishl dX11_clashing_35 ?_
          refine g_goto dX11_clashing_36 (tgt := 40) rfl ?_
          refine g_drop_3 ?_
          exact hj11 (xshl 1 l4_5) h
theorem s_X11_clashing {a1 a2 : Int} {s0 : xW} {q : Int} (h : F_X11_clashing a1 a2 s0 = some q) : xC 2 0 0 mX11_clashing [vR 121, vR a1, vI a2] 155 s0 (xRv (vI q) s0) := by
  refine xC.of [vR 121, vR a1, vI a2, vX, vX] (by decide +kernel) (Nat.le_of_ble_eq_true rfl) rfl ?_
  unfold F_X11_clashing at h
  obtain ⟨hm1, h⟩ := xgd_e h
  refine g_ic dX11_clashing_0 ?_
  refine g_istn_3 dX11_clashing_1 (by decide) rfl ?_
  refine g_ic dX11_clashing_2 ?_
  refine g_ist_4 dX11_clashing_3 (by decide) rfl ?_
  refine s_X11_clashing_5 hm1 (fun l3_21 l4_22 h => ?_) xN _ _ h
  refine g_iln dX11_clashing_48 rfl rfl ?_
  exact g_pI rfl dX11_clashing_49 h
theorem dX11_clashesOn_0 : decode cX11_clashesOn 0 = .ok (.aload_n 0, 1) := by decide +kernel
theorem dX11_clashesOn_1 : decode cX11_clashesOn 1 = .ok (.aload_n 1, 1) := by decide +kernel
theorem dX11_clashesOn_2 : decode cX11_clashesOn 2 = .ok (.invokevirtual 303, 3) := by decide +kernel
theorem dX11_clashesOn_5 : decode cX11_clashesOn 5 = .ok (.iconst 0, 1) := by decide +kernel
theorem dX11_clashesOn_6 : decode cX11_clashesOn 6 = .ok (.istore_n 2, 1) := by decide +kernel
theorem dX11_clashesOn_7 : decode cX11_clashesOn 7 = .ok (.iconst 0, 1) := by decide +kernel
theorem dX11_clashesOn_8 : decode cX11_clashesOn 8 = .ok (.istore_n 3, 1) := by decide +kernel
theorem dX11_clashesOn_9 : decode cX11_clashesOn 9 = .ok (.iload_n 3, 1) := by decide +kernel
theorem dX11_clashesOn_10 : decode cX11_clashesOn 10 = .ok (.aload_n 0, 1) := by decide +kernel
theorem dX11_clashesOn_11 : decode cX11_clashesOn 11 = .ok (.getfield 136, 3) := by decide +kernel
theorem dX11_clashesOn_14 : decode cX11_clashesOn 14 = .ok (.if_icmp .ge 21, 3) := by decide +kernel
theorem dX11_clashesOn_17 : decode cX11_clashesOn 17 = .ok (.iload_n 2, 1) := by decide +kernel
theorem dX11_clashesOn_18 : decode cX11_clashesOn 18 = .ok (.aload_n 0, 1) := by decide +kernel
theorem dX11_clashesOn_19 : decode cX11_clashesOn 19 = .ok (.aload_n 1, 1) := by decide +kernel
theorem dX11_clashesOn_20 : decode cX11_clashesOn 20 = .ok (.iload_n 3, 1) := by decide +kernel
theorem dX11_clashesOn_21 : decode cX11_clashesOn 21 = .ok (.invokevirtual 307, 3) := by decide +kernel
theorem dX11_clashesOn_24 : decode cX11_clashesOn 24 = .ok (.invokestatic 310, 3) := by decide +kernel
theorem dX11_clashesOn_27 : decode cX11_clashesOn 27 = .ok (.iadd, 1) := by decide +kernel
theorem dX11_clashesOn_28 : decode cX11_clashesOn 28 = .ok (.istore_n 2, 1) := by decide +kernel
theorem dX11_clashesOn_29 : decode cX11_clashesOn 29 = .ok (.iinc 3 1, 3) := by decide +kernel
theorem dX11_clashesOn_32 : decode cX11_clashesOn 32 = .ok (.goto (-23), 3) := by decide +kernel
theorem dX11_clashesOn_35 : decode cX11_clashesOn 35 = .ok (.iload_n 2, 1) := by decide +kernel
theorem dX11_clashesOn_36 : decode cX11_clashesOn 36 = .ok (.iconst 2, 1) := by decide +kernel
theorem dX11_clashesOn_37 : decode cX11_clashesOn 37 = .ok (.idiv, 1) := by decide +kernel
theorem dX11_clashesOn_38 : decode cX11_clashesOn 38 = .ok (.ireturn, 1) := by decide +kernel
theorem s_X11_clashesOn_9 {s7 : xW} {l1_3 : Int} (hm4 : l1_3 ∈ xNows) {q : Int × xW} {k : Int → Int → Option (Int × xW)} (hk : ∀ (l2_11 : Int) (l3_12 : Int), k l2_11 l3_12 = some q → xG 6 0 0 mX11_clashesOn 35 [vR 121, vR l1_3, vI l2_11, vI l3_12] [] 155 s7 (xRv (vI q.1) q.2)) : ∀ (f : Nat) (l2_5 : Int) (l3_6 : Int), F_X11_clashesOn_9 l1_3 s7 f l2_5 l3_6 k = some q → xG 6 0 0 mX11_clashesOn 9 [vR 121, vR l1_3, vI l2_5, vI l3_6] [] 155 s7 (xRv (vI q.1) q.2) := by
  intro f
  induction f with
  | zero => intro l2_5 l3_6 h; cases h
  | succ f ih =>
    intro l2_5 l3_6 h
    unfold F_X11_clashesOn_9 at h
    refine g_iln dX11_clashesOn_9 rfl rfl ?_
    refine g_aln dX11_clashesOn_10 rfl rfl (by decide) ?_
    refine g_getI 4 dX11_clashesOn_11 fl_X11_136 rfl rfl ?_
    refine g_wge dX11_clashesOn_14 (tgt := 35) rfl rfl rfl (fun q8 => ?_) (fun q8 => ?_)
    · replace h := xif_f q8 h
      exact hk l2_5 l3_6 h
    · replace h := xif_t q8 h
      refine g_iln dX11_clashesOn_17 rfl rfl ?_
      refine g_aln dX11_clashesOn_18 rfl rfl (by decide) ?_
      refine g_aln dX11_clashesOn_19 rfl rfl (xf_now_39 _ hm4) ?_
      refine g_iln dX11_clashesOn_20 rfl rfl ?_
      obtain ⟨r10, e9, h⟩ := xbp_e h
      refine g_cV2v dX11_clashesOn_21 ml_X11_307 rfl (s_X11_clashing e9) (by decide) rfl ?_
      refine g_bitc dX11_clashesOn_24 bc_X11_310 (by decide) rfl ?_
      refine g_iadd dX11_clashesOn_27 ?_
      refine g_istn_2 dX11_clashesOn_28 (by decide) rfl ?_
      refine g_inc_3 dX11_clashesOn_29 (by decide) rfl ?_
      refine g_goto dX11_clashesOn_32 (tgt := 9) rfl ?_
      exact ih (l2_5 + (xbc r10)) (l3_6 + 1) h
theorem s_X11_clashesOn {a1 : Int} {s0 : xW} {q : Int × xW} (h : F_X11_clashesOn a1 s0 = some q) : xC 6 0 0 mX11_clashesOn [vR 121, vR a1] 155 s0 (xRv (vI q.1) q.2) := by
  refine xC.of [vR 121, vR a1, vX, vX] (by decide +kernel) (Nat.le_of_ble_eq_true rfl) rfl ?_
  unfold F_X11_clashesOn at h
  obtain ⟨hm1, h⟩ := xgd_e h
  refine g_aln dX11_clashesOn_0 rfl rfl (by decide) ?_
  refine g_aln dX11_clashesOn_1 rfl rfl (xf_now_39 _ hm1) ?_
  obtain ⟨s2, e1, h⟩ := xbp_e h
  refine g_cV10 dX11_clashesOn_2 ml_X11_303 rfl (s_X11_laysBegins e1) (by decide) rfl ?_
  refine g_ic dX11_clashesOn_5 ?_
  refine g_istn_2 dX11_clashesOn_6 (by decide) rfl ?_
  refine g_ic dX11_clashesOn_7 ?_
  refine g_istn_3 dX11_clashesOn_8 (by decide) rfl ?_
  refine s_X11_clashesOn_9 hm1 (fun l2_13 l3_14 h => ?_) xN _ _ h
  refine g_iln dX11_clashesOn_35 rfl rfl ?_
  refine g_ic dX11_clashesOn_36 ?_
  refine g_wdiv dX11_clashesOn_37 rfl (xw_id (by decide)) (by decide) ?_
  exact g_rI rfl dX11_clashesOn_38 h
theorem dX11_ahead_0 : decode cX11_ahead 0 = .ok (.aload_n 0, 1) := by decide +kernel
theorem dX11_ahead_1 : decode cX11_ahead 1 = .ok (.iconst 0, 1) := by decide +kernel
theorem dX11_ahead_2 : decode cX11_ahead 2 = .ok (.putfield 3, 3) := by decide +kernel
theorem dX11_ahead_5 : decode cX11_ahead 5 = .ok (.iload_n 1, 1) := by decide +kernel
theorem dX11_ahead_6 : decode cX11_ahead 6 = .ok (.i2l, 1) := by decide +kernel
theorem dX11_ahead_7 : decode cX11_ahead 7 = .ok (.lconst 0, 1) := by decide +kernel
theorem dX11_ahead_8 : decode cX11_ahead 8 = .ok (.ldc2_w 349, 3) := by decide +kernel
theorem dX11_ahead_11 : decode cX11_ahead 11 = .ok (.invokestatic 132, 3) := by decide +kernel
theorem dX11_ahead_14 : decode cX11_ahead 14 = .ok (.ifCond .ne 5, 3) := by decide +kernel
theorem dX11_ahead_17 : decode cX11_ahead 17 = .ok (.iconst (-1), 1) := by decide +kernel
theorem dX11_ahead_18 : decode cX11_ahead 18 = .ok (.ireturn, 1) := by decide +kernel
theorem dX11_ahead_19 : decode cX11_ahead 19 = .ok (.aload_n 0, 1) := by decide +kernel
theorem dX11_ahead_20 : decode cX11_ahead 20 = .ok (.invokevirtual 400, 3) := by decide +kernel
theorem dX11_ahead_23 : decode cX11_ahead 23 = .ok (.aload_n 0, 1) := by decide +kernel
theorem dX11_ahead_24 : decode cX11_ahead 24 = .ok (.getfield 50, 3) := by decide +kernel
theorem dX11_ahead_27 : decode cX11_ahead 27 = .ok (.bipush 39, 2) := by decide +kernel
theorem dX11_ahead_29 : decode cX11_ahead 29 = .ok (.dup2, 1) := by decide +kernel
theorem dX11_ahead_30 : decode cX11_ahead 30 = .ok (.iaload, 1) := by decide +kernel
theorem dX11_ahead_31 : decode cX11_ahead 31 = .ok (.iload_n 1, 1) := by decide +kernel
theorem dX11_ahead_32 : decode cX11_ahead 32 = .ok (.iadd, 1) := by decide +kernel
theorem dX11_ahead_33 : decode cX11_ahead 33 = .ok (.iastore, 1) := by decide +kernel
theorem dX11_ahead_34 : decode cX11_ahead 34 = .ok (.aload_n 0, 1) := by decide +kernel
theorem dX11_ahead_35 : decode cX11_ahead 35 = .ok (.iconst 0, 1) := by decide +kernel
theorem dX11_ahead_36 : decode cX11_ahead 36 = .ok (.putfield 15, 3) := by decide +kernel
theorem dX11_ahead_39 : decode cX11_ahead 39 = .ok (.aload_n 0, 1) := by decide +kernel
theorem dX11_ahead_40 : decode cX11_ahead 40 = .ok (.aload_n 0, 1) := by decide +kernel
theorem dX11_ahead_41 : decode cX11_ahead 41 = .ok (.aload_n 0, 1) := by decide +kernel
theorem dX11_ahead_42 : decode cX11_ahead 42 = .ok (.getfield 50, 3) := by decide +kernel
theorem dX11_ahead_45 : decode cX11_ahead 45 = .ok (.bipush 39, 2) := by decide +kernel
theorem dX11_ahead_47 : decode cX11_ahead 47 = .ok (.iaload, 1) := by decide +kernel
theorem dX11_ahead_48 : decode cX11_ahead 48 = .ok (.invokevirtual 282, 3) := by decide +kernel
theorem dX11_ahead_51 : decode cX11_ahead 51 = .ok (.i2l, 1) := by decide +kernel
theorem dX11_ahead_52 : decode cX11_ahead 52 = .ok (.invokevirtual 18, 3) := by decide +kernel
theorem dX11_ahead_55 : decode cX11_ahead 55 = .ok (.aload_n 0, 1) := by decide +kernel
theorem dX11_ahead_56 : decode cX11_ahead 56 = .ok (.aload_n 0, 1) := by decide +kernel
theorem dX11_ahead_57 : decode cX11_ahead 57 = .ok (.aload_n 0, 1) := by decide +kernel
theorem dX11_ahead_58 : decode cX11_ahead 58 = .ok (.getfield 50, 3) := by decide +kernel
theorem dX11_ahead_61 : decode cX11_ahead 61 = .ok (.bipush 39, 2) := by decide +kernel
theorem dX11_ahead_63 : decode cX11_ahead 63 = .ok (.iaload, 1) := by decide +kernel
theorem dX11_ahead_64 : decode cX11_ahead 64 = .ok (.invokevirtual 285, 3) := by decide +kernel
theorem dX11_ahead_67 : decode cX11_ahead 67 = .ok (.i2l, 1) := by decide +kernel
theorem dX11_ahead_68 : decode cX11_ahead 68 = .ok (.invokevirtual 18, 3) := by decide +kernel
theorem dX11_ahead_71 : decode cX11_ahead 71 = .ok (.aload_n 0, 1) := by decide +kernel
theorem dX11_ahead_72 : decode cX11_ahead 72 = .ok (.aload_n 0, 1) := by decide +kernel
theorem dX11_ahead_73 : decode cX11_ahead 73 = .ok (.getfield 50, 3) := by decide +kernel
theorem dX11_ahead_76 : decode cX11_ahead 76 = .ok (.invokevirtual 336, 3) := by decide +kernel
theorem dX11_ahead_79 : decode cX11_ahead 79 = .ok (.ireturn, 1) := by decide +kernel
theorem s_X11_ahead {a1 : Int} {s0 : xW} {q : Int × xW} (h : F_X11_ahead a1 s0 = some q) : xC 7 0 0 mX11_ahead [vR 121, vI a1] 155 s0 (xRv (vI q.1) q.2) := by
  refine xC.of [vR 121, vI a1] (by decide +kernel) (Nat.le_of_ble_eq_true rfl) rfl ?_
  unfold F_X11_ahead at h
  refine g_aln dX11_ahead_0 rfl rfl (by decide) ?_
  refine g_ic dX11_ahead_1 ?_
  obtain ⟨s1, e2, h⟩ := xlt_e h
  refine h_putI 0 dX11_ahead_2 fl_X11_3 rfl rfl e2 ?_
  refine g_iln dX11_ahead_5 rfl rfl ?_
  refine g_wi2l dX11_ahead_6 rfl ?_
  refine g_lc dX11_ahead_7 (w := 0) rfl ?_
  refine g_ldc2 dX11_ahead_8 ct_X11_349 (w := 99) rfl ?_
  obtain ⟨r4, e3, h⟩ := xbp_e h
  refine g_cS3v dX11_ahead_11 ml_X11_132 (s_X11_in e3) (by decide) rfl ?_
  refine g_yne dX11_ahead_14 (tgt := 19) rfl rfl (fun q5 => ?_) (fun q5 => ?_)
  · replace h := xif_f q5 h
    refine g_aln dX11_ahead_19 rfl rfl (by decide) ?_
    obtain ⟨s7, e6, h⟩ := xbp_e h
    refine g_cV00 dX11_ahead_20 ml_X11_400 rfl (s_X11_copies e6) (by decide) rfl ?_
    refine g_aln dX11_ahead_23 rfl rfl (by decide) ?_
    refine g_getC 128 dX11_ahead_24 fl_X11_50 rfl (by decide) ?_
    refine g_bi dX11_ahead_27 (by decide) ?_
    refine g_dup2 dX11_ahead_29 rfl rfl ?_
    refine g_iald 40 dX11_ahead_30 rfl (by decide) (by decide) ?_
    refine g_iln dX11_ahead_31 rfl rfl ?_
    refine g_iadd dX11_ahead_32 ?_
    obtain ⟨s8, e9, h⟩ := xlt_e h
    refine h_iast 40 dX11_ahead_33 rfl (by decide) (by decide) e9 ?_
    refine g_aln dX11_ahead_34 rfl rfl (by decide) ?_
    refine g_ic dX11_ahead_35 ?_
    obtain ⟨s10, e11, h⟩ := xlt_e h
    refine h_putI 1 dX11_ahead_36 fl_X11_15 rfl rfl e11 ?_
    refine g_aln dX11_ahead_39 rfl rfl (by decide) ?_
    refine g_aln dX11_ahead_40 rfl rfl (by decide) ?_
    refine g_aln dX11_ahead_41 rfl rfl (by decide) ?_
    refine g_getC 128 dX11_ahead_42 fl_X11_50 rfl (by decide) ?_
    refine g_bi dX11_ahead_45 (by decide) ?_
    refine g_iald 40 dX11_ahead_47 rfl (by decide) (by decide) ?_
    obtain ⟨r13, e12, h⟩ := xbp_e h
    refine g_cV1v dX11_ahead_48 ml_X11_282 rfl (s_X11_dampOn e12) (by decide) rfl ?_
    refine g_wi2l dX11_ahead_51 rfl ?_
    obtain ⟨s15, e14, h⟩ := xbp_e h
    refine g_cV10 dX11_ahead_52 ml_X11_18 rfl (s_X11_enters e14) (by decide) rfl ?_
    refine g_aln dX11_ahead_55 rfl rfl (by decide) ?_
    refine g_aln dX11_ahead_56 rfl rfl (by decide) ?_
    refine g_aln dX11_ahead_57 rfl rfl (by decide) ?_
    refine g_getC 128 dX11_ahead_58 fl_X11_50 rfl (by decide) ?_
    refine g_bi dX11_ahead_61 (by decide) ?_
    refine g_iald 40 dX11_ahead_63 rfl (by decide) (by decide) ?_
    obtain ⟨r17, e16, h⟩ := xbp_e h
    refine g_cV1v dX11_ahead_64 ml_X11_285 rfl (s_X11_windOn e16) (by decide) rfl ?_
    refine g_wi2l dX11_ahead_67 rfl ?_
    obtain ⟨s19, e18, h⟩ := xbp_e h
    refine g_cV10 dX11_ahead_68 ml_X11_18 rfl (s_X11_enters e18) (by decide) rfl ?_
    refine g_aln dX11_ahead_71 rfl rfl (by decide) ?_
    refine g_aln dX11_ahead_72 rfl rfl (by decide) ?_
    refine g_getC 128 dX11_ahead_73 fl_X11_50 rfl (by decide) ?_
    obtain ⟨r21, s22, e20, h⟩ := xbd_e h
    refine g_cV1v dX11_ahead_76 ml_X11_336 rfl (s_X11_clashesOn e20) (by decide) rfl ?_
    exact g_rI rfl dX11_ahead_79 h
  · replace h := xif_t q5 h
    refine g_ic dX11_ahead_17 ?_
    exact g_rI rfl dX11_ahead_18 h
theorem dX11_apart_0 : decode cX11_apart 0 = .ok (.aload_n 0, 1) := by decide +kernel
theorem dX11_apart_1 : decode cX11_apart 1 = .ok (.iconst 0, 1) := by decide +kernel
theorem dX11_apart_2 : decode cX11_apart 2 = .ok (.putfield 3, 3) := by decide +kernel
theorem dX11_apart_5 : decode cX11_apart 5 = .ok (.iconst (-1), 1) := by decide +kernel
theorem dX11_apart_6 : decode cX11_apart 6 = .ok (.istore_n 1, 1) := by decide +kernel
theorem dX11_apart_7 : decode cX11_apart 7 = .ok (.iconst (-1), 1) := by decide +kernel
theorem dX11_apart_8 : decode cX11_apart 8 = .ok (.istore_n 2, 1) := by decide +kernel
theorem dX11_apart_9 : decode cX11_apart 9 = .ok (.iconst (-1), 1) := by decide +kernel
theorem dX11_apart_10 : decode cX11_apart 10 = .ok (.istore_n 3, 1) := by decide +kernel
theorem dX11_apart_11 : decode cX11_apart 11 = .ok (.iconst 0, 1) := by decide +kernel
theorem dX11_apart_12 : decode cX11_apart 12 = .ok (.istore 4, 2) := by decide +kernel
theorem dX11_apart_14 : decode cX11_apart 14 = .ok (.iload 4, 2) := by decide +kernel
theorem dX11_apart_16 : decode cX11_apart 16 = .ok (.aload_n 0, 1) := by decide +kernel
theorem dX11_apart_17 : decode cX11_apart 17 = .ok (.getfield 129, 3) := by decide +kernel
theorem dX11_apart_20 : decode cX11_apart 20 = .ok (.if_icmp .ge 71, 3) := by decide +kernel
theorem dX11_apart_23 : decode cX11_apart 23 = .ok (.iload 4, 2) := by decide +kernel
theorem dX11_apart_25 : decode cX11_apart 25 = .ok (.iconst 1, 1) := by decide +kernel
theorem dX11_apart_26 : decode cX11_apart 26 = .ok (.iadd, 1) := by decide +kernel
theorem dX11_apart_27 : decode cX11_apart 27 = .ok (.istore 5, 2) := by decide +kernel
theorem dX11_apart_29 : decode cX11_apart 29 = .ok (.iload 5, 2) := by decide +kernel
theorem dX11_apart_31 : decode cX11_apart 31 = .ok (.aload_n 0, 1) := by decide +kernel
theorem dX11_apart_32 : decode cX11_apart 32 = .ok (.getfield 129, 3) := by decide +kernel
theorem dX11_apart_35 : decode cX11_apart 35 = .ok (.if_icmp .ge 50, 3) := by decide +kernel
theorem dX11_apart_38 : decode cX11_apart 38 = .ok (.aload_n 0, 1) := by decide +kernel
theorem dX11_apart_39 : decode cX11_apart 39 = .ok (.getfield 47, 3) := by decide +kernel
theorem dX11_apart_42 : decode cX11_apart 42 = .ok (.bipush 16, 2) := by decide +kernel
theorem dX11_apart_44 : decode cX11_apart 44 = .ok (.iload 4, 2) := by decide +kernel
theorem dX11_apart_46 : decode cX11_apart 46 = .ok (.iadd, 1) := by decide +kernel
theorem dX11_apart_47 : decode cX11_apart 47 = .ok (.iaload, 1) := by decide +kernel
theorem dX11_apart_48 : decode cX11_apart 48 = .ok (.aload_n 0, 1) := by decide +kernel
theorem dX11_apart_49 : decode cX11_apart 49 = .ok (.getfield 47, 3) := by decide +kernel
theorem dX11_apart_52 : decode cX11_apart 52 = .ok (.bipush 16, 2) := by decide +kernel
theorem dX11_apart_54 : decode cX11_apart 54 = .ok (.iload 5, 2) := by decide +kernel
theorem dX11_apart_56 : decode cX11_apart 56 = .ok (.iadd, 1) := by decide +kernel
theorem dX11_apart_57 : decode cX11_apart 57 = .ok (.iaload, 1) := by decide +kernel
theorem dX11_apart_58 : decode cX11_apart 58 = .ok (.isub, 1) := by decide +kernel
theorem dX11_apart_59 : decode cX11_apart 59 = .ok (.invokestatic 269, 3) := by decide +kernel
theorem dX11_apart_62 : decode cX11_apart 62 = .ok (.istore 6, 2) := by decide +kernel
theorem dX11_apart_64 : decode cX11_apart 64 = .ok (.iload 6, 2) := by decide +kernel
theorem dX11_apart_66 : decode cX11_apart 66 = .ok (.iload_n 3, 1) := by decide +kernel
theorem dX11_apart_67 : decode cX11_apart 67 = .ok (.if_icmp .le 12, 3) := by decide +kernel
theorem dX11_apart_70 : decode cX11_apart 70 = .ok (.iload 6, 2) := by decide +kernel
theorem dX11_apart_72 : decode cX11_apart 72 = .ok (.istore_n 3, 1) := by decide +kernel
theorem dX11_apart_73 : decode cX11_apart 73 = .ok (.iload 4, 2) := by decide +kernel
theorem dX11_apart_75 : decode cX11_apart 75 = .ok (.istore_n 1, 1) := by decide +kernel
theorem dX11_apart_76 : decode cX11_apart 76 = .ok (.iload 5, 2) := by decide +kernel
theorem dX11_apart_78 : decode cX11_apart 78 = .ok (.istore_n 2, 1) := by decide +kernel
theorem dX11_apart_79 : decode cX11_apart 79 = .ok (.iinc 5 1, 3) := by decide +kernel
theorem dX11_apart_82 : decode cX11_apart 82 = .ok (.goto (-53), 3) := by decide +kernel
theorem dX11_apart_85 : decode cX11_apart 85 = .ok (.iinc 4 1, 3) := by decide +kernel
theorem dX11_apart_88 : decode cX11_apart 88 = .ok (.goto (-74), 3) := by decide +kernel
theorem dX11_apart_91 : decode cX11_apart 91 = .ok (.iload_n 1, 1) := by decide +kernel
theorem dX11_apart_92 : decode cX11_apart 92 = .ok (.ifCond .ge 6, 3) := by decide +kernel
theorem dX11_apart_95 : decode cX11_apart 95 = .ok (.bipush (-2), 2) := by decide +kernel
theorem dX11_apart_97 : decode cX11_apart 97 = .ok (.ireturn, 1) := by decide +kernel
theorem dX11_apart_98 : decode cX11_apart 98 = .ok (.aload_n 0, 1) := by decide +kernel
theorem dX11_apart_99 : decode cX11_apart 99 = .ok (.iconst 0, 1) := by decide +kernel
theorem dX11_apart_100 : decode cX11_apart 100 = .ok (.putfield 15, 3) := by decide +kernel
theorem dX11_apart_103 : decode cX11_apart 103 = .ok (.aload_n 0, 1) := by decide +kernel
theorem dX11_apart_104 : decode cX11_apart 104 = .ok (.iload_n 1, 1) := by decide +kernel
theorem dX11_apart_105 : decode cX11_apart 105 = .ok (.i2l, 1) := by decide +kernel
theorem dX11_apart_106 : decode cX11_apart 106 = .ok (.invokevirtual 18, 3) := by decide +kernel
theorem dX11_apart_109 : decode cX11_apart 109 = .ok (.aload_n 0, 1) := by decide +kernel
theorem dX11_apart_110 : decode cX11_apart 110 = .ok (.iload_n 2, 1) := by decide +kernel
theorem dX11_apart_111 : decode cX11_apart 111 = .ok (.i2l, 1) := by decide +kernel
theorem dX11_apart_112 : decode cX11_apart 112 = .ok (.invokevirtual 18, 3) := by decide +kernel
theorem dX11_apart_115 : decode cX11_apart 115 = .ok (.iload_n 3, 1) := by decide +kernel
theorem dX11_apart_116 : decode cX11_apart 116 = .ok (.ireturn, 1) := by decide +kernel
theorem s_X11_apart_29 {s14 : xW} {l4_12 : Int} {q : Int × xW} {k : Int → Int → Int → Int → Option (Int × xW)} (hk : ∀ (l1_25 : Int) (l2_26 : Int) (l3_27 : Int) (l5_28 : Int), k l1_25 l2_26 l3_27 l5_28 = some q → xG 1 0 0 mX11_apart 85 [vR 121, vI l1_25, vI l2_26, vI l3_27, vI l4_12, vI l5_28, vX] [] 155 s14 (xRv (vI q.1) q.2)) : ∀ (f : Nat) (l1_9 : Int) (l2_10 : Int) (l3_11 : Int) (l5_13 : Int), F_X11_apart_29 l4_12 s14 f l1_9 l2_10 l3_11 l5_13 k = some q → xG 1 0 0 mX11_apart 29 [vR 121, vI l1_9, vI l2_10, vI l3_11, vI l4_12, vI l5_13, vX] [] 155 s14 (xRv (vI q.1) q.2) := by
  intro f
  induction f with
  | zero => intro l1_9 l2_10 l3_11 l5_13 h; cases h
  | succ f ih =>
    intro l1_9 l2_10 l3_11 l5_13 h
    unfold F_X11_apart_29 at h
    refine g_il dX11_apart_29 rfl ?_
    refine g_aln dX11_apart_31 rfl rfl (by decide) ?_
    refine g_getI 3 dX11_apart_32 fl_X11_129 rfl rfl ?_
    refine g_wge dX11_apart_35 (tgt := 85) rfl rfl rfl (fun q15 => ?_) (fun q15 => ?_)
    · replace h := xif_f q15 h
      exact hk l1_9 l2_10 l3_11 l5_13 h
    · replace h := xif_t q15 h
      refine g_aln dX11_apart_38 rfl rfl (by decide) ?_
      refine g_getC 127 dX11_apart_39 fl_X11_47 rfl (by decide) ?_
      refine g_bi dX11_apart_42 (by decide) ?_
      refine g_il dX11_apart_44 rfl ?_
      refine g_iadd dX11_apart_46 ?_
      obtain ⟨hg16, h⟩ := xgd_e h
      refine g_iald 40 dX11_apart_47 rfl hg16 (by decide) ?_
      refine g_aln dX11_apart_48 rfl rfl (by decide) ?_
      refine g_getC 127 dX11_apart_49 fl_X11_47 rfl (by decide) ?_
      refine g_bi dX11_apart_52 (by decide) ?_
      refine g_il dX11_apart_54 rfl ?_
      refine g_iadd dX11_apart_56 ?_
      obtain ⟨hg17, h⟩ := xgd_e h
      refine g_iald 40 dX11_apart_57 rfl hg17 (by decide) ?_
      refine g_isub dX11_apart_58 ?_
      refine g_wabs dX11_apart_59 mx_X11_269 rfl (by decide) rfl ?_
      refine g_ist_6 dX11_apart_62 (by decide) rfl ?_
      refine g_il dX11_apart_64 rfl ?_
      refine g_iln dX11_apart_66 rfl rfl ?_
      obtain ⟨j21, ej22, h⟩ := xjn_e h
      have hj23 : ∀ (l1_18 : Int) (l2_19 : Int) (l3_20 : Int), j21 l1_18 l2_19 l3_20 = some q → xG 1 0 0 mX11_apart 79 [vR 121, vI l1_18, vI l2_19, vI l3_20, vI l4_12, vI l5_13, vX] [] 155 s14 (xRv (vI q.1) q.2) := by
        intro l1_18 l2_19 l3_20 h
        rw [ej22] at h
        refine g_inc_5 dX11_apart_79 (by decide) rfl ?_
        refine g_goto dX11_apart_82 (tgt := 29) rfl ?_
        exact ih l1_18 l2_19 l3_20 (l5_13 + 1) h
      clear ej22
      refine g_wle dX11_apart_67 (tgt := 79) rfl rfl rfl (fun q24 => ?_) (fun q24 => ?_)
      · replace h := xif_f q24 h
        refine g_drop_6 ?_
        exact hj23 l1_9 l2_10 l3_11 h
      · replace h := xif_t q24 h
        refine g_il dX11_apart_70 rfl ?_
        refine g_istn_3 dX11_apart_72 (by decide) rfl ?_
        refine g_il dX11_apart_73 rfl ?_
        refine g_istn_1 dX11_apart_75 (by decide) rfl ?_
        refine g_il dX11_apart_76 rfl ?_
        refine g_istn_2 dX11_apart_78 (by decide) rfl ?_
        refine g_drop_6 ?_
        exact hj23 l4_12 l5_13 (xab (xw ((s14 127 (16 + l4_12)) - (s14 127 (16 + l5_13))))) h
theorem s_X11_apart_14 {s7 : xW} {q : Int × xW} {k : Int → Int → Int → Int → Option (Int × xW)} (hk : ∀ (l1_33 : Int) (l2_34 : Int) (l3_35 : Int) (l4_36 : Int), k l1_33 l2_34 l3_35 l4_36 = some q → xG 1 0 0 mX11_apart 91 [vR 121, vI l1_33, vI l2_34, vI l3_35, vI l4_36, vX, vX] [] 155 s7 (xRv (vI q.1) q.2)) : ∀ (f : Nat) (l1_3 : Int) (l2_4 : Int) (l3_5 : Int) (l4_6 : Int), F_X11_apart_14 s7 f l1_3 l2_4 l3_5 l4_6 k = some q → xG 1 0 0 mX11_apart 14 [vR 121, vI l1_3, vI l2_4, vI l3_5, vI l4_6, vX, vX] [] 155 s7 (xRv (vI q.1) q.2) := by
  intro f
  induction f with
  | zero => intro l1_3 l2_4 l3_5 l4_6 h; cases h
  | succ f ih =>
    intro l1_3 l2_4 l3_5 l4_6 h
    unfold F_X11_apart_14 at h
    refine g_il dX11_apart_14 rfl ?_
    refine g_aln dX11_apart_16 rfl rfl (by decide) ?_
    refine g_getI 3 dX11_apart_17 fl_X11_129 rfl rfl ?_
    refine g_wge dX11_apart_20 (tgt := 91) rfl rfl rfl (fun q8 => ?_) (fun q8 => ?_)
    · replace h := xif_f q8 h
      exact hk l1_3 l2_4 l3_5 l4_6 h
    · replace h := xif_t q8 h
      refine g_il dX11_apart_23 rfl ?_
      refine g_ic dX11_apart_25 ?_
      refine g_iadd dX11_apart_26 ?_
      refine g_ist_5 dX11_apart_27 (by decide) rfl ?_
      refine s_X11_apart_29 (fun l1_29 l2_30 l3_31 l5_32 h => ?_) xN _ _ _ _ h
      refine g_inc_4 dX11_apart_85 (by decide) rfl ?_
      refine g_goto dX11_apart_88 (tgt := 14) rfl ?_
      refine g_drop_5 ?_
      exact ih l1_29 l2_30 l3_31 (l4_6 + 1) h
theorem s_X11_apart {s0 : xW} {q : Int × xW} (h : F_X11_apart  s0 = some q) : xC 1 0 0 mX11_apart [vR 121] 155 s0 (xRv (vI q.1) q.2) := by
  refine xC.of [vR 121, vX, vX, vX, vX, vX, vX] (by decide +kernel) (Nat.le_of_ble_eq_true rfl) rfl ?_
  unfold F_X11_apart at h
  refine g_aln dX11_apart_0 rfl rfl (by decide) ?_
  refine g_ic dX11_apart_1 ?_
  obtain ⟨s1, e2, h⟩ := xlt_e h
  refine h_putI 0 dX11_apart_2 fl_X11_3 rfl rfl e2 ?_
  refine g_ic dX11_apart_5 ?_
  refine g_istn_1 dX11_apart_6 (by decide) rfl ?_
  refine g_ic dX11_apart_7 ?_
  refine g_istn_2 dX11_apart_8 (by decide) rfl ?_
  refine g_ic dX11_apart_9 ?_
  refine g_istn_3 dX11_apart_10 (by decide) rfl ?_
  refine g_ic dX11_apart_11 ?_
  refine g_ist_4 dX11_apart_12 (by decide) rfl ?_
  refine s_X11_apart_14 (fun l1_37 l2_38 l3_39 l4_40 h => ?_) xN _ _ _ _ h
  refine g_iln dX11_apart_91 rfl rfl ?_
  refine g_yge dX11_apart_92 (tgt := 98) rfl rfl (fun q41 => ?_) (fun q41 => ?_)
  · replace h := xif_f q41 h
    refine g_aln dX11_apart_98 rfl rfl (by decide) ?_
    refine g_ic dX11_apart_99 ?_
    obtain ⟨s42, e43, h⟩ := xlt_e h
    refine h_putI 1 dX11_apart_100 fl_X11_15 rfl rfl e43 ?_
    refine g_aln dX11_apart_103 rfl rfl (by decide) ?_
    refine g_iln dX11_apart_104 rfl rfl ?_
    refine g_wi2l dX11_apart_105 rfl ?_
    obtain ⟨s45, e44, h⟩ := xbp_e h
    refine g_cV10 dX11_apart_106 ml_X11_18 rfl (s_X11_enters e44) (by decide) rfl ?_
    refine g_aln dX11_apart_109 rfl rfl (by decide) ?_
    refine g_iln dX11_apart_110 rfl rfl ?_
    refine g_wi2l dX11_apart_111 rfl ?_
    obtain ⟨s47, e46, h⟩ := xbp_e h
    refine g_cV10 dX11_apart_112 ml_X11_18 rfl (s_X11_enters e46) (by decide) rfl ?_
    refine g_iln dX11_apart_115 rfl rfl ?_
    exact g_rI rfl dX11_apart_116 h
  · replace h := xif_t q41 h
    refine g_bi dX11_apart_95 (by decide) ?_
    exact g_rI rfl dX11_apart_97 h
theorem dX11_isSo_0 : decode cX11_isSo 0 = .ok (.iconst 1, 1) := by decide +kernel
theorem dX11_isSo_1 : decode cX11_isSo 1 = .ok (.istore_n 2, 1) := by decide +kernel
theorem dX11_isSo_2 : decode cX11_isSo 2 = .ok (.iconst 0, 1) := by decide +kernel
theorem dX11_isSo_3 : decode cX11_isSo 3 = .ok (.istore_n 3, 1) := by decide +kernel
theorem dX11_isSo_4 : decode cX11_isSo 4 = .ok (.iload_n 3, 1) := by decide +kernel
theorem dX11_isSo_5 : decode cX11_isSo 5 = .ok (.aload_n 0, 1) := by decide +kernel
theorem dX11_isSo_6 : decode cX11_isSo 6 = .ok (.getfield 425, 3) := by decide +kernel
theorem dX11_isSo_9 : decode cX11_isSo 9 = .ok (.if_icmp .ge 51, 3) := by decide +kernel
theorem dX11_isSo_12 : decode cX11_isSo 12 = .ok (.iload_n 2, 1) := by decide +kernel
theorem dX11_isSo_13 : decode cX11_isSo 13 = .ok (.ifCond .eq 39, 3) := by decide +kernel
theorem dX11_isSo_16 : decode cX11_isSo 16 = .ok (.aload_n 0, 1) := by decide +kernel
theorem dX11_isSo_17 : decode cX11_isSo 17 = .ok (.aload_n 0, 1) := by decide +kernel
theorem dX11_isSo_18 : decode cX11_isSo 18 = .ok (.getfield 47, 3) := by decide +kernel
theorem dX11_isSo_21 : decode cX11_isSo 21 = .ok (.aload_n 0, 1) := by decide +kernel
theorem dX11_isSo_22 : decode cX11_isSo 22 = .ok (.getfield 104, 3) := by decide +kernel
theorem dX11_isSo_25 : decode cX11_isSo 25 = .ok (.iload_n 3, 1) := by decide +kernel
theorem dX11_isSo_26 : decode cX11_isSo 26 = .ok (.iaload, 1) := by decide +kernel
theorem dX11_isSo_27 : decode cX11_isSo 27 = .ok (.iconst 0, 1) := by decide +kernel
theorem dX11_isSo_28 : decode cX11_isSo 28 = .ok (.iload_n 1, 1) := by decide +kernel
theorem dX11_isSo_29 : decode cX11_isSo 29 = .ok (.bipush 10, 2) := by decide +kernel
theorem dX11_isSo_31 : decode cX11_isSo 31 = .ok (.idiv, 1) := by decide +kernel
theorem dX11_isSo_32 : decode cX11_isSo 32 = .ok (.iload_n 1, 1) := by decide +kernel
theorem dX11_isSo_33 : decode cX11_isSo 33 = .ok (.bipush 10, 2) := by decide +kernel
theorem dX11_isSo_35 : decode cX11_isSo 35 = .ok (.irem, 1) := by decide +kernel
theorem dX11_isSo_36 : decode cX11_isSo 36 = .ok (.invokevirtual 288, 3) := by decide +kernel
theorem dX11_isSo_39 : decode cX11_isSo 39 = .ok (.aload_n 0, 1) := by decide +kernel
theorem dX11_isSo_40 : decode cX11_isSo 40 = .ok (.getfield 107, 3) := by decide +kernel
theorem dX11_isSo_43 : decode cX11_isSo 43 = .ok (.iload_n 3, 1) := by decide +kernel
theorem dX11_isSo_44 : decode cX11_isSo 44 = .ok (.iaload, 1) := by decide +kernel
theorem dX11_isSo_45 : decode cX11_isSo 45 = .ok (.if_icmp .ne 7, 3) := by decide +kernel
theorem dX11_isSo_48 : decode cX11_isSo 48 = .ok (.iconst 1, 1) := by decide +kernel
theorem dX11_isSo_49 : decode cX11_isSo 49 = .ok (.goto 4, 3) := by decide +kernel
theorem dX11_isSo_52 : decode cX11_isSo 52 = .ok (.iconst 0, 1) := by decide +kernel
theorem dX11_isSo_53 : decode cX11_isSo 53 = .ok (.istore_n 2, 1) := by decide +kernel
theorem dX11_isSo_54 : decode cX11_isSo 54 = .ok (.iinc 3 1, 3) := by decide +kernel
theorem dX11_isSo_57 : decode cX11_isSo 57 = .ok (.goto (-53), 3) := by decide +kernel
theorem dX11_isSo_60 : decode cX11_isSo 60 = .ok (.iload_n 2, 1) := by decide +kernel
theorem dX11_isSo_61 : decode cX11_isSo 61 = .ok (.ireturn, 1) := by decide +kernel
theorem s_X11_isSo_4 {l1_1 : Int} {q : Int × xW} {k : Int → Int → xW → Option (Int × xW)} (hk : ∀ (l2_22 : Int) (l3_23 : Int) (s24 : xW), k l2_22 l3_23 s24 = some q → xG 4 0 0 mX11_isSo 60 [vR 121, vI l1_1, vI l2_22, vI l3_23] [] 155 s24 (xRv (vI q.1) q.2)) : ∀ (f : Nat) (l2_2 : Int) (l3_3 : Int) (s4 : xW), F_X11_isSo_4 l1_1 f l2_2 l3_3 s4 k = some q → xG 4 0 0 mX11_isSo 4 [vR 121, vI l1_1, vI l2_2, vI l3_3] [] 155 s4 (xRv (vI q.1) q.2) := by
  intro f
  induction f with
  | zero => intro l2_2 l3_3 s4 h; cases h
  | succ f ih =>
    intro l2_2 l3_3 s4 h
    unfold F_X11_isSo_4 at h
    refine g_iln dX11_isSo_4 rfl rfl ?_
    refine g_aln dX11_isSo_5 rfl rfl (by decide) ?_
    refine g_getI 42 dX11_isSo_6 fl_X11_425 rfl rfl ?_
    refine g_wge dX11_isSo_9 (tgt := 60) rfl rfl rfl (fun q5 => ?_) (fun q5 => ?_)
    · replace h := xif_f q5 h
      exact hk l2_2 l3_3 s4 h
    · replace h := xif_t q5 h
      refine g_iln dX11_isSo_12 rfl rfl ?_
      obtain ⟨j8, ej9, h⟩ := xjn_e h
      have hj10 : ∀ (t6 : Int) (s7 : xW), j8 t6 s7 = some q → xG 4 0 0 mX11_isSo 53 [vR 121, vI l1_1, vX, vI l3_3] [vI t6] 155 s7 (xRv (vI q.1) q.2) := by
        intro t6 s7 h
        rw [ej9] at h
        refine g_istn_2 dX11_isSo_53 (by decide) rfl ?_
        refine g_inc_3 dX11_isSo_54 (by decide) rfl ?_
        refine g_goto dX11_isSo_57 (tgt := 4) rfl ?_
        exact ih t6 (l3_3 + 1) s7 h
      clear ej9
      obtain ⟨j12, ej13, h⟩ := xjn_e h
      have hj14 : ∀ (s11 : xW), j12 s11 = some q → xG 4 0 0 mX11_isSo 52 [vR 121, vI l1_1, vX, vI l3_3] [] 155 s11 (xRv (vI q.1) q.2) := by
        intro s11 h
        rw [ej13] at h
        refine g_ic dX11_isSo_52 ?_
        exact hj10 0 s11 h
      clear ej13
      refine g_yeq dX11_isSo_13 (tgt := 52) rfl rfl (fun q15 => ?_) (fun q15 => ?_)
      · replace h := xif_f q15 h
        refine g_drop_2 ?_
        exact hj14 s4 h
      · replace h := xif_t q15 h
        refine g_aln dX11_isSo_16 rfl rfl (by decide) ?_
        refine g_aln dX11_isSo_17 rfl rfl (by decide) ?_
        refine g_getC 127 dX11_isSo_18 fl_X11_47 rfl (by decide) ?_
        refine g_aln dX11_isSo_21 rfl rfl (by decide) ?_
        refine g_getC 146 dX11_isSo_22 fl_X11_104 rfl (by decide) ?_
        refine g_iln dX11_isSo_25 rfl rfl ?_
        obtain ⟨hg16, h⟩ := xgd_e h
        refine g_iald 10 dX11_isSo_26 rfl hg16 (by decide) ?_
        refine g_ic dX11_isSo_27 ?_
        refine g_iln dX11_isSo_28 rfl rfl ?_
        refine g_bi dX11_isSo_29 (by decide) ?_
        refine g_wdiv dX11_isSo_31 rfl (xw_id (by decide)) (by decide) ?_
        refine g_iln dX11_isSo_32 rfl rfl ?_
        refine g_bi dX11_isSo_33 (by decide) ?_
        refine g_wrem dX11_isSo_35 rfl (xw_id (by decide)) (by decide) ?_
        obtain ⟨r18, s19, e17, h⟩ := xbd_e h
        refine g_cV5v dX11_isSo_36 ml_X11_288 rfl (s_X11_hearsBy e17) (by decide) rfl ?_
        refine g_aln dX11_isSo_39 rfl rfl (by decide) ?_
        refine g_getC 147 dX11_isSo_40 fl_X11_107 rfl (by decide) ?_
        refine g_iln dX11_isSo_43 rfl rfl ?_
        obtain ⟨hg20, h⟩ := xgd_e h
        refine g_iald 10 dX11_isSo_44 rfl hg20 (by decide) ?_
        refine g_wne dX11_isSo_45 (tgt := 52) rfl rfl rfl (fun q21 => ?_) (fun q21 => ?_)
        · replace h := xif_f q21 h
          refine g_drop_2 ?_
          exact hj14 s19 h
        · replace h := xif_t q21 h
          refine g_ic dX11_isSo_48 ?_
          refine g_goto dX11_isSo_49 (tgt := 53) rfl ?_
          refine g_drop_2 ?_
          exact hj10 1 s19 h
theorem s_X11_isSo {a1 : Int} {s0 : xW} {q : Int × xW} (h : F_X11_isSo a1 s0 = some q) : xC 4 0 0 mX11_isSo [vR 121, vI a1] 155 s0 (xRv (vI q.1) q.2) := by
  refine xC.of [vR 121, vI a1, vX, vX] (by decide +kernel) (Nat.le_of_ble_eq_true rfl) rfl ?_
  unfold F_X11_isSo at h
  refine g_ic dX11_isSo_0 ?_
  refine g_istn_2 dX11_isSo_1 (by decide) rfl ?_
  refine g_ic dX11_isSo_2 ?_
  refine g_istn_3 dX11_isSo_3 (by decide) rfl ?_
  refine s_X11_isSo_4 (fun l2_25 l3_26 s27 h => ?_) xN _ _ _ h
  refine g_iln dX11_isSo_60 rfl rfl ?_
  obtain ⟨hg28, h⟩ := xgd_e h
  exact g_rZ rfl dX11_isSo_61 hg28 h
theorem dX11_asks_0 : decode cX11_asks 0 = .ok (.aload_n 0, 1) := by decide +kernel
theorem dX11_asks_1 : decode cX11_asks 1 = .ok (.iconst 0, 1) := by decide +kernel
theorem dX11_asks_2 : decode cX11_asks 2 = .ok (.putfield 3, 3) := by decide +kernel
theorem dX11_asks_5 : decode cX11_asks 5 = .ok (.bipush (-2), 2) := by decide +kernel
theorem dX11_asks_7 : decode cX11_asks 7 = .ok (.istore_n 1, 1) := by decide +kernel
theorem dX11_asks_8 : decode cX11_asks 8 = .ok (.ldc_w 419, 3) := by decide +kernel
theorem dX11_asks_11 : decode cX11_asks 11 = .ok (.istore_n 2, 1) := by decide +kernel
theorem dX11_asks_12 : decode cX11_asks 12 = .ok (.iconst 0, 1) := by decide +kernel
theorem dX11_asks_13 : decode cX11_asks 13 = .ok (.istore_n 3, 1) := by decide +kernel
theorem dX11_asks_14 : decode cX11_asks 14 = .ok (.iload_n 3, 1) := by decide +kernel
theorem dX11_asks_15 : decode cX11_asks 15 = .ok (.aload_n 0, 1) := by decide +kernel
theorem dX11_asks_16 : decode cX11_asks 16 = .ok (.getfield 129, 3) := by decide +kernel
theorem dX11_asks_19 : decode cX11_asks 19 = .ok (.if_icmp .ge 142, 3) := by decide +kernel
theorem dX11_asks_22 : decode cX11_asks 22 = .ok (.iconst 0, 1) := by decide +kernel
theorem dX11_asks_23 : decode cX11_asks 23 = .ok (.istore 4, 2) := by decide +kernel
theorem dX11_asks_25 : decode cX11_asks 25 = .ok (.iconst 0, 1) := by decide +kernel
theorem dX11_asks_26 : decode cX11_asks 26 = .ok (.istore 5, 2) := by decide +kernel
theorem dX11_asks_28 : decode cX11_asks 28 = .ok (.iload 5, 2) := by decide +kernel
theorem dX11_asks_30 : decode cX11_asks 30 = .ok (.sipush 220, 3) := by decide +kernel
theorem dX11_asks_33 : decode cX11_asks 33 = .ok (.if_icmp .ge 17, 3) := by decide +kernel
theorem dX11_asks_36 : decode cX11_asks 36 = .ok (.aload_n 0, 1) := by decide +kernel
theorem dX11_asks_37 : decode cX11_asks 37 = .ok (.getfield 92, 3) := by decide +kernel
theorem dX11_asks_40 : decode cX11_asks 40 = .ok (.iload 5, 2) := by decide +kernel
theorem dX11_asks_42 : decode cX11_asks 42 = .ok (.iconst 0, 1) := by decide +kernel
theorem dX11_asks_43 : decode cX11_asks 43 = .ok (.iastore, 1) := by decide +kernel
theorem dX11_asks_44 : decode cX11_asks 44 = .ok (.iinc 5 1, 3) := by decide +kernel
theorem dX11_asks_47 : decode cX11_asks 47 = .ok (.goto (-19), 3) := by decide +kernel
theorem dX11_asks_50 : decode cX11_asks 50 = .ok (.iconst 0, 1) := by decide +kernel
theorem dX11_asks_51 : decode cX11_asks 51 = .ok (.istore 5, 2) := by decide +kernel
theorem dX11_asks_53 : decode cX11_asks 53 = .ok (.iload 5, 2) := by decide +kernel
theorem dX11_asks_55 : decode cX11_asks 55 = .ok (.bipush 100, 2) := by decide +kernel
theorem dX11_asks_57 : decode cX11_asks 57 = .ok (.if_icmp .ge 65, 3) := by decide +kernel
theorem dX11_asks_60 : decode cX11_asks 60 = .ok (.aload_n 0, 1) := by decide +kernel
theorem dX11_asks_61 : decode cX11_asks 61 = .ok (.iload 5, 2) := by decide +kernel
theorem dX11_asks_63 : decode cX11_asks 63 = .ok (.invokevirtual 428, 3) := by decide +kernel
theorem dX11_asks_66 : decode cX11_asks 66 = .ok (.ifCond .eq 50, 3) := by decide +kernel
theorem dX11_asks_69 : decode cX11_asks 69 = .ok (.aload_n 0, 1) := by decide +kernel
theorem dX11_asks_70 : decode cX11_asks 70 = .ok (.aload_n 0, 1) := by decide +kernel
theorem dX11_asks_71 : decode cX11_asks 71 = .ok (.getfield 47, 3) := by decide +kernel
theorem dX11_asks_74 : decode cX11_asks 74 = .ok (.iload_n 3, 1) := by decide +kernel
theorem dX11_asks_75 : decode cX11_asks 75 = .ok (.iconst 0, 1) := by decide +kernel
theorem dX11_asks_76 : decode cX11_asks 76 = .ok (.iload 5, 2) := by decide +kernel
theorem dX11_asks_78 : decode cX11_asks 78 = .ok (.bipush 10, 2) := by decide +kernel
theorem dX11_asks_80 : decode cX11_asks 80 = .ok (.idiv, 1) := by decide +kernel
theorem dX11_asks_81 : decode cX11_asks 81 = .ok (.iload 5, 2) := by decide +kernel
theorem dX11_asks_83 : decode cX11_asks 83 = .ok (.bipush 10, 2) := by decide +kernel
theorem dX11_asks_85 : decode cX11_asks 85 = .ok (.irem, 1) := by decide +kernel
theorem dX11_asks_86 : decode cX11_asks 86 = .ok (.invokevirtual 288, 3) := by decide +kernel
theorem dX11_asks_89 : decode cX11_asks 89 = .ok (.istore 6, 2) := by decide +kernel
theorem dX11_asks_91 : decode cX11_asks 91 = .ok (.aload_n 0, 1) := by decide +kernel
theorem dX11_asks_92 : decode cX11_asks 92 = .ok (.getfield 92, 3) := by decide +kernel
theorem dX11_asks_95 : decode cX11_asks 95 = .ok (.iload 6, 2) := by decide +kernel
theorem dX11_asks_97 : decode cX11_asks 97 = .ok (.dup2, 1) := by decide +kernel
theorem dX11_asks_98 : decode cX11_asks 98 = .ok (.iaload, 1) := by decide +kernel
theorem dX11_asks_99 : decode cX11_asks 99 = .ok (.iconst 1, 1) := by decide +kernel
theorem dX11_asks_100 : decode cX11_asks 100 = .ok (.iadd, 1) := by decide +kernel
theorem dX11_asks_101 : decode cX11_asks 101 = .ok (.iastore, 1) := by decide +kernel
theorem dX11_asks_102 : decode cX11_asks 102 = .ok (.iload 4, 2) := by decide +kernel
theorem dX11_asks_104 : decode cX11_asks 104 = .ok (.aload_n 0, 1) := by decide +kernel
theorem dX11_asks_105 : decode cX11_asks 105 = .ok (.getfield 92, 3) := by decide +kernel
theorem dX11_asks_108 : decode cX11_asks 108 = .ok (.iload 6, 2) := by decide +kernel
theorem dX11_asks_110 : decode cX11_asks 110 = .ok (.iaload, 1) := by decide +kernel
theorem dX11_asks_111 : decode cX11_asks 111 = .ok (.invokestatic 279, 3) := by decide +kernel
theorem dX11_asks_114 : decode cX11_asks 114 = .ok (.istore 4, 2) := by decide +kernel
theorem dX11_asks_116 : decode cX11_asks 116 = .ok (.iinc 5 1, 3) := by decide +kernel
theorem dX11_asks_119 : decode cX11_asks 119 = .ok (.goto (-66), 3) := by decide +kernel
theorem dX11_asks_122 : decode cX11_asks 122 = .ok (.iload 4, 2) := by decide +kernel
theorem dX11_asks_124 : decode cX11_asks 124 = .ok (.ifCond .le 13, 3) := by decide +kernel
theorem dX11_asks_127 : decode cX11_asks 127 = .ok (.iload 4, 2) := by decide +kernel
theorem dX11_asks_129 : decode cX11_asks 129 = .ok (.iload_n 2, 1) := by decide +kernel
theorem dX11_asks_130 : decode cX11_asks 130 = .ok (.if_icmp .ge 7, 3) := by decide +kernel
theorem dX11_asks_133 : decode cX11_asks 133 = .ok (.iload_n 3, 1) := by decide +kernel
theorem dX11_asks_134 : decode cX11_asks 134 = .ok (.goto 4, 3) := by decide +kernel
theorem dX11_asks_137 : decode cX11_asks 137 = .ok (.iload_n 1, 1) := by decide +kernel
theorem dX11_asks_138 : decode cX11_asks 138 = .ok (.istore_n 1, 1) := by decide +kernel
theorem dX11_asks_139 : decode cX11_asks 139 = .ok (.iload 4, 2) := by decide +kernel
theorem dX11_asks_141 : decode cX11_asks 141 = .ok (.ifCond .le 12, 3) := by decide +kernel
theorem dX11_asks_144 : decode cX11_asks 144 = .ok (.iload_n 2, 1) := by decide +kernel
theorem dX11_asks_145 : decode cX11_asks 145 = .ok (.iload 4, 2) := by decide +kernel
theorem dX11_asks_147 : decode cX11_asks 147 = .ok (.invokestatic 150, 3) := by decide +kernel
theorem dX11_asks_150 : decode cX11_asks 150 = .ok (.goto 4, 3) := by decide +kernel
theorem dX11_asks_153 : decode cX11_asks 153 = .ok (.iload_n 2, 1) := by decide +kernel
theorem dX11_asks_154 : decode cX11_asks 154 = .ok (.istore_n 2, 1) := by decide +kernel
theorem dX11_asks_155 : decode cX11_asks 155 = .ok (.iinc 3 1, 3) := by decide +kernel
theorem dX11_asks_158 : decode cX11_asks 158 = .ok (.goto (-144), 3) := by decide +kernel
theorem dX11_asks_161 : decode cX11_asks 161 = .ok (.iload_n 1, 1) := by decide +kernel
theorem dX11_asks_162 : decode cX11_asks 162 = .ok (.ifCond .lt 14, 3) := by decide +kernel
theorem dX11_asks_165 : decode cX11_asks 165 = .ok (.aload_n 0, 1) := by decide +kernel
theorem dX11_asks_166 : decode cX11_asks 166 = .ok (.iconst 0, 1) := by decide +kernel
theorem dX11_asks_167 : decode cX11_asks 167 = .ok (.putfield 15, 3) := by decide +kernel
theorem dX11_asks_170 : decode cX11_asks 170 = .ok (.aload_n 0, 1) := by decide +kernel
theorem dX11_asks_171 : decode cX11_asks 171 = .ok (.iload_n 2, 1) := by decide +kernel
theorem dX11_asks_172 : decode cX11_asks 172 = .ok (.i2l, 1) := by decide +kernel
theorem dX11_asks_173 : decode cX11_asks 173 = .ok (.invokevirtual 18, 3) := by decide +kernel
theorem dX11_asks_176 : decode cX11_asks 176 = .ok (.iload_n 1, 1) := by decide +kernel
theorem dX11_asks_177 : decode cX11_asks 177 = .ok (.ireturn, 1) := by decide +kernel
theorem s_X11_asks_28 {l1_8 l2_9 l3_10 l4_11 : Int} {q : Int × xW} {k : Int → xW → Option (Int × xW)} (hk : ∀ (l5_18 : Int) (s19 : xW), k l5_18 s19 = some q → xG 5 0 0 mX11_asks 50 [vR 121, vI l1_8, vI l2_9, vI l3_10, vI l4_11, vI l5_18, vX] [] 155 s19 (xRv (vI q.1) q.2)) : ∀ (f : Nat) (l5_12 : Int) (s13 : xW), F_X11_asks_28 l1_8 l2_9 l3_10 l4_11 f l5_12 s13 k = some q → xG 5 0 0 mX11_asks 28 [vR 121, vI l1_8, vI l2_9, vI l3_10, vI l4_11, vI l5_12, vX] [] 155 s13 (xRv (vI q.1) q.2) := by
  intro f
  induction f with
  | zero => intro l5_12 s13 h; cases h
  | succ f ih =>
    intro l5_12 s13 h
    unfold F_X11_asks_28 at h
    refine g_il dX11_asks_28 rfl ?_
    refine g_si dX11_asks_30 (by decide) ?_
    refine g_wge dX11_asks_33 (tgt := 50) rfl rfl (xw_id (by decide)) (fun q14 => ?_) (fun q14 => ?_)
    · replace h := xif_f q14 h
      exact hk l5_12 s13 h
    · replace h := xif_t q14 h
      refine g_aln dX11_asks_36 rfl rfl (by decide) ?_
      refine g_getC 142 dX11_asks_37 fl_X11_92 rfl (by decide) ?_
      refine g_il dX11_asks_40 rfl ?_
      refine g_ic dX11_asks_42 ?_
      obtain ⟨hg15, h⟩ := xgd_e h
      obtain ⟨s16, e17, h⟩ := xlt_e h
      refine h_iast 220 dX11_asks_43 rfl hg15 (by decide) e17 ?_
      refine g_inc_5 dX11_asks_44 (by decide) rfl ?_
      refine g_goto dX11_asks_47 (tgt := 28) rfl ?_
      exact ih (l5_12 + 1) s16 h
theorem s_X11_asks_53 {l1_22 l2_23 l3_24 : Int} {q : Int × xW} {k : Int → Int → xW → Option (Int × xW)} (hk : ∀ (l4_46 : Int) (l5_47 : Int) (s48 : xW), k l4_46 l5_47 s48 = some q → xG 5 0 0 mX11_asks 122 [vR 121, vI l1_22, vI l2_23, vI l3_24, vI l4_46, vI l5_47, vX] [] 155 s48 (xRv (vI q.1) q.2)) : ∀ (f : Nat) (l4_25 : Int) (l5_26 : Int) (s27 : xW), F_X11_asks_53 l1_22 l2_23 l3_24 f l4_25 l5_26 s27 k = some q → xG 5 0 0 mX11_asks 53 [vR 121, vI l1_22, vI l2_23, vI l3_24, vI l4_25, vI l5_26, vX] [] 155 s27 (xRv (vI q.1) q.2) := by
  intro f
  induction f with
  | zero => intro l4_25 l5_26 s27 h; cases h
  | succ f ih =>
    intro l4_25 l5_26 s27 h
    unfold F_X11_asks_53 at h
    refine g_il dX11_asks_53 rfl ?_
    refine g_bi dX11_asks_55 (by decide) ?_
    refine g_wge dX11_asks_57 (tgt := 122) rfl rfl (xw_id (by decide)) (fun q28 => ?_) (fun q28 => ?_)
    · replace h := xif_f q28 h
      exact hk l4_25 l5_26 s27 h
    · replace h := xif_t q28 h
      refine g_aln dX11_asks_60 rfl rfl (by decide) ?_
      refine g_il dX11_asks_61 rfl ?_
      obtain ⟨r30, s31, e29, h⟩ := xbd_e h
      refine g_cV1v dX11_asks_63 ml_X11_428 rfl (s_X11_isSo e29) (by decide) rfl ?_
      obtain ⟨j34, ej35, h⟩ := xjn_e h
      have hj36 : ∀ (l4_32 : Int) (s33 : xW), j34 l4_32 s33 = some q → xG 5 0 0 mX11_asks 116 [vR 121, vI l1_22, vI l2_23, vI l3_24, vI l4_32, vI l5_26, vX] [] 155 s33 (xRv (vI q.1) q.2) := by
        intro l4_32 s33 h
        rw [ej35] at h
        refine g_inc_5 dX11_asks_116 (by decide) rfl ?_
        refine g_goto dX11_asks_119 (tgt := 53) rfl ?_
        exact ih l4_32 (l5_26 + 1) s33 h
      clear ej35
      refine g_yeq dX11_asks_66 (tgt := 116) rfl rfl (fun q37 => ?_) (fun q37 => ?_)
      · replace h := xif_f q37 h
        exact hj36 l4_25 s31 h
      · replace h := xif_t q37 h
        refine g_aln dX11_asks_69 rfl rfl (by decide) ?_
        refine g_aln dX11_asks_70 rfl rfl (by decide) ?_
        refine g_getC 127 dX11_asks_71 fl_X11_47 rfl (by decide) ?_
        refine g_iln dX11_asks_74 rfl rfl ?_
        refine g_ic dX11_asks_75 ?_
        refine g_il dX11_asks_76 rfl ?_
        refine g_bi dX11_asks_78 (by decide) ?_
        refine g_wdiv dX11_asks_80 rfl (xw_id (by decide)) (by decide) ?_
        refine g_il dX11_asks_81 rfl ?_
        refine g_bi dX11_asks_83 (by decide) ?_
        refine g_wrem dX11_asks_85 rfl (xw_id (by decide)) (by decide) ?_
        obtain ⟨r39, s40, e38, h⟩ := xbd_e h
        refine g_cV5v dX11_asks_86 ml_X11_288 rfl (s_X11_hearsBy e38) (by decide) rfl ?_
        refine g_ist_6 dX11_asks_89 (by decide) rfl ?_
        refine g_aln dX11_asks_91 rfl rfl (by decide) ?_
        refine g_getC 142 dX11_asks_92 fl_X11_92 rfl (by decide) ?_
        refine g_il dX11_asks_95 rfl ?_
        refine g_dup2 dX11_asks_97 rfl rfl ?_
        obtain ⟨hg41, h⟩ := xgd_e h
        refine g_iald 220 dX11_asks_98 rfl hg41 (by decide) ?_
        refine g_ic dX11_asks_99 ?_
        refine g_iadd dX11_asks_100 ?_
        obtain ⟨hg42, h⟩ := xgd_e h
        obtain ⟨s43, e44, h⟩ := xlt_e h
        refine h_iast 220 dX11_asks_101 rfl hg42 (by decide) e44 ?_
        refine g_il dX11_asks_102 rfl ?_
        refine g_aln dX11_asks_104 rfl rfl (by decide) ?_
        refine g_getC 142 dX11_asks_105 fl_X11_92 rfl (by decide) ?_
        refine g_il dX11_asks_108 rfl ?_
        obtain ⟨hg45, h⟩ := xgd_e h
        refine g_iald 220 dX11_asks_110 rfl hg45 (by decide) ?_
        refine g_wmax dX11_asks_111 mx_X11_279 rfl rfl (by decide) rfl ?_
        refine g_ist_4 dX11_asks_114 (by decide) rfl ?_
        refine g_drop_6 ?_
        exact hj36 (max (xw l4_25) (xw (s43 142 r39))) s43 h
theorem s_X11_asks_14 {q : Int × xW} {k : Int → Int → Int → xW → Option (Int × xW)} (hk : ∀ (l1_62 : Int) (l2_63 : Int) (l3_64 : Int) (s65 : xW), k l1_62 l2_63 l3_64 s65 = some q → xG 5 0 0 mX11_asks 161 [vR 121, vI l1_62, vI l2_63, vI l3_64, vX, vX, vX] [] 155 s65 (xRv (vI q.1) q.2)) : ∀ (f : Nat) (l1_3 : Int) (l2_4 : Int) (l3_5 : Int) (s6 : xW), F_X11_asks_14  f l1_3 l2_4 l3_5 s6 k = some q → xG 5 0 0 mX11_asks 14 [vR 121, vI l1_3, vI l2_4, vI l3_5, vX, vX, vX] [] 155 s6 (xRv (vI q.1) q.2) := by
  intro f
  induction f with
  | zero => intro l1_3 l2_4 l3_5 s6 h; cases h
  | succ f ih =>
    intro l1_3 l2_4 l3_5 s6 h
    unfold F_X11_asks_14 at h
    refine g_iln dX11_asks_14 rfl rfl ?_
    refine g_aln dX11_asks_15 rfl rfl (by decide) ?_
    refine g_getI 3 dX11_asks_16 fl_X11_129 rfl rfl ?_
    refine g_wge dX11_asks_19 (tgt := 161) rfl rfl rfl (fun q7 => ?_) (fun q7 => ?_)
    · replace h := xif_f q7 h
      exact hk l1_3 l2_4 l3_5 s6 h
    · replace h := xif_t q7 h
      refine g_ic dX11_asks_22 ?_
      refine g_ist_4 dX11_asks_23 (by decide) rfl ?_
      refine g_ic dX11_asks_25 ?_
      refine g_ist_5 dX11_asks_26 (by decide) rfl ?_
      refine s_X11_asks_28 (fun l5_20 s21 h => ?_) xN _ _ h
      refine g_ic dX11_asks_50 ?_
      refine g_ist_5 dX11_asks_51 (by decide) rfl ?_
      refine s_X11_asks_53 (fun l4_49 l5_50 s51 h => ?_) xN _ _ _ h
      refine g_il dX11_asks_122 rfl ?_
      obtain ⟨v54, e55, h⟩ := xlt_e h
      have hj56 : xG 5 0 0 mX11_asks 138 [vR 121, vX, vI l2_4, vI l3_5, vI l4_49, vX, vX] [vI v54] 155 s51 (xRv (vI q.1) q.2) := by
        refine g_istn_1 dX11_asks_138 (by decide) rfl ?_
        refine g_il dX11_asks_139 rfl ?_
        obtain ⟨j58, ej59, h⟩ := xjn_e h
        have hj60 : ∀ (t57 : Int), j58 t57 = some q → xG 5 0 0 mX11_asks 154 [vR 121, vI v54, vX, vI l3_5, vX, vX, vX] [vI t57] 155 s51 (xRv (vI q.1) q.2) := by
          intro t57 h
          rw [ej59] at h
          refine g_istn_2 dX11_asks_154 (by decide) rfl ?_
          refine g_inc_3 dX11_asks_155 (by decide) rfl ?_
          refine g_goto dX11_asks_158 (tgt := 14) rfl ?_
          exact ih v54 t57 (l3_5 + 1) s51 h
        clear ej59
        refine g_yle dX11_asks_141 (tgt := 153) rfl rfl (fun q61 => ?_) (fun q61 => ?_)
        · replace h := xif_f q61 h
          refine g_iln dX11_asks_153 rfl rfl ?_
          refine g_drop_2 ?_
          refine g_drop_4 ?_
          exact hj60 l2_4 h
        · replace h := xif_t q61 h
          refine g_iln dX11_asks_144 rfl rfl ?_
          refine g_il dX11_asks_145 rfl ?_
          refine g_wmin dX11_asks_147 mx_X11_150 rfl rfl (by decide) rfl ?_
          refine g_goto dX11_asks_150 (tgt := 154) rfl ?_
          refine g_drop_2 ?_
          refine g_drop_4 ?_
          exact hj60 (min (xw l2_4) (xw l4_49)) h
      refine g_yle dX11_asks_124 (tgt := 137) rfl rfl (fun c52 => ?_) (fun c52 => ?_)
      · skip
        refine g_iln dX11_asks_137 rfl rfl ?_
        refine g_drop_1 ?_
        refine g_drop_5 ?_
        exact g_vq ((if_neg c52).symm.trans e55) hj56
      · skip
        refine g_il dX11_asks_127 rfl ?_
        refine g_iln dX11_asks_129 rfl rfl ?_
        refine g_wge dX11_asks_130 (tgt := 137) rfl rfl rfl (fun c53 => ?_) (fun c53 => ?_)
        · skip
          refine g_iln dX11_asks_137 rfl rfl ?_
          refine g_drop_1 ?_
          refine g_drop_5 ?_
          exact g_vq (((if_pos c52).trans (if_neg c53)).symm.trans e55) hj56
        · skip
          refine g_iln dX11_asks_133 rfl rfl ?_
          refine g_goto dX11_asks_134 (tgt := 138) rfl ?_
          refine g_drop_1 ?_
          refine g_drop_5 ?_
          exact g_vq (((if_pos c52).trans (if_pos c53)).symm.trans e55) hj56
theorem s_X11_asks {s0 : xW} {q : Int × xW} (h : F_X11_asks  s0 = some q) : xC 5 0 0 mX11_asks [vR 121] 155 s0 (xRv (vI q.1) q.2) := by
  refine xC.of [vR 121, vX, vX, vX, vX, vX, vX] (by decide +kernel) (Nat.le_of_ble_eq_true rfl) rfl ?_
  unfold F_X11_asks at h
  refine g_aln dX11_asks_0 rfl rfl (by decide) ?_
  refine g_ic dX11_asks_1 ?_
  obtain ⟨s1, e2, h⟩ := xlt_e h
  refine h_putI 0 dX11_asks_2 fl_X11_3 rfl rfl e2 ?_
  refine g_bi dX11_asks_5 (by decide) ?_
  refine g_istn_1 dX11_asks_7 (by decide) rfl ?_
  refine g_ldcw dX11_asks_8 ct_X11_419 (w := 1000000) rfl ?_
  refine g_istn_2 dX11_asks_11 (by decide) rfl ?_
  refine g_ic dX11_asks_12 ?_
  refine g_istn_3 dX11_asks_13 (by decide) rfl ?_
  refine s_X11_asks_14 (fun l1_66 l2_67 l3_68 s69 h => ?_) xN _ _ _ _ h
  refine g_iln dX11_asks_161 rfl rfl ?_
  obtain ⟨j71, ej72, h⟩ := xjn_e h
  have hj73 : ∀ (s70 : xW), j71 s70 = some q → xG 5 0 0 mX11_asks 176 [vX, vI l1_66, vX, vX, vX, vX, vX] [] 155 s70 (xRv (vI q.1) q.2) := by
    intro s70 h
    rw [ej72] at h
    refine g_iln dX11_asks_176 rfl rfl ?_
    exact g_rI rfl dX11_asks_177 h
  clear ej72
  refine g_ylt dX11_asks_162 (tgt := 176) rfl rfl (fun q74 => ?_) (fun q74 => ?_)
  · replace h := xif_f q74 h
    refine g_drop_0 ?_
    refine g_drop_2 ?_
    refine g_drop_3 ?_
    exact hj73 s69 h
  · replace h := xif_t q74 h
    refine g_aln dX11_asks_165 rfl rfl (by decide) ?_
    refine g_ic dX11_asks_166 ?_
    obtain ⟨s75, e76, h⟩ := xlt_e h
    refine h_putI 1 dX11_asks_167 fl_X11_15 rfl rfl e76 ?_
    refine g_aln dX11_asks_170 rfl rfl (by decide) ?_
    refine g_iln dX11_asks_171 rfl rfl ?_
    refine g_wi2l dX11_asks_172 rfl ?_
    obtain ⟨s78, e77, h⟩ := xbp_e h
    refine g_cV10 dX11_asks_173 ml_X11_18 rfl (s_X11_enters e77) (by decide) rfl ?_
    refine g_drop_0 ?_
    refine g_drop_2 ?_
    refine g_drop_3 ?_
    exact hj73 s78 h
theorem dX11_begins_0 : decode cX11_begins 0 = .ok (.aload_n 0, 1) := by decide +kernel
theorem dX11_begins_1 : decode cX11_begins 1 = .ok (.getfield 141, 3) := by decide +kernel
theorem dX11_begins_4 : decode cX11_begins 4 = .ok (.istore_n 2, 1) := by decide +kernel
theorem dX11_begins_5 : decode cX11_begins 5 = .ok (.aload_n 0, 1) := by decide +kernel
theorem dX11_begins_6 : decode cX11_begins 6 = .ok (.iconst 0, 1) := by decide +kernel
theorem dX11_begins_7 : decode cX11_begins 7 = .ok (.putfield 141, 3) := by decide +kernel
theorem dX11_begins_10 : decode cX11_begins 10 = .ok (.aload_n 0, 1) := by decide +kernel
theorem dX11_begins_11 : decode cX11_begins 11 = .ok (.iconst 0, 1) := by decide +kernel
theorem dX11_begins_12 : decode cX11_begins 12 = .ok (.putfield 144, 3) := by decide +kernel
theorem dX11_begins_15 : decode cX11_begins 15 = .ok (.aload_n 0, 1) := by decide +kernel
theorem dX11_begins_16 : decode cX11_begins 16 = .ok (.iconst 0, 1) := by decide +kernel
theorem dX11_begins_17 : decode cX11_begins 17 = .ok (.putfield 147, 3) := by decide +kernel
theorem dX11_begins_20 : decode cX11_begins 20 = .ok (.aload_n 0, 1) := by decide +kernel
theorem dX11_begins_21 : decode cX11_begins 21 = .ok (.iload_n 2, 1) := by decide +kernel
theorem dX11_begins_22 : decode cX11_begins 22 = .ok (.iload_n 1, 1) := by decide +kernel
theorem dX11_begins_23 : decode cX11_begins 23 = .ok (.invokestatic 150, 3) := by decide +kernel
theorem dX11_begins_26 : decode cX11_begins 26 = .ok (.putfield 156, 3) := by decide +kernel
theorem dX11_begins_29 : decode cX11_begins 29 = .ok (.iload_n 2, 1) := by decide +kernel
theorem dX11_begins_30 : decode cX11_begins 30 = .ok (.ireturn, 1) := by decide +kernel
theorem s_X11_begins {a1 : Int} {s0 : xW} {q : Int × xW} (h : F_X11_begins a1 s0 = some q) : xC 1 0 0 mX11_begins [vR 121, vI a1] 155 s0 (xRv (vI q.1) q.2) := by
  refine xC.of [vR 121, vI a1, vX] (by decide +kernel) (Nat.le_of_ble_eq_true rfl) rfl ?_
  unfold F_X11_begins at h
  refine g_aln dX11_begins_0 rfl rfl (by decide) ?_
  refine g_getI 15 dX11_begins_1 fl_X11_141 rfl rfl ?_
  refine g_istn_2 dX11_begins_4 (by decide) rfl ?_
  refine g_aln dX11_begins_5 rfl rfl (by decide) ?_
  refine g_ic dX11_begins_6 ?_
  obtain ⟨s1, e2, h⟩ := xlt_e h
  refine h_putI 15 dX11_begins_7 fl_X11_141 rfl rfl e2 ?_
  refine g_aln dX11_begins_10 rfl rfl (by decide) ?_
  refine g_ic dX11_begins_11 ?_
  obtain ⟨s3, e4, h⟩ := xlt_e h
  refine h_putI 16 dX11_begins_12 fl_X11_144 rfl rfl e4 ?_
  refine g_aln dX11_begins_15 rfl rfl (by decide) ?_
  refine g_ic dX11_begins_16 ?_
  obtain ⟨s5, e6, h⟩ := xlt_e h
  refine h_putI 18 dX11_begins_17 fl_X11_147 rfl rfl e6 ?_
  refine g_aln dX11_begins_20 rfl rfl (by decide) ?_
  refine g_iln dX11_begins_21 rfl rfl ?_
  refine g_iln dX11_begins_22 rfl rfl ?_
  refine g_wmin dX11_begins_23 mx_X11_150 rfl rfl (by decide) rfl ?_
  obtain ⟨s7, e8, h⟩ := xlt_e h
  refine h_putI 17 dX11_begins_26 fl_X11_156 rfl rfl e8 ?_
  refine g_iln dX11_begins_29 rfl rfl ?_
  exact g_rI rfl dX11_begins_30 h
theorem dX11_best_0 : decode cX11_best 0 = .ok (.aload_n 0, 1) := by decide +kernel
theorem dX11_best_1 : decode cX11_best 1 = .ok (.iconst 0, 1) := by decide +kernel
theorem dX11_best_2 : decode cX11_best 2 = .ok (.putfield 3, 3) := by decide +kernel
theorem dX11_best_5 : decode cX11_best 5 = .ok (.aload_n 0, 1) := by decide +kernel
theorem dX11_best_6 : decode cX11_best 6 = .ok (.aload_n 0, 1) := by decide +kernel
theorem dX11_best_7 : decode cX11_best 7 = .ok (.getfield 47, 3) := by decide +kernel
theorem dX11_best_10 : decode cX11_best 10 = .ok (.invokevirtual 336, 3) := by decide +kernel
theorem dX11_best_13 : decode cX11_best 13 = .ok (.istore_n 1, 1) := by decide +kernel
theorem dX11_best_14 : decode cX11_best 14 = .ok (.aload_n 0, 1) := by decide +kernel
theorem dX11_best_15 : decode cX11_best 15 = .ok (.invokevirtual 400, 3) := by decide +kernel
theorem dX11_best_18 : decode cX11_best 18 = .ok (.iconst (-1), 1) := by decide +kernel
theorem dX11_best_19 : decode cX11_best 19 = .ok (.istore_n 2, 1) := by decide +kernel
theorem dX11_best_20 : decode cX11_best 20 = .ok (.ldc_w 419, 3) := by decide +kernel
theorem dX11_best_23 : decode cX11_best 23 = .ok (.istore_n 3, 1) := by decide +kernel
theorem dX11_best_24 : decode cX11_best 24 = .ok (.iconst 0, 1) := by decide +kernel
theorem dX11_best_25 : decode cX11_best 25 = .ok (.istore 4, 2) := by decide +kernel
theorem dX11_best_27 : decode cX11_best 27 = .ok (.iload 4, 2) := by decide +kernel
theorem dX11_best_29 : decode cX11_best 29 = .ok (.bipush 100, 2) := by decide +kernel
theorem dX11_best_31 : decode cX11_best 31 = .ok (.if_icmp .ge 63, 3) := by decide +kernel
theorem dX11_best_34 : decode cX11_best 34 = .ok (.aload_n 0, 1) := by decide +kernel
theorem dX11_best_35 : decode cX11_best 35 = .ok (.getfield 50, 3) := by decide +kernel
theorem dX11_best_38 : decode cX11_best 38 = .ok (.bipush 32, 2) := by decide +kernel
theorem dX11_best_40 : decode cX11_best 40 = .ok (.iload 4, 2) := by decide +kernel
theorem dX11_best_42 : decode cX11_best 42 = .ok (.bipush 10, 2) := by decide +kernel
theorem dX11_best_44 : decode cX11_best 44 = .ok (.idiv, 1) := by decide +kernel
theorem dX11_best_45 : decode cX11_best 45 = .ok (.iastore, 1) := by decide +kernel
theorem dX11_best_46 : decode cX11_best 46 = .ok (.aload_n 0, 1) := by decide +kernel
theorem dX11_best_47 : decode cX11_best 47 = .ok (.getfield 50, 3) := by decide +kernel
theorem dX11_best_50 : decode cX11_best 50 = .ok (.bipush 33, 2) := by decide +kernel
theorem dX11_best_52 : decode cX11_best 52 = .ok (.iload 4, 2) := by decide +kernel
theorem dX11_best_54 : decode cX11_best 54 = .ok (.bipush 10, 2) := by decide +kernel
theorem dX11_best_56 : decode cX11_best 56 = .ok (.irem, 1) := by decide +kernel
theorem dX11_best_57 : decode cX11_best 57 = .ok (.iastore, 1) := by decide +kernel
theorem dX11_best_58 : decode cX11_best 58 = .ok (.aload_n 0, 1) := by decide +kernel
theorem dX11_best_59 : decode cX11_best 59 = .ok (.aload_n 0, 1) := by decide +kernel
theorem dX11_best_60 : decode cX11_best 60 = .ok (.getfield 50, 3) := by decide +kernel
theorem dX11_best_63 : decode cX11_best 63 = .ok (.invokevirtual 336, 3) := by decide +kernel
theorem dX11_best_66 : decode cX11_best 66 = .ok (.istore 5, 2) := by decide +kernel
theorem dX11_best_68 : decode cX11_best 68 = .ok (.iload 5, 2) := by decide +kernel
theorem dX11_best_70 : decode cX11_best 70 = .ok (.iload_n 3, 1) := by decide +kernel
theorem dX11_best_71 : decode cX11_best 71 = .ok (.if_icmp .ge 8, 3) := by decide +kernel
theorem dX11_best_74 : decode cX11_best 74 = .ok (.iload 4, 2) := by decide +kernel
theorem dX11_best_76 : decode cX11_best 76 = .ok (.goto 4, 3) := by decide +kernel
theorem dX11_best_79 : decode cX11_best 79 = .ok (.iload_n 2, 1) := by decide +kernel
theorem dX11_best_80 : decode cX11_best 80 = .ok (.istore_n 2, 1) := by decide +kernel
theorem dX11_best_81 : decode cX11_best 81 = .ok (.iload_n 3, 1) := by decide +kernel
theorem dX11_best_82 : decode cX11_best 82 = .ok (.iload 5, 2) := by decide +kernel
theorem dX11_best_84 : decode cX11_best 84 = .ok (.invokestatic 150, 3) := by decide +kernel
theorem dX11_best_87 : decode cX11_best 87 = .ok (.istore_n 3, 1) := by decide +kernel
theorem dX11_best_88 : decode cX11_best 88 = .ok (.iinc 4 1, 3) := by decide +kernel
theorem dX11_best_91 : decode cX11_best 91 = .ok (.goto (-64), 3) := by decide +kernel
theorem dX11_best_94 : decode cX11_best 94 = .ok (.aload_n 0, 1) := by decide +kernel
theorem dX11_best_95 : decode cX11_best 95 = .ok (.iconst 0, 1) := by decide +kernel
theorem dX11_best_96 : decode cX11_best 96 = .ok (.putfield 15, 3) := by decide +kernel
theorem dX11_best_99 : decode cX11_best 99 = .ok (.aload_n 0, 1) := by decide +kernel
theorem dX11_best_100 : decode cX11_best 100 = .ok (.iload_n 2, 1) := by decide +kernel
theorem dX11_best_101 : decode cX11_best 101 = .ok (.bipush 10, 2) := by decide +kernel
theorem dX11_best_103 : decode cX11_best 103 = .ok (.idiv, 1) := by decide +kernel
theorem dX11_best_104 : decode cX11_best 104 = .ok (.i2l, 1) := by decide +kernel
theorem dX11_best_105 : decode cX11_best 105 = .ok (.invokevirtual 18, 3) := by decide +kernel
theorem dX11_best_108 : decode cX11_best 108 = .ok (.aload_n 0, 1) := by decide +kernel
theorem dX11_best_109 : decode cX11_best 109 = .ok (.iload_n 2, 1) := by decide +kernel
theorem dX11_best_110 : decode cX11_best 110 = .ok (.bipush 10, 2) := by decide +kernel
theorem dX11_best_112 : decode cX11_best 112 = .ok (.irem, 1) := by decide +kernel
theorem dX11_best_113 : decode cX11_best 113 = .ok (.i2l, 1) := by decide +kernel
theorem dX11_best_114 : decode cX11_best 114 = .ok (.invokevirtual 18, 3) := by decide +kernel
theorem dX11_best_117 : decode cX11_best 117 = .ok (.aload_n 0, 1) := by decide +kernel
theorem dX11_best_118 : decode cX11_best 118 = .ok (.iload_n 1, 1) := by decide +kernel
theorem dX11_best_119 : decode cX11_best 119 = .ok (.i2l, 1) := by decide +kernel
theorem dX11_best_120 : decode cX11_best 120 = .ok (.invokevirtual 18, 3) := by decide +kernel
theorem dX11_best_123 : decode cX11_best 123 = .ok (.iload_n 3, 1) := by decide +kernel
theorem dX11_best_124 : decode cX11_best 124 = .ok (.ireturn, 1) := by decide +kernel
theorem s_X11_best_27 {l1_8 : Int} {q : Int × xW} {k : Int → Int → Int → xW → Option (Int × xW)} (hk : ∀ (l2_25 : Int) (l3_26 : Int) (l4_27 : Int) (s28 : xW), k l2_25 l3_26 l4_27 s28 = some q → xG 7 0 0 mX11_best 94 [vR 121, vI l1_8, vI l2_25, vI l3_26, vI l4_27, vX] [] 155 s28 (xRv (vI q.1) q.2)) : ∀ (f : Nat) (l2_9 : Int) (l3_10 : Int) (l4_11 : Int) (s12 : xW), F_X11_best_27 l1_8 f l2_9 l3_10 l4_11 s12 k = some q → xG 7 0 0 mX11_best 27 [vR 121, vI l1_8, vI l2_9, vI l3_10, vI l4_11, vX] [] 155 s12 (xRv (vI q.1) q.2) := by
  intro f
  induction f with
  | zero => intro l2_9 l3_10 l4_11 s12 h; cases h
  | succ f ih =>
    intro l2_9 l3_10 l4_11 s12 h
    unfold F_X11_best_27 at h
    refine g_il dX11_best_27 rfl ?_
    refine g_bi dX11_best_29 (by decide) ?_
    refine g_wge dX11_best_31 (tgt := 94) rfl rfl (xw_id (by decide)) (fun q13 => ?_) (fun q13 => ?_)
    · replace h := xif_f q13 h
      exact hk l2_9 l3_10 l4_11 s12 h
    · replace h := xif_t q13 h
      refine g_aln dX11_best_34 rfl rfl (by decide) ?_
      refine g_getC 128 dX11_best_35 fl_X11_50 rfl (by decide) ?_
      refine g_bi dX11_best_38 (by decide) ?_
      refine g_il dX11_best_40 rfl ?_
      refine g_bi dX11_best_42 (by decide) ?_
      refine g_wdiv dX11_best_44 rfl (xw_id (by decide)) (by decide) ?_
      obtain ⟨s14, e15, h⟩ := xlt_e h
      refine h_iast 40 dX11_best_45 rfl (by decide) (by decide) e15 ?_
      refine g_aln dX11_best_46 rfl rfl (by decide) ?_
      refine g_getC 128 dX11_best_47 fl_X11_50 rfl (by decide) ?_
      refine g_bi dX11_best_50 (by decide) ?_
      refine g_il dX11_best_52 rfl ?_
      refine g_bi dX11_best_54 (by decide) ?_
      refine g_wrem dX11_best_56 rfl (xw_id (by decide)) (by decide) ?_
      obtain ⟨s16, e17, h⟩ := xlt_e h
      refine h_iast 40 dX11_best_57 rfl (by decide) (by decide) e17 ?_
      refine g_aln dX11_best_58 rfl rfl (by decide) ?_
      refine g_aln dX11_best_59 rfl rfl (by decide) ?_
      refine g_getC 128 dX11_best_60 fl_X11_50 rfl (by decide) ?_
      obtain ⟨r19, s20, e18, h⟩ := xbd_e h
      refine g_cV1v dX11_best_63 ml_X11_336 rfl (s_X11_clashesOn e18) (by decide) rfl ?_
      refine g_ist_5 dX11_best_66 (by decide) rfl ?_
      refine g_il dX11_best_68 rfl ?_
      refine g_iln dX11_best_70 rfl rfl ?_
      obtain ⟨v22, e23, h⟩ := xlt_e h
      have hj24 : xG 7 0 0 mX11_best 80 [vR 121, vI l1_8, vX, vI l3_10, vI l4_11, vI r19] [vI v22] 155 s20 (xRv (vI q.1) q.2) := by
        refine g_istn_2 dX11_best_80 (by decide) rfl ?_
        refine g_iln dX11_best_81 rfl rfl ?_
        refine g_il dX11_best_82 rfl ?_
        refine g_wmin dX11_best_84 mx_X11_150 rfl rfl (by decide) rfl ?_
        refine g_istn_3 dX11_best_87 (by decide) rfl ?_
        refine g_inc_4 dX11_best_88 (by decide) rfl ?_
        refine g_goto dX11_best_91 (tgt := 27) rfl ?_
        refine g_drop_5 ?_
        exact ih v22 (min (xw l3_10) (xw r19)) (l4_11 + 1) s20 h
      refine g_wge dX11_best_71 (tgt := 79) rfl rfl rfl (fun c21 => ?_) (fun c21 => ?_)
      · skip
        refine g_iln dX11_best_79 rfl rfl ?_
        refine g_drop_2 ?_
        exact g_vq ((if_neg c21).symm.trans e23) hj24
      · skip
        refine g_il dX11_best_74 rfl ?_
        refine g_goto dX11_best_76 (tgt := 80) rfl ?_
        refine g_drop_2 ?_
        exact g_vq ((if_pos c21).symm.trans e23) hj24
theorem s_X11_best {s0 : xW} {q : Int × xW} (h : F_X11_best  s0 = some q) : xC 7 0 0 mX11_best [vR 121] 155 s0 (xRv (vI q.1) q.2) := by
  refine xC.of [vR 121, vX, vX, vX, vX, vX] (by decide +kernel) (Nat.le_of_ble_eq_true rfl) rfl ?_
  unfold F_X11_best at h
  refine g_aln dX11_best_0 rfl rfl (by decide) ?_
  refine g_ic dX11_best_1 ?_
  obtain ⟨s1, e2, h⟩ := xlt_e h
  refine h_putI 0 dX11_best_2 fl_X11_3 rfl rfl e2 ?_
  refine g_aln dX11_best_5 rfl rfl (by decide) ?_
  refine g_aln dX11_best_6 rfl rfl (by decide) ?_
  refine g_getC 127 dX11_best_7 fl_X11_47 rfl (by decide) ?_
  obtain ⟨r4, s5, e3, h⟩ := xbd_e h
  refine g_cV1v dX11_best_10 ml_X11_336 rfl (s_X11_clashesOn e3) (by decide) rfl ?_
  refine g_istn_1 dX11_best_13 (by decide) rfl ?_
  refine g_aln dX11_best_14 rfl rfl (by decide) ?_
  obtain ⟨s7, e6, h⟩ := xbp_e h
  refine g_cV00 dX11_best_15 ml_X11_400 rfl (s_X11_copies e6) (by decide) rfl ?_
  refine g_ic dX11_best_18 ?_
  refine g_istn_2 dX11_best_19 (by decide) rfl ?_
  refine g_ldcw dX11_best_20 ct_X11_419 (w := 1000000) rfl ?_
  refine g_istn_3 dX11_best_23 (by decide) rfl ?_
  refine g_ic dX11_best_24 ?_
  refine g_ist_4 dX11_best_25 (by decide) rfl ?_
  refine s_X11_best_27 (fun l2_29 l3_30 l4_31 s32 h => ?_) xN _ _ _ _ h
  refine g_aln dX11_best_94 rfl rfl (by decide) ?_
  refine g_ic dX11_best_95 ?_
  obtain ⟨s33, e34, h⟩ := xlt_e h
  refine h_putI 1 dX11_best_96 fl_X11_15 rfl rfl e34 ?_
  refine g_aln dX11_best_99 rfl rfl (by decide) ?_
  refine g_iln dX11_best_100 rfl rfl ?_
  refine g_bi dX11_best_101 (by decide) ?_
  refine g_wdiv dX11_best_103 rfl (xw_id (by decide)) (by decide) ?_
  refine g_wi2l dX11_best_104 rfl ?_
  obtain ⟨s36, e35, h⟩ := xbp_e h
  refine g_cV10 dX11_best_105 ml_X11_18 rfl (s_X11_enters e35) (by decide) rfl ?_
  refine g_aln dX11_best_108 rfl rfl (by decide) ?_
  refine g_iln dX11_best_109 rfl rfl ?_
  refine g_bi dX11_best_110 (by decide) ?_
  refine g_wrem dX11_best_112 rfl (xw_id (by decide)) (by decide) ?_
  refine g_wi2l dX11_best_113 rfl ?_
  obtain ⟨s38, e37, h⟩ := xbp_e h
  refine g_cV10 dX11_best_114 ml_X11_18 rfl (s_X11_enters e37) (by decide) rfl ?_
  refine g_aln dX11_best_117 rfl rfl (by decide) ?_
  refine g_iln dX11_best_118 rfl rfl ?_
  refine g_wi2l dX11_best_119 rfl ?_
  obtain ⟨s40, e39, h⟩ := xbp_e h
  refine g_cV10 dX11_best_120 ml_X11_18 rfl (s_X11_enters e39) (by decide) rfl ?_
  refine g_iln dX11_best_123 rfl rfl ?_
  exact g_rI rfl dX11_best_124 h
theorem dX11_putsBy_0 : decode cX11_putsBy 0 = .ok (.iconst 0, 1) := by decide +kernel
theorem dX11_putsBy_1 : decode cX11_putsBy 1 = .ok (.istore_n 1, 1) := by decide +kernel
theorem dX11_putsBy_2 : decode cX11_putsBy 2 = .ok (.iload_n 1, 1) := by decide +kernel
theorem dX11_putsBy_3 : decode cX11_putsBy 3 = .ok (.bipush 40, 2) := by decide +kernel
theorem dX11_putsBy_5 : decode cX11_putsBy 5 = .ok (.if_icmp .ge 29, 3) := by decide +kernel
theorem dX11_putsBy_8 : decode cX11_putsBy 8 = .ok (.aload_n 0, 1) := by decide +kernel
theorem dX11_putsBy_9 : decode cX11_putsBy 9 = .ok (.getfield 74, 3) := by decide +kernel
theorem dX11_putsBy_12 : decode cX11_putsBy 12 = .ok (.bipush 40, 2) := by decide +kernel
theorem dX11_putsBy_14 : decode cX11_putsBy 14 = .ok (.aload_n 0, 1) := by decide +kernel
theorem dX11_putsBy_15 : decode cX11_putsBy 15 = .ok (.getfield 218, 3) := by decide +kernel
theorem dX11_putsBy_18 : decode cX11_putsBy 18 = .ok (.imul, 1) := by decide +kernel
theorem dX11_putsBy_19 : decode cX11_putsBy 19 = .ok (.iload_n 1, 1) := by decide +kernel
theorem dX11_putsBy_20 : decode cX11_putsBy 20 = .ok (.iadd, 1) := by decide +kernel
theorem dX11_putsBy_21 : decode cX11_putsBy 21 = .ok (.aload_n 0, 1) := by decide +kernel
theorem dX11_putsBy_22 : decode cX11_putsBy 22 = .ok (.getfield 47, 3) := by decide +kernel
theorem dX11_putsBy_25 : decode cX11_putsBy 25 = .ok (.iload_n 1, 1) := by decide +kernel
theorem dX11_putsBy_26 : decode cX11_putsBy 26 = .ok (.iaload, 1) := by decide +kernel
theorem dX11_putsBy_27 : decode cX11_putsBy 27 = .ok (.iastore, 1) := by decide +kernel
theorem dX11_putsBy_28 : decode cX11_putsBy 28 = .ok (.iinc 1 1, 3) := by decide +kernel
theorem dX11_putsBy_31 : decode cX11_putsBy 31 = .ok (.goto (-29), 3) := by decide +kernel
theorem dX11_putsBy_34 : decode cX11_putsBy 34 = .ok (.return_, 1) := by decide +kernel
theorem s_X11_putsBy_2 {q : xW} {k : Int → xW → Option (xW)} (hk : ∀ (l1_8 : Int) (s9 : xW), k l1_8 s9 = some q → xG 0 0 0 mX11_putsBy 34 [vR 121, vI l1_8] [] 155 s9 (xR0 q)) : ∀ (f : Nat) (l1_1 : Int) (s2 : xW), F_X11_putsBy_2  f l1_1 s2 k = some q → xG 0 0 0 mX11_putsBy 2 [vR 121, vI l1_1] [] 155 s2 (xR0 q) := by
  intro f
  induction f with
  | zero => intro l1_1 s2 h; cases h
  | succ f ih =>
    intro l1_1 s2 h
    unfold F_X11_putsBy_2 at h
    refine g_iln dX11_putsBy_2 rfl rfl ?_
    refine g_bi dX11_putsBy_3 (by decide) ?_
    refine g_wge dX11_putsBy_5 (tgt := 34) rfl rfl (xw_id (by decide)) (fun q3 => ?_) (fun q3 => ?_)
    · replace h := xif_f q3 h
      exact hk l1_1 s2 h
    · replace h := xif_t q3 h
      refine g_aln dX11_putsBy_8 rfl rfl (by decide) ?_
      refine g_getC 136 dX11_putsBy_9 fl_X11_74 rfl (by decide) ?_
      refine g_bi dX11_putsBy_12 (by decide) ?_
      refine g_aln dX11_putsBy_14 rfl rfl (by decide) ?_
      refine g_getI 28 dX11_putsBy_15 fl_X11_218 rfl rfl ?_
      refine g_imul dX11_putsBy_18 ?_
      refine g_iln dX11_putsBy_19 rfl rfl ?_
      refine g_iadd dX11_putsBy_20 ?_
      refine g_aln dX11_putsBy_21 rfl rfl (by decide) ?_
      refine g_getC 127 dX11_putsBy_22 fl_X11_47 rfl (by decide) ?_
      refine g_iln dX11_putsBy_25 rfl rfl ?_
      obtain ⟨hg4, h⟩ := xgd_e h
      refine g_iald 40 dX11_putsBy_26 rfl hg4 (by decide) ?_
      obtain ⟨hg5, h⟩ := xgd_e h
      obtain ⟨s6, e7, h⟩ := xlt_e h
      refine h_iast 640 dX11_putsBy_27 rfl hg5 (by decide) e7 ?_
      refine g_inc_1 dX11_putsBy_28 (by decide) rfl ?_
      refine g_goto dX11_putsBy_31 (tgt := 2) rfl ?_
      exact ih (l1_1 + 1) s6 h
theorem s_X11_putsBy {s0 : xW} {q : xW} (h : F_X11_putsBy  s0 = some q) : xC 0 0 0 mX11_putsBy [vR 121] 155 s0 (xR0 q) := by
  refine xC.of [vR 121, vX] (by decide +kernel) (Nat.le_of_ble_eq_true rfl) rfl ?_
  unfold F_X11_putsBy at h
  refine g_ic dX11_putsBy_0 ?_
  refine g_istn_1 dX11_putsBy_1 (by decide) rfl ?_
  refine s_X11_putsBy_2 (fun l1_10 s11 h => ?_) xN _ _ h
  exact g_rV rfl dX11_putsBy_34 h
