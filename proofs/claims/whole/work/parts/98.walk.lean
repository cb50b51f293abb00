theorem dX11_middle_0 : decode cX11_middle 0 = .ok (.aload_n 0, 1) := by decide +kernel
theorem dX11_middle_1 : decode cX11_middle 1 = .ok (.iconst 0, 1) := by decide +kernel
theorem dX11_middle_2 : decode cX11_middle 2 = .ok (.putfield 3, 3) := by decide +kernel
theorem dX11_middle_5 : decode cX11_middle 5 = .ok (.aload_n 0, 1) := by decide +kernel
theorem dX11_middle_6 : decode cX11_middle 6 = .ok (.getfield 129, 3) := by decide +kernel
theorem dX11_middle_9 : decode cX11_middle 9 = .ok (.ifCond .ne 6, 3) := by decide +kernel
theorem dX11_middle_12 : decode cX11_middle 12 = .ok (.bipush (-2), 2) := by decide +kernel
theorem dX11_middle_14 : decode cX11_middle 14 = .ok (.ireturn, 1) := by decide +kernel
theorem dX11_middle_15 : decode cX11_middle 15 = .ok (.aload_n 0, 1) := by decide +kernel
theorem dX11_middle_16 : decode cX11_middle 16 = .ok (.invokevirtual 400, 3) := by decide +kernel
theorem dX11_middle_19 : decode cX11_middle 19 = .ok (.iconst (-1), 1) := by decide +kernel
theorem dX11_middle_20 : decode cX11_middle 20 = .ok (.istore_n 1, 1) := by decide +kernel
theorem dX11_middle_21 : decode cX11_middle 21 = .ok (.ldc_w 419, 3) := by decide +kernel
theorem dX11_middle_24 : decode cX11_middle 24 = .ok (.istore_n 2, 1) := by decide +kernel
theorem dX11_middle_25 : decode cX11_middle 25 = .ok (.iconst 0, 1) := by decide +kernel
theorem dX11_middle_26 : decode cX11_middle 26 = .ok (.istore_n 3, 1) := by decide +kernel
theorem dX11_middle_27 : decode cX11_middle 27 = .ok (.iload_n 3, 1) := by decide +kernel
theorem dX11_middle_28 : decode cX11_middle 28 = .ok (.bipush 100, 2) := by decide +kernel
theorem dX11_middle_30 : decode cX11_middle 30 = .ok (.if_icmp .ge 88, 3) := by decide +kernel
theorem dX11_middle_33 : decode cX11_middle 33 = .ok (.aload_n 0, 1) := by decide +kernel
theorem dX11_middle_34 : decode cX11_middle 34 = .ok (.getfield 50, 3) := by decide +kernel
theorem dX11_middle_37 : decode cX11_middle 37 = .ok (.bipush 32, 2) := by decide +kernel
theorem dX11_middle_39 : decode cX11_middle 39 = .ok (.iload_n 3, 1) := by decide +kernel
theorem dX11_middle_40 : decode cX11_middle 40 = .ok (.bipush 10, 2) := by decide +kernel
theorem dX11_middle_42 : decode cX11_middle 42 = .ok (.idiv, 1) := by decide +kernel
theorem dX11_middle_43 : decode cX11_middle 43 = .ok (.iastore, 1) := by decide +kernel
theorem dX11_middle_44 : decode cX11_middle 44 = .ok (.aload_n 0, 1) := by decide +kernel
theorem dX11_middle_45 : decode cX11_middle 45 = .ok (.getfield 50, 3) := by decide +kernel
theorem dX11_middle_48 : decode cX11_middle 48 = .ok (.bipush 33, 2) := by decide +kernel
theorem dX11_middle_50 : decode cX11_middle 50 = .ok (.iload_n 3, 1) := by decide +kernel
theorem dX11_middle_51 : decode cX11_middle 51 = .ok (.bipush 10, 2) := by decide +kernel
theorem dX11_middle_53 : decode cX11_middle 53 = .ok (.irem, 1) := by decide +kernel
theorem dX11_middle_54 : decode cX11_middle 54 = .ok (.iastore, 1) := by decide +kernel
theorem dX11_middle_55 : decode cX11_middle 55 = .ok (.iconst 0, 1) := by decide +kernel
theorem dX11_middle_56 : decode cX11_middle 56 = .ok (.istore 4, 2) := by decide +kernel
theorem dX11_middle_58 : decode cX11_middle 58 = .ok (.iconst 0, 1) := by decide +kernel
theorem dX11_middle_59 : decode cX11_middle 59 = .ok (.istore 5, 2) := by decide +kernel
theorem dX11_middle_61 : decode cX11_middle 61 = .ok (.iload 5, 2) := by decide +kernel
theorem dX11_middle_63 : decode cX11_middle 63 = .ok (.aload_n 0, 1) := by decide +kernel
theorem dX11_middle_64 : decode cX11_middle 64 = .ok (.getfield 129, 3) := by decide +kernel
theorem dX11_middle_67 : decode cX11_middle 67 = .ok (.if_icmp .ge 26, 3) := by decide +kernel
theorem dX11_middle_70 : decode cX11_middle 70 = .ok (.iload 4, 2) := by decide +kernel
theorem dX11_middle_72 : decode cX11_middle 72 = .ok (.aload_n 0, 1) := by decide +kernel
theorem dX11_middle_73 : decode cX11_middle 73 = .ok (.aload_n 0, 1) := by decide +kernel
theorem dX11_middle_74 : decode cX11_middle 74 = .ok (.getfield 50, 3) := by decide +kernel
theorem dX11_middle_77 : decode cX11_middle 77 = .ok (.iload 5, 2) := by decide +kernel
theorem dX11_middle_79 : decode cX11_middle 79 = .ok (.invokevirtual 292, 3) := by decide +kernel
theorem dX11_middle_82 : decode cX11_middle 82 = .ok (.invokestatic 279, 3) := by decide +kernel
theorem dX11_middle_85 : decode cX11_middle 85 = .ok (.istore 4, 2) := by decide +kernel
theorem dX11_middle_87 : decode cX11_middle 87 = .ok (.iinc 5 1, 3) := by decide +kernel
theorem dX11_middle_90 : decode cX11_middle 90 = .ok (.goto (-29), 3) := by decide +kernel
theorem dX11_middle_93 : decode cX11_middle 93 = .ok (.iload 4, 2) := by decide +kernel
theorem dX11_middle_95 : decode cX11_middle 95 = .ok (.iload_n 2, 1) := by decide +kernel
theorem dX11_middle_96 : decode cX11_middle 96 = .ok (.if_icmp .ge 7, 3) := by decide +kernel
theorem dX11_middle_99 : decode cX11_middle 99 = .ok (.iload_n 3, 1) := by decide +kernel
theorem dX11_middle_100 : decode cX11_middle 100 = .ok (.goto 4, 3) := by decide +kernel
theorem dX11_middle_103 : decode cX11_middle 103 = .ok (.iload_n 1, 1) := by decide +kernel
theorem dX11_middle_104 : decode cX11_middle 104 = .ok (.istore_n 1, 1) := by decide +kernel
theorem dX11_middle_105 : decode cX11_middle 105 = .ok (.iload_n 2, 1) := by decide +kernel
theorem dX11_middle_106 : decode cX11_middle 106 = .ok (.iload 4, 2) := by decide +kernel
theorem dX11_middle_108 : decode cX11_middle 108 = .ok (.invokestatic 150, 3) := by decide +kernel
theorem dX11_middle_111 : decode cX11_middle 111 = .ok (.istore_n 2, 1) := by decide +kernel
theorem dX11_middle_112 : decode cX11_middle 112 = .ok (.iinc 3 1, 3) := by decide +kernel
theorem dX11_middle_115 : decode cX11_middle 115 = .ok (.goto (-88), 3) := by decide +kernel
theorem dX11_middle_118 : decode cX11_middle 118 = .ok (.aload_n 0, 1) := by decide +kernel
theorem dX11_middle_119 : decode cX11_middle 119 = .ok (.iconst 0, 1) := by decide +kernel
theorem dX11_middle_120 : decode cX11_middle 120 = .ok (.putfield 15, 3) := by decide +kernel
theorem dX11_middle_123 : decode cX11_middle 123 = .ok (.aload_n 0, 1) := by decide +kernel
theorem dX11_middle_124 : decode cX11_middle 124 = .ok (.iload_n 1, 1) := by decide +kernel
theorem dX11_middle_125 : decode cX11_middle 125 = .ok (.bipush 10, 2) := by decide +kernel
theorem dX11_middle_127 : decode cX11_middle 127 = .ok (.idiv, 1) := by decide +kernel
theorem dX11_middle_128 : decode cX11_middle 128 = .ok (.i2l, 1) := by decide +kernel
theorem dX11_middle_129 : decode cX11_middle 129 = .ok (.invokevirtual 18, 3) := by decide +kernel
theorem dX11_middle_132 : decode cX11_middle 132 = .ok (.aload_n 0, 1) := by decide +kernel
theorem dX11_middle_133 : decode cX11_middle 133 = .ok (.iload_n 1, 1) := by decide +kernel
theorem dX11_middle_134 : decode cX11_middle 134 = .ok (.bipush 10, 2) := by decide +kernel
theorem dX11_middle_136 : decode cX11_middle 136 = .ok (.irem, 1) := by decide +kernel
theorem dX11_middle_137 : decode cX11_middle 137 = .ok (.i2l, 1) := by decide +kernel
theorem dX11_middle_138 : decode cX11_middle 138 = .ok (.invokevirtual 18, 3) := by decide +kernel
theorem dX11_middle_141 : decode cX11_middle 141 = .ok (.iload_n 2, 1) := by decide +kernel
theorem dX11_middle_142 : decode cX11_middle 142 = .ok (.ireturn, 1) := by decide +kernel
theorem s_X11_middle_61 {l1_15 l2_16 l3_17 : Int} {q : Int × xW} {k : Int → Int → xW → Option (Int × xW)} (hk : ∀ (l4_25 : Int) (l5_26 : Int) (s27 : xW), k l4_25 l5_26 s27 = some q → xG 5 0 0 mX11_middle 93 [vR 121, vI l1_15, vI l2_16, vI l3_17, vI l4_25, vI l5_26] [] 155 s27 (xRv (vI q.1) q.2)) : ∀ (f : Nat) (l4_18 : Int) (l5_19 : Int) (s20 : xW), F_X11_middle_61 l1_15 l2_16 l3_17 f l4_18 l5_19 s20 k = some q → xG 5 0 0 mX11_middle 61 [vR 121, vI l1_15, vI l2_16, vI l3_17, vI l4_18, vI l5_19] [] 155 s20 (xRv (vI q.1) q.2) := by
  intro f
  induction f with
  | zero => intro l4_18 l5_19 s20 h; cases h
  | succ f ih =>
    intro l4_18 l5_19 s20 h
    unfold F_X11_middle_61 at h
    refine g_il dX11_middle_61 rfl ?_
    refine g_aln dX11_middle_63 rfl rfl (by decide) ?_
    refine g_getI 3 dX11_middle_64 fl_X11_129 rfl rfl ?_
    refine g_wge dX11_middle_67 (tgt := 93) rfl rfl rfl (fun q21 => ?_) (fun q21 => ?_)
    · replace h := xif_f q21 h
      exact hk l4_18 l5_19 s20 h
    · replace h := xif_t q21 h
      refine g_il dX11_middle_70 rfl ?_
      refine g_aln dX11_middle_72 rfl rfl (by decide) ?_
      refine g_aln dX11_middle_73 rfl rfl (by decide) ?_
      refine g_getC 128 dX11_middle_74 fl_X11_50 rfl (by decide) ?_
      refine g_il dX11_middle_77 rfl ?_
      obtain ⟨r23, s24, e22, h⟩ := xbd_e h
      refine g_cV2v dX11_middle_79 ml_X11_292 rfl (s_X11_hears e22) (by decide) rfl ?_
      refine g_wmax dX11_middle_82 mx_X11_279 rfl rfl (by decide) rfl ?_
      refine g_ist_4 dX11_middle_85 (by decide) rfl ?_
      refine g_inc_5 dX11_middle_87 (by decide) rfl ?_
      refine g_goto dX11_middle_90 (tgt := 61) rfl ?_
      exact ih (max (xw l4_18) (xw r23)) (l5_19 + 1) s24 h
theorem s_X11_middle_27 {q : Int × xW} {k : Int → Int → Int → xW → Option (Int × xW)} (hk : ∀ (l1_35 : Int) (l2_36 : Int) (l3_37 : Int) (s38 : xW), k l1_35 l2_36 l3_37 s38 = some q → xG 5 0 0 mX11_middle 118 [vR 121, vI l1_35, vI l2_36, vI l3_37, vX, vX] [] 155 s38 (xRv (vI q.1) q.2)) : ∀ (f : Nat) (l1_6 : Int) (l2_7 : Int) (l3_8 : Int) (s9 : xW), F_X11_middle_27  f l1_6 l2_7 l3_8 s9 k = some q → xG 5 0 0 mX11_middle 27 [vR 121, vI l1_6, vI l2_7, vI l3_8, vX, vX] [] 155 s9 (xRv (vI q.1) q.2) := by
  intro f
  induction f with
  | zero => intro l1_6 l2_7 l3_8 s9 h; cases h
  | succ f ih =>
    intro l1_6 l2_7 l3_8 s9 h
    unfold F_X11_middle_27 at h
    refine g_iln dX11_middle_27 rfl rfl ?_
    refine g_bi dX11_middle_28 (by decide) ?_
    refine g_wge dX11_middle_30 (tgt := 118) rfl rfl (xw_id (by decide)) (fun q10 => ?_) (fun q10 => ?_)
    · replace h := xif_f q10 h
      exact hk l1_6 l2_7 l3_8 s9 h
    · replace h := xif_t q10 h
      refine g_aln dX11_middle_33 rfl rfl (by decide) ?_
      refine g_getC 128 dX11_middle_34 fl_X11_50 rfl (by decide) ?_
      refine g_bi dX11_middle_37 (by decide) ?_
      refine g_iln dX11_middle_39 rfl rfl ?_
      refine g_bi dX11_middle_40 (by decide) ?_
      refine g_wdiv dX11_middle_42 rfl (xw_id (by decide)) (by decide) ?_
      obtain ⟨s11, e12, h⟩ := xlt_e h
      refine h_iast 40 dX11_middle_43 rfl (by decide) (by decide) e12 ?_
      refine g_aln dX11_middle_44 rfl rfl (by decide) ?_
      refine g_getC 128 dX11_middle_45 fl_X11_50 rfl (by decide) ?_
      refine g_bi dX11_middle_48 (by decide) ?_
      refine g_iln dX11_middle_50 rfl rfl ?_
      refine g_bi dX11_middle_51 (by decide) ?_
      refine g_wrem dX11_middle_53 rfl (xw_id (by decide)) (by decide) ?_
      obtain ⟨s13, e14, h⟩ := xlt_e h
      refine h_iast 40 dX11_middle_54 rfl (by decide) (by decide) e14 ?_
      refine g_ic dX11_middle_55 ?_
      refine g_ist_4 dX11_middle_56 (by decide) rfl ?_
      refine g_ic dX11_middle_58 ?_
      refine g_ist_5 dX11_middle_59 (by decide) rfl ?_
      refine s_X11_middle_61 (fun l4_28 l5_29 s30 h => ?_) xN _ _ _ h
      refine g_il dX11_middle_93 rfl ?_
      refine g_iln dX11_middle_95 rfl rfl ?_
      obtain ⟨v32, e33, h⟩ := xlt_e h
      have hj34 : xG 5 0 0 mX11_middle 104 [vR 121, vX, vI l2_7, vI l3_8, vI l4_28, vX] [vI v32] 155 s30 (xRv (vI q.1) q.2) := by
        refine g_istn_1 dX11_middle_104 (by decide) rfl ?_
        refine g_iln dX11_middle_105 rfl rfl ?_
        refine g_il dX11_middle_106 rfl ?_
        refine g_wmin dX11_middle_108 mx_X11_150 rfl rfl (by decide) rfl ?_
        refine g_istn_2 dX11_middle_111 (by decide) rfl ?_
        refine g_inc_3 dX11_middle_112 (by decide) rfl ?_
        refine g_goto dX11_middle_115 (tgt := 27) rfl ?_
        refine g_drop_4 ?_
        exact ih v32 (min (xw l2_7) (xw l4_28)) (l3_8 + 1) s30 h
      refine g_wge dX11_middle_96 (tgt := 103) rfl rfl rfl (fun c31 => ?_) (fun c31 => ?_)
      · skip
        refine g_iln dX11_middle_103 rfl rfl ?_
        refine g_drop_1 ?_
        refine g_drop_5 ?_
        exact g_vq ((if_neg c31).symm.trans e33) hj34
      · skip
        refine g_iln dX11_middle_99 rfl rfl ?_
        refine g_goto dX11_middle_100 (tgt := 104) rfl ?_
        refine g_drop_1 ?_
        refine g_drop_5 ?_
        exact g_vq ((if_pos c31).symm.trans e33) hj34
theorem s_X11_middle {s0 : xW} {q : Int × xW} (h : F_X11_middle  s0 = some q) : xC 5 0 0 mX11_middle [vR 121] 155 s0 (xRv (vI q.1) q.2) := by
  refine xC.of [vR 121, vX, vX, vX, vX, vX] (by decide +kernel) (Nat.le_of_ble_eq_true rfl) rfl ?_
  unfold F_X11_middle at h
  refine g_aln dX11_middle_0 rfl rfl (by decide) ?_
  refine g_ic dX11_middle_1 ?_
  obtain ⟨s1, e2, h⟩ := xlt_e h
  refine h_putI 0 dX11_middle_2 fl_X11_3 rfl rfl e2 ?_
  refine g_aln dX11_middle_5 rfl rfl (by decide) ?_
  refine g_getI 3 dX11_middle_6 fl_X11_129 rfl rfl ?_
  refine g_yne dX11_middle_9 (tgt := 15) rfl rfl (fun q3 => ?_) (fun q3 => ?_)
  · replace h := xif_f q3 h
    refine g_aln dX11_middle_15 rfl rfl (by decide) ?_
    obtain ⟨s5, e4, h⟩ := xbp_e h
    refine g_cV00 dX11_middle_16 ml_X11_400 rfl (s_X11_copies e4) (by decide) rfl ?_
    refine g_ic dX11_middle_19 ?_
    refine g_istn_1 dX11_middle_20 (by decide) rfl ?_
    refine g_ldcw dX11_middle_21 ct_X11_419 (w := 1000000) rfl ?_
    refine g_istn_2 dX11_middle_24 (by decide) rfl ?_
    refine g_ic dX11_middle_25 ?_
    refine g_istn_3 dX11_middle_26 (by decide) rfl ?_
    refine s_X11_middle_27 (fun l1_39 l2_40 l3_41 s42 h => ?_) xN _ _ _ _ h
    refine g_aln dX11_middle_118 rfl rfl (by decide) ?_
    refine g_ic dX11_middle_119 ?_
    obtain ⟨s43, e44, h⟩ := xlt_e h
    refine h_putI 1 dX11_middle_120 fl_X11_15 rfl rfl e44 ?_
    refine g_aln dX11_middle_123 rfl rfl (by decide) ?_
    refine g_iln dX11_middle_124 rfl rfl ?_
    refine g_bi dX11_middle_125 (by decide) ?_
    refine g_wdiv dX11_middle_127 rfl (xw_id (by decide)) (by decide) ?_
    refine g_wi2l dX11_middle_128 rfl ?_
    obtain ⟨s46, e45, h⟩ := xbp_e h
    refine g_cV10 dX11_middle_129 ml_X11_18 rfl (s_X11_enters e45) (by decide) rfl ?_
    refine g_aln dX11_middle_132 rfl rfl (by decide) ?_
    refine g_iln dX11_middle_133 rfl rfl ?_
    refine g_bi dX11_middle_134 (by decide) ?_
    refine g_wrem dX11_middle_136 rfl (xw_id (by decide)) (by decide) ?_
    refine g_wi2l dX11_middle_137 rfl ?_
    obtain ⟨s48, e47, h⟩ := xbp_e h
    refine g_cV10 dX11_middle_138 ml_X11_18 rfl (s_X11_enters e47) (by decide) rfl ?_
    refine g_iln dX11_middle_141 rfl rfl ?_
    exact g_rI rfl dX11_middle_142 h
  · replace h := xif_t q3 h
    refine g_bi dX11_middle_12 (by decide) ?_
    exact g_rI rfl dX11_middle_14 h
theorem dX11_tellsFraction_0 : decode cX11_tellsFraction 0 = .ok (.lload_n 1, 1) := by decide +kernel
theorem dX11_tellsFraction_1 : decode cX11_tellsFraction 1 = .ok (.lload_n 3, 1) := by decide +kernel
theorem dX11_tellsFraction_2 : decode cX11_tellsFraction 2 = .ok (.invokestatic 7, 3) := by decide +kernel
theorem dX11_tellsFraction_5 : decode cX11_tellsFraction 5 = .ok (.lstore 5, 2) := by decide +kernel
theorem dX11_tellsFraction_7 : decode cX11_tellsFraction 7 = .ok (.aload_n 0, 1) := by decide +kernel
theorem dX11_tellsFraction_8 : decode cX11_tellsFraction 8 = .ok (.iconst 0, 1) := by decide +kernel
theorem dX11_tellsFraction_9 : decode cX11_tellsFraction 9 = .ok (.putfield 15, 3) := by decide +kernel
theorem dX11_tellsFraction_12 : decode cX11_tellsFraction 12 = .ok (.aload_n 0, 1) := by decide +kernel
theorem dX11_tellsFraction_13 : decode cX11_tellsFraction 13 = .ok (.lload_n 1, 1) := by decide +kernel
theorem dX11_tellsFraction_14 : decode cX11_tellsFraction 14 = .ok (.lload 5, 2) := by decide +kernel
theorem dX11_tellsFraction_16 : decode cX11_tellsFraction 16 = .ok (.ldiv, 1) := by decide +kernel
theorem dX11_tellsFraction_17 : decode cX11_tellsFraction 17 = .ok (.invokevirtual 18, 3) := by decide +kernel
theorem dX11_tellsFraction_20 : decode cX11_tellsFraction 20 = .ok (.aload_n 0, 1) := by decide +kernel
theorem dX11_tellsFraction_21 : decode cX11_tellsFraction 21 = .ok (.lload_n 3, 1) := by decide +kernel
theorem dX11_tellsFraction_22 : decode cX11_tellsFraction 22 = .ok (.lload 5, 2) := by decide +kernel
theorem dX11_tellsFraction_24 : decode cX11_tellsFraction 24 = .ok (.ldiv, 1) := by decide +kernel
theorem dX11_tellsFraction_25 : decode cX11_tellsFraction 25 = .ok (.invokevirtual 18, 3) := by decide +kernel
theorem dX11_tellsFraction_28 : decode cX11_tellsFraction 28 = .ok (.return_, 1) := by decide +kernel
theorem s_X11_tellsFraction {a1 a3 : Int} {s0 : xW} {q : xW} (h : F_X11_tellsFraction a1 a3 s0 = some q) : xC 201 0 0 mX11_tellsFraction [vR 121, vL a1, vL a3] 155 s0 (xR0 q) := by
  refine xC.of [vR 121, vL a1, vX, vL a3, vX, vX, vX] (by decide +kernel) (Nat.le_of_ble_eq_true rfl) rfl ?_
  unfold F_X11_tellsFraction at h
  refine g_lln dX11_tellsFraction_0 rfl rfl ?_
  refine g_lln dX11_tellsFraction_1 rfl rfl ?_
  obtain ⟨r2, e1, h⟩ := xbp_e h
  refine g_cS2v dX11_tellsFraction_2 ml_X11_7 (s_X11_common e1) (by decide) rfl ?_
  refine g_lst_5 dX11_tellsFraction_5 (by decide) rfl ?_
  refine g_aln dX11_tellsFraction_7 rfl rfl (by decide) ?_
  refine g_ic dX11_tellsFraction_8 ?_
  obtain ⟨s3, e4, h⟩ := xlt_e h
  refine h_putI 1 dX11_tellsFraction_9 fl_X11_15 rfl rfl e4 ?_
  refine g_aln dX11_tellsFraction_12 rfl rfl (by decide) ?_
  refine g_lln dX11_tellsFraction_13 rfl rfl ?_
  refine g_ll dX11_tellsFraction_14 rfl ?_
  obtain ⟨hg5, h⟩ := xgd_e h
  refine g_wldiv dX11_tellsFraction_16 rfl rfl hg5 ?_
  obtain ⟨s7, e6, h⟩ := xbp_e h
  refine g_cV10 dX11_tellsFraction_17 ml_X11_18 rfl (s_X11_enters e6) (by decide) rfl ?_
  refine g_aln dX11_tellsFraction_20 rfl rfl (by decide) ?_
  refine g_lln dX11_tellsFraction_21 rfl rfl ?_
  refine g_ll dX11_tellsFraction_22 rfl ?_
  obtain ⟨hg8, h⟩ := xgd_e h
  refine g_wldiv dX11_tellsFraction_24 rfl rfl hg8 ?_
  obtain ⟨s10, e9, h⟩ := xbp_e h
  refine g_cV10 dX11_tellsFraction_25 ml_X11_18 rfl (s_X11_enters e9) (by decide) rfl ?_
  exact g_rV rfl dX11_tellsFraction_28 h
theorem dX11_misfires_0 : decode cX11_misfires 0 = .ok (.aload_n 0, 1) := by decide +kernel
theorem dX11_misfires_1 : decode cX11_misfires 1 = .ok (.iconst 0, 1) := by decide +kernel
theorem dX11_misfires_2 : decode cX11_misfires 2 = .ok (.putfield 3, 3) := by decide +kernel
theorem dX11_misfires_5 : decode cX11_misfires 5 = .ok (.iload_n 1, 1) := by decide +kernel
theorem dX11_misfires_6 : decode cX11_misfires 6 = .ok (.i2l, 1) := by decide +kernel
theorem dX11_misfires_7 : decode cX11_misfires 7 = .ok (.lconst 1, 1) := by decide +kernel
theorem dX11_misfires_8 : decode cX11_misfires 8 = .ok (.ldc2_w 433, 3) := by decide +kernel
theorem dX11_misfires_11 : decode cX11_misfires 11 = .ok (.invokestatic 132, 3) := by decide +kernel
theorem dX11_misfires_14 : decode cX11_misfires 14 = .ok (.ifCond .eq 27, 3) := by decide +kernel
theorem dX11_misfires_17 : decode cX11_misfires 17 = .ok (.iload_n 2, 1) := by decide +kernel
theorem dX11_misfires_18 : decode cX11_misfires 18 = .ok (.i2l, 1) := by decide +kernel
theorem dX11_misfires_19 : decode cX11_misfires 19 = .ok (.lconst 1, 1) := by decide +kernel
theorem dX11_misfires_20 : decode cX11_misfires 20 = .ok (.ldc2_w 433, 3) := by decide +kernel
theorem dX11_misfires_23 : decode cX11_misfires 23 = .ok (.invokestatic 132, 3) := by decide +kernel
theorem dX11_misfires_26 : decode cX11_misfires 26 = .ok (.ifCond .eq 15, 3) := by decide +kernel
theorem dX11_misfires_29 : decode cX11_misfires 29 = .ok (.iload_n 3, 1) := by decide +kernel
theorem dX11_misfires_30 : decode cX11_misfires 30 = .ok (.i2l, 1) := by decide +kernel
theorem dX11_misfires_31 : decode cX11_misfires 31 = .ok (.lconst 0, 1) := by decide +kernel
theorem dX11_misfires_32 : decode cX11_misfires 32 = .ok (.ldc2_w 435, 3) := by decide +kernel
theorem dX11_misfires_35 : decode cX11_misfires 35 = .ok (.invokestatic 132, 3) := by decide +kernel
theorem dX11_misfires_38 : decode cX11_misfires 38 = .ok (.ifCond .ne 5, 3) := by decide +kernel
theorem dX11_misfires_41 : decode cX11_misfires 41 = .ok (.iconst (-1), 1) := by decide +kernel
theorem dX11_misfires_42 : decode cX11_misfires 42 = .ok (.ireturn, 1) := by decide +kernel
theorem dX11_misfires_43 : decode cX11_misfires 43 = .ok (.lconst 1, 1) := by decide +kernel
theorem dX11_misfires_44 : decode cX11_misfires 44 = .ok (.lstore 4, 2) := by decide +kernel
theorem dX11_misfires_46 : decode cX11_misfires 46 = .ok (.iconst 0, 1) := by decide +kernel
theorem dX11_misfires_47 : decode cX11_misfires 47 = .ok (.istore 6, 2) := by decide +kernel
theorem dX11_misfires_49 : decode cX11_misfires 49 = .ok (.iload 6, 2) := by decide +kernel
theorem dX11_misfires_51 : decode cX11_misfires 51 = .ok (.iload_n 2, 1) := by decide +kernel
theorem dX11_misfires_52 : decode cX11_misfires 52 = .ok (.if_icmp .gt 30, 3) := by decide +kernel
theorem dX11_misfires_55 : decode cX11_misfires 55 = .ok (.aload_n 0, 1) := by decide +kernel
theorem dX11_misfires_56 : decode cX11_misfires 56 = .ok (.getfield 110, 3) := by decide +kernel
theorem dX11_misfires_59 : decode cX11_misfires 59 = .ok (.iload 6, 2) := by decide +kernel
theorem dX11_misfires_61 : decode cX11_misfires 61 = .ok (.iload 6, 2) := by decide +kernel
theorem dX11_misfires_63 : decode cX11_misfires 63 = .ok (.ifCond .ne 7, 3) := by decide +kernel
theorem dX11_misfires_66 : decode cX11_misfires 66 = .ok (.iconst 1, 1) := by decide +kernel
theorem dX11_misfires_67 : decode cX11_misfires 67 = .ok (.goto 4, 3) := by decide +kernel
theorem dX11_misfires_70 : decode cX11_misfires 70 = .ok (.iconst 0, 1) := by decide +kernel
theorem dX11_misfires_71 : decode cX11_misfires 71 = .ok (.invokestatic 159, 3) := by decide +kernel
theorem dX11_misfires_74 : decode cX11_misfires 74 = .ok (.i2l, 1) := by decide +kernel
theorem dX11_misfires_75 : decode cX11_misfires 75 = .ok (.lastore, 1) := by decide +kernel
theorem dX11_misfires_76 : decode cX11_misfires 76 = .ok (.iinc 6 1, 3) := by decide +kernel
theorem dX11_misfires_79 : decode cX11_misfires 79 = .ok (.goto (-30), 3) := by decide +kernel
theorem dX11_misfires_82 : decode cX11_misfires 82 = .ok (.iconst 0, 1) := by decide +kernel
theorem dX11_misfires_83 : decode cX11_misfires 83 = .ok (.istore 6, 2) := by decide +kernel
theorem dX11_misfires_85 : decode cX11_misfires 85 = .ok (.iload 6, 2) := by decide +kernel
theorem dX11_misfires_87 : decode cX11_misfires 87 = .ok (.iload_n 1, 1) := by decide +kernel
theorem dX11_misfires_88 : decode cX11_misfires 88 = .ok (.if_icmp .ge 81, 3) := by decide +kernel
theorem dX11_misfires_91 : decode cX11_misfires 91 = .ok (.lconst 0, 1) := by decide +kernel
theorem dX11_misfires_92 : decode cX11_misfires 92 = .ok (.lstore 7, 2) := by decide +kernel
theorem dX11_misfires_94 : decode cX11_misfires 94 = .ok (.iload_n 2, 1) := by decide +kernel
theorem dX11_misfires_95 : decode cX11_misfires 95 = .ok (.iconst 1, 1) := by decide +kernel
theorem dX11_misfires_96 : decode cX11_misfires 96 = .ok (.isub, 1) := by decide +kernel
theorem dX11_misfires_97 : decode cX11_misfires 97 = .ok (.istore 9, 2) := by decide +kernel
theorem dX11_misfires_99 : decode cX11_misfires 99 = .ok (.iload 9, 2) := by decide +kernel
theorem dX11_misfires_101 : decode cX11_misfires 101 = .ok (.ifCond .lt 40, 3) := by decide +kernel
theorem dX11_misfires_104 : decode cX11_misfires 104 = .ok (.lload 7, 2) := by decide +kernel
theorem dX11_misfires_106 : decode cX11_misfires 106 = .ok (.aload_n 0, 1) := by decide +kernel
theorem dX11_misfires_107 : decode cX11_misfires 107 = .ok (.getfield 110, 3) := by decide +kernel
theorem dX11_misfires_110 : decode cX11_misfires 110 = .ok (.iload 9, 2) := by decide +kernel
theorem dX11_misfires_112 : decode cX11_misfires 112 = .ok (.laload, 1) := by decide +kernel
theorem dX11_misfires_113 : decode cX11_misfires 113 = .ok (.ladd, 1) := by decide +kernel
theorem dX11_misfires_114 : decode cX11_misfires 114 = .ok (.lstore 7, 2) := by decide +kernel
theorem dX11_misfires_116 : decode cX11_misfires 116 = .ok (.aload_n 0, 1) := by decide +kernel
theorem dX11_misfires_117 : decode cX11_misfires 117 = .ok (.getfield 110, 3) := by decide +kernel
theorem dX11_misfires_120 : decode cX11_misfires 120 = .ok (.iload 9, 2) := by decide +kernel
theorem dX11_misfires_122 : decode cX11_misfires 122 = .ok (.iconst 1, 1) := by decide +kernel
theorem dX11_misfires_123 : decode cX11_misfires 123 = .ok (.iadd, 1) := by decide +kernel
theorem dX11_misfires_124 : decode cX11_misfires 124 = .ok (.aload_n 0, 1) := by decide +kernel
theorem dX11_misfires_125 : decode cX11_misfires 125 = .ok (.getfield 110, 3) := by decide +kernel
theorem dX11_misfires_128 : decode cX11_misfires 128 = .ok (.iload 9, 2) := by decide +kernel
theorem dX11_misfires_130 : decode cX11_misfires 130 = .ok (.laload, 1) := by decide +kernel
theorem dX11_misfires_131 : decode cX11_misfires 131 = .ok (.iload_n 3, 1) := by decide +kernel
theorem dX11_misfires_132 : decode cX11_misfires 132 = .ok (.i2l, 1) := by decide +kernel
theorem dX11_misfires_133 : decode cX11_misfires 133 = .ok (.lmul, 1) := by decide +kernel
theorem dX11_misfires_134 : decode cX11_misfires 134 = .ok (.lastore, 1) := by decide +kernel
theorem dX11_misfires_135 : decode cX11_misfires 135 = .ok (.iinc 9 (-1), 3) := by decide +kernel
theorem dX11_misfires_138 : decode cX11_misfires 138 = .ok (.goto (-39), 3) := by decide +kernel
theorem dX11_misfires_141 : decode cX11_misfires 141 = .ok (.aload_n 0, 1) := by decide +kernel
theorem dX11_misfires_142 : decode cX11_misfires 142 = .ok (.getfield 110, 3) := by decide +kernel
theorem dX11_misfires_145 : decode cX11_misfires 145 = .ok (.iconst 0, 1) := by decide +kernel
theorem dX11_misfires_146 : decode cX11_misfires 146 = .ok (.lload 7, 2) := by decide +kernel
theorem dX11_misfires_148 : decode cX11_misfires 148 = .ok (.bipush 10, 2) := by decide +kernel
theorem dX11_misfires_150 : decode cX11_misfires 150 = .ok (.iload_n 3, 1) := by decide +kernel
theorem dX11_misfires_151 : decode cX11_misfires 151 = .ok (.isub, 1) := by decide +kernel
theorem dX11_misfires_152 : decode cX11_misfires 152 = .ok (.i2l, 1) := by decide +kernel
theorem dX11_misfires_153 : decode cX11_misfires 153 = .ok (.lmul, 1) := by decide +kernel
theorem dX11_misfires_154 : decode cX11_misfires 154 = .ok (.lastore, 1) := by decide +kernel
theorem dX11_misfires_155 : decode cX11_misfires 155 = .ok (.lload 4, 2) := by decide +kernel
theorem dX11_misfires_157 : decode cX11_misfires 157 = .ok (.ldc2_w 435, 3) := by decide +kernel
theorem dX11_misfires_160 : decode cX11_misfires 160 = .ok (.lmul, 1) := by decide +kernel
theorem dX11_misfires_161 : decode cX11_misfires 161 = .ok (.lstore 4, 2) := by decide +kernel
theorem dX11_misfires_163 : decode cX11_misfires 163 = .ok (.iinc 6 1, 3) := by decide +kernel
theorem dX11_misfires_166 : decode cX11_misfires 166 = .ok (.goto (-81), 3) := by decide +kernel
theorem dX11_misfires_169 : decode cX11_misfires 169 = .ok (.lconst 0, 1) := by decide +kernel
theorem dX11_misfires_170 : decode cX11_misfires 170 = .ok (.lstore 6, 2) := by decide +kernel
theorem dX11_misfires_172 : decode cX11_misfires 172 = .ok (.iconst 0, 1) := by decide +kernel
theorem dX11_misfires_173 : decode cX11_misfires 173 = .ok (.istore 8, 2) := by decide +kernel
theorem dX11_misfires_175 : decode cX11_misfires 175 = .ok (.iload 8, 2) := by decide +kernel
theorem dX11_misfires_177 : decode cX11_misfires 177 = .ok (.iload_n 2, 1) := by decide +kernel
theorem dX11_misfires_178 : decode cX11_misfires 178 = .ok (.if_icmp .ge 21, 3) := by decide +kernel
theorem dX11_misfires_181 : decode cX11_misfires 181 = .ok (.lload 6, 2) := by decide +kernel
theorem dX11_misfires_183 : decode cX11_misfires 183 = .ok (.aload_n 0, 1) := by decide +kernel
theorem dX11_misfires_184 : decode cX11_misfires 184 = .ok (.getfield 110, 3) := by decide +kernel
theorem dX11_misfires_187 : decode cX11_misfires 187 = .ok (.iload 8, 2) := by decide +kernel
theorem dX11_misfires_189 : decode cX11_misfires 189 = .ok (.laload, 1) := by decide +kernel
theorem dX11_misfires_190 : decode cX11_misfires 190 = .ok (.ladd, 1) := by decide +kernel
theorem dX11_misfires_191 : decode cX11_misfires 191 = .ok (.lstore 6, 2) := by decide +kernel
theorem dX11_misfires_193 : decode cX11_misfires 193 = .ok (.iinc 8 1, 3) := by decide +kernel
theorem dX11_misfires_196 : decode cX11_misfires 196 = .ok (.goto (-21), 3) := by decide +kernel
theorem dX11_misfires_199 : decode cX11_misfires 199 = .ok (.aload_n 0, 1) := by decide +kernel
theorem dX11_misfires_200 : decode cX11_misfires 200 = .ok (.lload 6, 2) := by decide +kernel
theorem dX11_misfires_202 : decode cX11_misfires 202 = .ok (.lload 4, 2) := by decide +kernel
theorem dX11_misfires_204 : decode cX11_misfires 204 = .ok (.invokevirtual 437, 3) := by decide +kernel
theorem dX11_misfires_207 : decode cX11_misfires 207 = .ok (.iconst 0, 1) := by decide +kernel
theorem dX11_misfires_208 : decode cX11_misfires 208 = .ok (.ireturn, 1) := by decide +kernel
theorem s_X11_misfires_49 {l1_15 l2_16 l3_17 l4_18 : Int} {q : Int × xW} {k : Int → xW → Option (Int × xW)} (hk : ∀ (l6_31 : Int) (s32 : xW), k l6_31 s32 = some q → xG 202 0 0 mX11_misfires 82 [vR 121, vI l1_15, vI l2_16, vI l3_17, vL l4_18, vX, vI l6_31, vX, vX, vX] [] 155 s32 (xRv (vI q.1) q.2)) : ∀ (f : Nat) (l6_19 : Int) (s20 : xW), F_X11_misfires_49 l1_15 l2_16 l3_17 l4_18 f l6_19 s20 k = some q → xG 202 0 0 mX11_misfires 49 [vR 121, vI l1_15, vI l2_16, vI l3_17, vL l4_18, vX, vI l6_19, vX, vX, vX] [] 155 s20 (xRv (vI q.1) q.2) := by
  intro f
  induction f with
  | zero => intro l6_19 s20 h; cases h
  | succ f ih =>
    intro l6_19 s20 h
    unfold F_X11_misfires_49 at h
    refine g_il dX11_misfires_49 rfl ?_
    refine g_iln dX11_misfires_51 rfl rfl ?_
    refine g_wgt dX11_misfires_52 (tgt := 82) rfl rfl rfl (fun q21 => ?_) (fun q21 => ?_)
    · replace h := xif_f q21 h
      exact hk l6_19 s20 h
    · replace h := xif_t q21 h
      refine g_aln dX11_misfires_55 rfl rfl (by decide) ?_
      refine g_getC 148 dX11_misfires_56 fl_X11_110 rfl (by decide) ?_
      refine g_il dX11_misfires_59 rfl ?_
      refine g_il dX11_misfires_61 rfl ?_
      obtain ⟨v23, e24, h⟩ := xlt_e h
      have hj25 : xG 202 0 0 mX11_misfires 71 [vR 121, vI l1_15, vI l2_16, vI l3_17, vL l4_18, vX, vI l6_19, vX, vX, vX] [vI v23, vI l6_19, vR 148] 155 s20 (xRv (vI q.1) q.2) := by
        obtain ⟨r27, e26, h⟩ := xbp_e h
        refine g_cS1v dX11_misfires_71 ml_X11_159 (s_X11_flag e26) (by decide) rfl ?_
        refine g_wi2l dX11_misfires_74 rfl ?_
        obtain ⟨hg28, h⟩ := xgd_e h
        obtain ⟨s29, e30, h⟩ := xlt_e h
        refine h_last 17 dX11_misfires_75 rfl hg28 (by decide) e30 ?_
        refine g_inc_6 dX11_misfires_76 (by decide) rfl ?_
        refine g_goto dX11_misfires_79 (tgt := 49) rfl ?_
        exact ih (l6_19 + 1) s29 h
      refine g_yne dX11_misfires_63 (tgt := 70) rfl rfl (fun c22 => ?_) (fun c22 => ?_)
      · skip
        refine g_ic dX11_misfires_70 ?_
        exact g_vq ((if_neg c22).symm.trans e24) hj25
      · skip
        refine g_ic dX11_misfires_66 ?_
        refine g_goto dX11_misfires_67 (tgt := 71) rfl ?_
        exact g_vq ((if_pos c22).symm.trans e24) hj25
theorem s_X11_misfires_99 {l1_42 l2_43 l3_44 l4_45 l6_46 : Int} {q : Int × xW} {k : Int → Int → xW → Option (Int × xW)} (hk : ∀ (l7_56 : Int) (l9_57 : Int) (s58 : xW), k l7_56 l9_57 s58 = some q → xG 202 0 0 mX11_misfires 141 [vR 121, vI l1_42, vI l2_43, vI l3_44, vL l4_45, vX, vI l6_46, vL l7_56, vX, vI l9_57] [] 155 s58 (xRv (vI q.1) q.2)) : ∀ (f : Nat) (l7_47 : Int) (l9_48 : Int) (s49 : xW), F_X11_misfires_99 l1_42 l2_43 l3_44 l4_45 l6_46 f l7_47 l9_48 s49 k = some q → xG 202 0 0 mX11_misfires 99 [vR 121, vI l1_42, vI l2_43, vI l3_44, vL l4_45, vX, vI l6_46, vL l7_47, vX, vI l9_48] [] 155 s49 (xRv (vI q.1) q.2) := by
  intro f
  induction f with
  | zero => intro l7_47 l9_48 s49 h; cases h
  | succ f ih =>
    intro l7_47 l9_48 s49 h
    unfold F_X11_misfires_99 at h
    refine g_il dX11_misfires_99 rfl ?_
    refine g_ylt dX11_misfires_101 (tgt := 141) rfl rfl (fun q50 => ?_) (fun q50 => ?_)
    · replace h := xif_f q50 h
      exact hk l7_47 l9_48 s49 h
    · replace h := xif_t q50 h
      refine g_ll dX11_misfires_104 rfl ?_
      refine g_aln dX11_misfires_106 rfl rfl (by decide) ?_
      refine g_getC 148 dX11_misfires_107 fl_X11_110 rfl (by decide) ?_
      refine g_il dX11_misfires_110 rfl ?_
      obtain ⟨hg51, h⟩ := xgd_e h
      refine g_lald 17 dX11_misfires_112 rfl hg51 (by decide) ?_
      refine g_ladd dX11_misfires_113 ?_
      refine g_lst_7 dX11_misfires_114 (by decide) rfl ?_
      refine g_aln dX11_misfires_116 rfl rfl (by decide) ?_
      refine g_getC 148 dX11_misfires_117 fl_X11_110 rfl (by decide) ?_
      refine g_il dX11_misfires_120 rfl ?_
      refine g_ic dX11_misfires_122 ?_
      refine g_iadd dX11_misfires_123 ?_
      refine g_aln dX11_misfires_124 rfl rfl (by decide) ?_
      refine g_getC 148 dX11_misfires_125 fl_X11_110 rfl (by decide) ?_
      refine g_il dX11_misfires_128 rfl ?_
      obtain ⟨hg52, h⟩ := xgd_e h
      refine g_lald 17 dX11_misfires_130 rfl hg52 (by decide) ?_
      refine g_iln dX11_misfires_131 rfl rfl ?_
      refine g_wi2l dX11_misfires_132 rfl ?_
      refine g_lmul dX11_misfires_133 ?_
      obtain ⟨hg53, h⟩ := xgd_e h
      obtain ⟨s54, e55, h⟩ := xlt_e h
      refine h_last 17 dX11_misfires_134 rfl hg53 (by decide) e55 ?_
      refine g_inc_9 dX11_misfires_135 (by decide) rfl ?_
      refine g_goto dX11_misfires_138 (tgt := 99) rfl ?_
      exact ih (l7_47 + (s49 148 l9_48)) (l9_48 + (-1)) s54 h
theorem s_X11_misfires_85 {l1_35 l2_36 l3_37 : Int} {q : Int × xW} {k : Int → Int → xW → Option (Int × xW)} (hk : ∀ (l4_64 : Int) (l6_65 : Int) (s66 : xW), k l4_64 l6_65 s66 = some q → xG 202 0 0 mX11_misfires 169 [vR 121, vI l1_35, vI l2_36, vI l3_37, vL l4_64, vX, vI l6_65, vX, vX, vX] [] 155 s66 (xRv (vI q.1) q.2)) : ∀ (f : Nat) (l4_38 : Int) (l6_39 : Int) (s40 : xW), F_X11_misfires_85 l1_35 l2_36 l3_37 f l4_38 l6_39 s40 k = some q → xG 202 0 0 mX11_misfires 85 [vR 121, vI l1_35, vI l2_36, vI l3_37, vL l4_38, vX, vI l6_39, vX, vX, vX] [] 155 s40 (xRv (vI q.1) q.2) := by
  intro f
  induction f with
  | zero => intro l4_38 l6_39 s40 h; cases h
  | succ f ih =>
    intro l4_38 l6_39 s40 h
    unfold F_X11_misfires_85 at h
    refine g_il dX11_misfires_85 rfl ?_
    refine g_iln dX11_misfires_87 rfl rfl ?_
    refine g_wge dX11_misfires_88 (tgt := 169) rfl rfl rfl (fun q41 => ?_) (fun q41 => ?_)
    · replace h := xif_f q41 h
      exact hk l4_38 l6_39 s40 h
    · replace h := xif_t q41 h
      refine g_lc dX11_misfires_91 (w := 0) rfl ?_
      refine g_lst_7 dX11_misfires_92 (by decide) rfl ?_
      refine g_iln dX11_misfires_94 rfl rfl ?_
      refine g_ic dX11_misfires_95 ?_
      refine g_isub dX11_misfires_96 ?_
      refine g_ist_9 dX11_misfires_97 (by decide) rfl ?_
      refine s_X11_misfires_99 (fun l7_59 l9_60 s61 h => ?_) xN _ _ _ h
      refine g_aln dX11_misfires_141 rfl rfl (by decide) ?_
      refine g_getC 148 dX11_misfires_142 fl_X11_110 rfl (by decide) ?_
      refine g_ic dX11_misfires_145 ?_
      refine g_ll dX11_misfires_146 rfl ?_
      refine g_bi dX11_misfires_148 (by decide) ?_
      refine g_iln dX11_misfires_150 rfl rfl ?_
      refine g_isub dX11_misfires_151 ?_
      refine g_wi2l dX11_misfires_152 rfl ?_
      refine g_lmul dX11_misfires_153 ?_
      obtain ⟨s62, e63, h⟩ := xlt_e h
      refine h_last 17 dX11_misfires_154 rfl (by decide) (by decide) e63 ?_
      refine g_ll dX11_misfires_155 rfl ?_
      refine g_ldc2 dX11_misfires_157 ct_X11_435 (w := 10) rfl ?_
      refine g_lmul dX11_misfires_160 ?_
      refine g_lst_4 dX11_misfires_161 (by decide) rfl ?_
      refine g_inc_6 dX11_misfires_163 (by decide) rfl ?_
      refine g_goto dX11_misfires_166 (tgt := 85) rfl ?_
      refine g_drop_7 ?_
      refine g_drop_9 ?_
      exact ih (l4_38 * 10) (l6_39 + 1) s62 h
theorem s_X11_misfires_175 {s74 : xW} {l2_70 l4_71 : Int} {q : Int × xW} {k : Int → Int → Option (Int × xW)} (hk : ∀ (l6_77 : Int) (l8_78 : Int), k l6_77 l8_78 = some q → xG 202 0 0 mX11_misfires 199 [vR 121, vX, vI l2_70, vX, vL l4_71, vX, vL l6_77, vX, vI l8_78, vX] [] 155 s74 (xRv (vI q.1) q.2)) : ∀ (f : Nat) (l6_72 : Int) (l8_73 : Int), F_X11_misfires_175 l2_70 l4_71 s74 f l6_72 l8_73 k = some q → xG 202 0 0 mX11_misfires 175 [vR 121, vX, vI l2_70, vX, vL l4_71, vX, vL l6_72, vX, vI l8_73, vX] [] 155 s74 (xRv (vI q.1) q.2) := by
  intro f
  induction f with
  | zero => intro l6_72 l8_73 h; cases h
  | succ f ih =>
    intro l6_72 l8_73 h
    unfold F_X11_misfires_175 at h
    refine g_il dX11_misfires_175 rfl ?_
    refine g_iln dX11_misfires_177 rfl rfl ?_
    refine g_wge dX11_misfires_178 (tgt := 199) rfl rfl rfl (fun q75 => ?_) (fun q75 => ?_)
    · replace h := xif_f q75 h
      exact hk l6_72 l8_73 h
    · replace h := xif_t q75 h
      refine g_ll dX11_misfires_181 rfl ?_
      refine g_aln dX11_misfires_183 rfl rfl (by decide) ?_
      refine g_getC 148 dX11_misfires_184 fl_X11_110 rfl (by decide) ?_
      refine g_il dX11_misfires_187 rfl ?_
      obtain ⟨hg76, h⟩ := xgd_e h
      refine g_lald 17 dX11_misfires_189 rfl hg76 (by decide) ?_
      refine g_ladd dX11_misfires_190 ?_
      refine g_lst_6 dX11_misfires_191 (by decide) rfl ?_
      refine g_inc_8 dX11_misfires_193 (by decide) rfl ?_
      refine g_goto dX11_misfires_196 (tgt := 175) rfl ?_
      exact ih (l6_72 + (s74 148 l8_73)) (l8_73 + 1) h
theorem s_X11_misfires {a1 a2 a3 : Int} {s0 : xW} {q : Int × xW} (h : F_X11_misfires a1 a2 a3 s0 = some q) : xC 202 0 0 mX11_misfires [vR 121, vI a1, vI a2, vI a3] 155 s0 (xRv (vI q.1) q.2) := by
  refine xC.of [vR 121, vI a1, vI a2, vI a3, vX, vX, vX, vX, vX, vX] (by decide +kernel) (Nat.le_of_ble_eq_true rfl) rfl ?_
  unfold F_X11_misfires at h
  refine g_aln dX11_misfires_0 rfl rfl (by decide) ?_
  refine g_ic dX11_misfires_1 ?_
  obtain ⟨s1, e2, h⟩ := xlt_e h
  refine h_putI 0 dX11_misfires_2 fl_X11_3 rfl rfl e2 ?_
  refine g_iln dX11_misfires_5 rfl rfl ?_
  refine g_wi2l dX11_misfires_6 rfl ?_
  refine g_lc dX11_misfires_7 (w := 1) rfl ?_
  refine g_ldc2 dX11_misfires_8 ct_X11_433 (w := 15) rfl ?_
  obtain ⟨r4, e3, h⟩ := xbp_e h
  refine g_cS3v dX11_misfires_11 ml_X11_132 (s_X11_in e3) (by decide) rfl ?_
  obtain ⟨j5, ej6, h⟩ := xjn_e h
  have hj7 : j5  = some q → xG 202 0 0 mX11_misfires 41 [vX, vX, vX, vX, vX, vX, vX, vX, vX, vX] [] 155 s1 (xRv (vI q.1) q.2) := by
    intro  h
    rw [ej6] at h
    refine g_ic dX11_misfires_41 ?_
    exact g_rI rfl dX11_misfires_42 h
  clear ej6
  refine g_yeq dX11_misfires_14 (tgt := 41) rfl rfl (fun q8 => ?_) (fun q8 => ?_)
  · replace h := xif_f q8 h
    refine g_drop_0 ?_
    refine g_drop_1 ?_
    refine g_drop_2 ?_
    refine g_drop_3 ?_
    exact hj7  h
  · replace h := xif_t q8 h
    refine g_iln dX11_misfires_17 rfl rfl ?_
    refine g_wi2l dX11_misfires_18 rfl ?_
    refine g_lc dX11_misfires_19 (w := 1) rfl ?_
    refine g_ldc2 dX11_misfires_20 ct_X11_433 (w := 15) rfl ?_
    obtain ⟨r10, e9, h⟩ := xbp_e h
    refine g_cS3v dX11_misfires_23 ml_X11_132 (s_X11_in e9) (by decide) rfl ?_
    refine g_yeq dX11_misfires_26 (tgt := 41) rfl rfl (fun q11 => ?_) (fun q11 => ?_)
    · replace h := xif_f q11 h
      refine g_drop_0 ?_
      refine g_drop_1 ?_
      refine g_drop_2 ?_
      refine g_drop_3 ?_
      exact hj7  h
    · replace h := xif_t q11 h
      refine g_iln dX11_misfires_29 rfl rfl ?_
      refine g_wi2l dX11_misfires_30 rfl ?_
      refine g_lc dX11_misfires_31 (w := 0) rfl ?_
      refine g_ldc2 dX11_misfires_32 ct_X11_435 (w := 10) rfl ?_
      obtain ⟨r13, e12, h⟩ := xbp_e h
      refine g_cS3v dX11_misfires_35 ml_X11_132 (s_X11_in e12) (by decide) rfl ?_
      refine g_yne dX11_misfires_38 (tgt := 43) rfl rfl (fun q14 => ?_) (fun q14 => ?_)
      · replace h := xif_f q14 h
        refine g_lc dX11_misfires_43 (w := 1) rfl ?_
        refine g_lst_4 dX11_misfires_44 (by decide) rfl ?_
        refine g_ic dX11_misfires_46 ?_
        refine g_ist_6 dX11_misfires_47 (by decide) rfl ?_
        refine s_X11_misfires_49 (fun l6_33 s34 h => ?_) xN _ _ h
        refine g_ic dX11_misfires_82 ?_
        refine g_ist_6 dX11_misfires_83 (by decide) rfl ?_
        refine s_X11_misfires_85 (fun l4_67 l6_68 s69 h => ?_) xN _ _ _ h
        refine g_lc dX11_misfires_169 (w := 0) rfl ?_
        refine g_lst_6 dX11_misfires_170 (by decide) rfl ?_
        refine g_ic dX11_misfires_172 ?_
        refine g_ist_8 dX11_misfires_173 (by decide) rfl ?_
        refine g_drop_1 ?_
        refine g_drop_3 ?_
        refine s_X11_misfires_175 (fun l6_79 l8_80 h => ?_) xN _ _ h
        refine g_aln dX11_misfires_199 rfl rfl (by decide) ?_
        refine g_ll dX11_misfires_200 rfl ?_
        refine g_ll dX11_misfires_202 rfl ?_
        obtain ⟨s82, e81, h⟩ := xbp_e h
        refine g_cV20 dX11_misfires_204 ml_X11_437 rfl (s_X11_tellsFraction e81) (by decide) rfl ?_
        refine g_ic dX11_misfires_207 ?_
        exact g_rI rfl dX11_misfires_208 h
      · replace h := xif_t q14 h
        refine g_drop_0 ?_
        refine g_drop_1 ?_
        refine g_drop_2 ?_
        refine g_drop_3 ?_
        exact hj7  h
theorem dX11_moves_0 : decode cX11_moves 0 = .ok (.aload_n 0, 1) := by decide +kernel
theorem dX11_moves_1 : decode cX11_moves 1 = .ok (.iconst 0, 1) := by decide +kernel
theorem dX11_moves_2 : decode cX11_moves 2 = .ok (.putfield 3, 3) := by decide +kernel
theorem dX11_moves_5 : decode cX11_moves 5 = .ok (.aload_n 0, 1) := by decide +kernel
theorem dX11_moves_6 : decode cX11_moves 6 = .ok (.invokevirtual 361, 3) := by decide +kernel
theorem dX11_moves_9 : decode cX11_moves 9 = .ok (.aload_n 0, 1) := by decide +kernel
theorem dX11_moves_10 : decode cX11_moves 10 = .ok (.aload_n 0, 1) := by decide +kernel
theorem dX11_moves_11 : decode cX11_moves 11 = .ok (.aload_n 0, 1) := by decide +kernel
theorem dX11_moves_12 : decode cX11_moves 12 = .ok (.getfield 47, 3) := by decide +kernel
theorem dX11_moves_15 : decode cX11_moves 15 = .ok (.iload_n 1, 1) := by decide +kernel
theorem dX11_moves_16 : decode cX11_moves 16 = .ok (.iload_n 2, 1) := by decide +kernel
theorem dX11_moves_17 : decode cX11_moves 17 = .ok (.iload_n 3, 1) := by decide +kernel
theorem dX11_moves_18 : decode cX11_moves 18 = .ok (.invokevirtual 377, 3) := by decide +kernel
theorem dX11_moves_21 : decode cX11_moves 21 = .ok (.invokevirtual 370, 3) := by decide +kernel
theorem dX11_moves_24 : decode cX11_moves 24 = .ok (.ireturn, 1) := by decide +kernel
theorem s_X11_moves {a1 a2 a3 : Int} {s0 : xW} {q : Int × xW} (h : F_X11_moves a1 a2 a3 s0 = some q) : xC 4 0 0 mX11_moves [vR 121, vI a1, vI a2, vI a3] 155 s0 (xRv (vI q.1) q.2) := by
  refine xC.of [vR 121, vI a1, vI a2, vI a3] (by decide +kernel) (Nat.le_of_ble_eq_true rfl) rfl ?_
  unfold F_X11_moves at h
  refine g_aln dX11_moves_0 rfl rfl (by decide) ?_
  refine g_ic dX11_moves_1 ?_
  obtain ⟨s1, e2, h⟩ := xlt_e h
  refine h_putI 0 dX11_moves_2 fl_X11_3 rfl rfl e2 ?_
  refine g_aln dX11_moves_5 rfl rfl (by decide) ?_
  obtain ⟨s4, e3, h⟩ := xbp_e h
  refine g_cV00 dX11_moves_6 ml_X11_361 rfl (s_X11_putsBy e3) (by decide) rfl ?_
  refine g_aln dX11_moves_9 rfl rfl (by decide) ?_
  refine g_aln dX11_moves_10 rfl rfl (by decide) ?_
  refine g_aln dX11_moves_11 rfl rfl (by decide) ?_
  refine g_getC 127 dX11_moves_12 fl_X11_47 rfl (by decide) ?_
  refine g_iln dX11_moves_15 rfl rfl ?_
  refine g_iln dX11_moves_16 rfl rfl ?_
  refine g_iln dX11_moves_17 rfl rfl ?_
  obtain ⟨r6, s7, e5, h⟩ := xbd_e h
  refine g_cV4v dX11_moves_18 ml_X11_377 rfl (s_X11_movesTo e5) (by decide) rfl ?_
  obtain ⟨r9, s10, e8, h⟩ := xbd_e h
  refine g_cV1v dX11_moves_21 ml_X11_370 rfl (s_X11_counted e8) (by decide) rfl ?_
  exact g_rI rfl dX11_moves_24 h
theorem dX11_order_0 : decode cX11_order 0 = .ok (.aload_n 0, 1) := by decide +kernel
theorem dX11_order_1 : decode cX11_order 1 = .ok (.iconst 0, 1) := by decide +kernel
theorem dX11_order_2 : decode cX11_order 2 = .ok (.putfield 3, 3) := by decide +kernel
theorem dX11_order_5 : decode cX11_order 5 = .ok (.aload_n 0, 1) := by decide +kernel
theorem dX11_order_6 : decode cX11_order 6 = .ok (.aload_n 0, 1) := by decide +kernel
theorem dX11_order_7 : decode cX11_order 7 = .ok (.getfield 47, 3) := by decide +kernel
theorem dX11_order_10 : decode cX11_order 10 = .ok (.invokevirtual 303, 3) := by decide +kernel
theorem dX11_order_13 : decode cX11_order 13 = .ok (.aload_n 0, 1) := by decide +kernel
theorem dX11_order_14 : decode cX11_order 14 = .ok (.invokevirtual 394, 3) := by decide +kernel
theorem dX11_order_17 : decode cX11_order 17 = .ok (.aload_n 0, 1) := by decide +kernel
theorem dX11_order_18 : decode cX11_order 18 = .ok (.iconst 0, 1) := by decide +kernel
theorem dX11_order_19 : decode cX11_order 19 = .ok (.putfield 15, 3) := by decide +kernel
theorem dX11_order_22 : decode cX11_order 22 = .ok (.iconst 0, 1) := by decide +kernel
theorem dX11_order_23 : decode cX11_order 23 = .ok (.istore_n 1, 1) := by decide +kernel
theorem dX11_order_24 : decode cX11_order 24 = .ok (.iload_n 1, 1) := by decide +kernel
theorem dX11_order_25 : decode cX11_order 25 = .ok (.aload_n 0, 1) := by decide +kernel
theorem dX11_order_26 : decode cX11_order 26 = .ok (.getfield 136, 3) := by decide +kernel
theorem dX11_order_29 : decode cX11_order 29 = .ok (.if_icmp .ge 20, 3) := by decide +kernel
theorem dX11_order_32 : decode cX11_order 32 = .ok (.aload_n 0, 1) := by decide +kernel
theorem dX11_order_33 : decode cX11_order 33 = .ok (.aload_n 0, 1) := by decide +kernel
theorem dX11_order_34 : decode cX11_order 34 = .ok (.getfield 89, 3) := by decide +kernel
theorem dX11_order_37 : decode cX11_order 37 = .ok (.iload_n 1, 1) := by decide +kernel
theorem dX11_order_38 : decode cX11_order 38 = .ok (.iaload, 1) := by decide +kernel
theorem dX11_order_39 : decode cX11_order 39 = .ok (.i2l, 1) := by decide +kernel
theorem dX11_order_40 : decode cX11_order 40 = .ok (.invokevirtual 18, 3) := by decide +kernel
theorem dX11_order_43 : decode cX11_order 43 = .ok (.iinc 1 1, 3) := by decide +kernel
theorem dX11_order_46 : decode cX11_order 46 = .ok (.goto (-22), 3) := by decide +kernel
theorem dX11_order_49 : decode cX11_order 49 = .ok (.aload_n 0, 1) := by decide +kernel
theorem dX11_order_50 : decode cX11_order 50 = .ok (.getfield 136, 3) := by decide +kernel
theorem dX11_order_53 : decode cX11_order 53 = .ok (.ireturn, 1) := by decide +kernel
theorem s_X11_order_24 {q : Int × xW} {k : Int → xW → Option (Int × xW)} (hk : ∀ (l1_15 : Int) (s16 : xW), k l1_15 s16 = some q → xG 6 0 0 mX11_order 49 [vR 121, vI l1_15] [] 155 s16 (xRv (vI q.1) q.2)) : ∀ (f : Nat) (l1_9 : Int) (s10 : xW), F_X11_order_24  f l1_9 s10 k = some q → xG 6 0 0 mX11_order 24 [vR 121, vI l1_9] [] 155 s10 (xRv (vI q.1) q.2) := by
  intro f
  induction f with
  | zero => intro l1_9 s10 h; cases h
  | succ f ih =>
    intro l1_9 s10 h
    unfold F_X11_order_24 at h
    refine g_iln dX11_order_24 rfl rfl ?_
    refine g_aln dX11_order_25 rfl rfl (by decide) ?_
    refine g_getI 4 dX11_order_26 fl_X11_136 rfl rfl ?_
    refine g_wge dX11_order_29 (tgt := 49) rfl rfl rfl (fun q11 => ?_) (fun q11 => ?_)
    · replace h := xif_f q11 h
      exact hk l1_9 s10 h
    · replace h := xif_t q11 h
      refine g_aln dX11_order_32 rfl rfl (by decide) ?_
      refine g_aln dX11_order_33 rfl rfl (by decide) ?_
      refine g_getC 141 dX11_order_34 fl_X11_89 rfl (by decide) ?_
      refine g_iln dX11_order_37 rfl rfl ?_
      obtain ⟨hg12, h⟩ := xgd_e h
      refine g_iald 8 dX11_order_38 rfl hg12 (by decide) ?_
      refine g_wi2l dX11_order_39 rfl ?_
      obtain ⟨s14, e13, h⟩ := xbp_e h
      refine g_cV10 dX11_order_40 ml_X11_18 rfl (s_X11_enters e13) (by decide) rfl ?_
      refine g_inc_1 dX11_order_43 (by decide) rfl ?_
      refine g_goto dX11_order_46 (tgt := 24) rfl ?_
      exact ih (l1_9 + 1) s14 h
theorem s_X11_order {s0 : xW} {q : Int × xW} (h : F_X11_order  s0 = some q) : xC 6 0 0 mX11_order [vR 121] 155 s0 (xRv (vI q.1) q.2) := by
  refine xC.of [vR 121, vX] (by decide +kernel) (Nat.le_of_ble_eq_true rfl) rfl ?_
  unfold F_X11_order at h
  refine g_aln dX11_order_0 rfl rfl (by decide) ?_
  refine g_ic dX11_order_1 ?_
  obtain ⟨s1, e2, h⟩ := xlt_e h
  refine h_putI 0 dX11_order_2 fl_X11_3 rfl rfl e2 ?_
  refine g_aln dX11_order_5 rfl rfl (by decide) ?_
  refine g_aln dX11_order_6 rfl rfl (by decide) ?_
  refine g_getC 127 dX11_order_7 fl_X11_47 rfl (by decide) ?_
  obtain ⟨s4, e3, h⟩ := xbp_e h
  refine g_cV10 dX11_order_10 ml_X11_303 rfl (s_X11_laysBegins e3) (by decide) rfl ?_
  refine g_aln dX11_order_13 rfl rfl (by decide) ?_
  obtain ⟨s6, e5, h⟩ := xbp_e h
  refine g_cV00 dX11_order_14 ml_X11_394 rfl (s_X11_laysLine e5) (by decide) rfl ?_
  refine g_aln dX11_order_17 rfl rfl (by decide) ?_
  refine g_ic dX11_order_18 ?_
  obtain ⟨s7, e8, h⟩ := xlt_e h
  refine h_putI 1 dX11_order_19 fl_X11_15 rfl rfl e8 ?_
  refine g_ic dX11_order_22 ?_
  refine g_istn_1 dX11_order_23 (by decide) rfl ?_
  refine s_X11_order_24 (fun l1_17 s18 h => ?_) xN _ _ h
  refine g_aln dX11_order_49 rfl rfl (by decide) ?_
  refine g_getI 4 dX11_order_50 fl_X11_136 rfl rfl ?_
  exact g_rI rfl dX11_order_53 h
theorem dX11_quiet_0 : decode cX11_quiet 0 = .ok (.aload_n 0, 1) := by decide +kernel
theorem dX11_quiet_1 : decode cX11_quiet 1 = .ok (.iconst 0, 1) := by decide +kernel
theorem dX11_quiet_2 : decode cX11_quiet 2 = .ok (.putfield 3, 3) := by decide +kernel
theorem dX11_quiet_5 : decode cX11_quiet 5 = .ok (.aload_n 0, 1) := by decide +kernel
theorem dX11_quiet_6 : decode cX11_quiet 6 = .ok (.invokevirtual 400, 3) := by decide +kernel
theorem dX11_quiet_9 : decode cX11_quiet 9 = .ok (.bipush (-2), 2) := by decide +kernel
theorem dX11_quiet_11 : decode cX11_quiet 11 = .ok (.istore_n 1, 1) := by decide +kernel
theorem dX11_quiet_12 : decode cX11_quiet 12 = .ok (.iconst 0, 1) := by decide +kernel
theorem dX11_quiet_13 : decode cX11_quiet 13 = .ok (.istore_n 2, 1) := by decide +kernel
theorem dX11_quiet_14 : decode cX11_quiet 14 = .ok (.iconst 0, 1) := by decide +kernel
theorem dX11_quiet_15 : decode cX11_quiet 15 = .ok (.istore_n 3, 1) := by decide +kernel
theorem dX11_quiet_16 : decode cX11_quiet 16 = .ok (.iload_n 3, 1) := by decide +kernel
theorem dX11_quiet_17 : decode cX11_quiet 17 = .ok (.bipush 99, 2) := by decide +kernel
theorem dX11_quiet_19 : decode cX11_quiet 19 = .ok (.if_icmp .gt 61, 3) := by decide +kernel
theorem dX11_quiet_22 : decode cX11_quiet 22 = .ok (.aload_n 0, 1) := by decide +kernel
theorem dX11_quiet_23 : decode cX11_quiet 23 = .ok (.aload_n 0, 1) := by decide +kernel
theorem dX11_quiet_24 : decode cX11_quiet 24 = .ok (.getfield 50, 3) := by decide +kernel
theorem dX11_quiet_27 : decode cX11_quiet 27 = .ok (.invokevirtual 336, 3) := by decide +kernel
theorem dX11_quiet_30 : decode cX11_quiet 30 = .ok (.ifCond .ne 7, 3) := by decide +kernel
theorem dX11_quiet_33 : decode cX11_quiet 33 = .ok (.iconst 1, 1) := by decide +kernel
theorem dX11_quiet_34 : decode cX11_quiet 34 = .ok (.goto 4, 3) := by decide +kernel
theorem dX11_quiet_37 : decode cX11_quiet 37 = .ok (.iconst 0, 1) := by decide +kernel
theorem dX11_quiet_38 : decode cX11_quiet 38 = .ok (.istore 4, 2) := by decide +kernel
theorem dX11_quiet_40 : decode cX11_quiet 40 = .ok (.iload 4, 2) := by decide +kernel
theorem dX11_quiet_42 : decode cX11_quiet 42 = .ok (.ifCond .eq 11, 3) := by decide +kernel
theorem dX11_quiet_45 : decode cX11_quiet 45 = .ok (.iload_n 2, 1) := by decide +kernel
theorem dX11_quiet_46 : decode cX11_quiet 46 = .ok (.ifCond .ne 7, 3) := by decide +kernel
theorem dX11_quiet_49 : decode cX11_quiet 49 = .ok (.iload_n 3, 1) := by decide +kernel
theorem dX11_quiet_50 : decode cX11_quiet 50 = .ok (.goto 4, 3) := by decide +kernel
theorem dX11_quiet_53 : decode cX11_quiet 53 = .ok (.iload_n 1, 1) := by decide +kernel
theorem dX11_quiet_54 : decode cX11_quiet 54 = .ok (.istore_n 1, 1) := by decide +kernel
theorem dX11_quiet_55 : decode cX11_quiet 55 = .ok (.iload_n 2, 1) := by decide +kernel
theorem dX11_quiet_56 : decode cX11_quiet 56 = .ok (.iload 4, 2) := by decide +kernel
theorem dX11_quiet_58 : decode cX11_quiet 58 = .ok (.invokestatic 159, 3) := by decide +kernel
theorem dX11_quiet_61 : decode cX11_quiet 61 = .ok (.iadd, 1) := by decide +kernel
theorem dX11_quiet_62 : decode cX11_quiet 62 = .ok (.istore_n 2, 1) := by decide +kernel
theorem dX11_quiet_63 : decode cX11_quiet 63 = .ok (.aload_n 0, 1) := by decide +kernel
theorem dX11_quiet_64 : decode cX11_quiet 64 = .ok (.getfield 50, 3) := by decide +kernel
theorem dX11_quiet_67 : decode cX11_quiet 67 = .ok (.bipush 39, 2) := by decide +kernel
theorem dX11_quiet_69 : decode cX11_quiet 69 = .ok (.dup2, 1) := by decide +kernel
theorem dX11_quiet_70 : decode cX11_quiet 70 = .ok (.iaload, 1) := by decide +kernel
theorem dX11_quiet_71 : decode cX11_quiet 71 = .ok (.iconst 1, 1) := by decide +kernel
theorem dX11_quiet_72 : decode cX11_quiet 72 = .ok (.iadd, 1) := by decide +kernel
theorem dX11_quiet_73 : decode cX11_quiet 73 = .ok (.iastore, 1) := by decide +kernel
theorem dX11_quiet_74 : decode cX11_quiet 74 = .ok (.iinc 3 1, 3) := by decide +kernel
theorem dX11_quiet_77 : decode cX11_quiet 77 = .ok (.goto (-61), 3) := by decide +kernel
theorem dX11_quiet_80 : decode cX11_quiet 80 = .ok (.iload_n 2, 1) := by decide +kernel
theorem dX11_quiet_81 : decode cX11_quiet 81 = .ok (.ifCond .le 14, 3) := by decide +kernel
theorem dX11_quiet_84 : decode cX11_quiet 84 = .ok (.aload_n 0, 1) := by decide +kernel
theorem dX11_quiet_85 : decode cX11_quiet 85 = .ok (.iconst 0, 1) := by decide +kernel
theorem dX11_quiet_86 : decode cX11_quiet 86 = .ok (.putfield 15, 3) := by decide +kernel
theorem dX11_quiet_89 : decode cX11_quiet 89 = .ok (.aload_n 0, 1) := by decide +kernel
theorem dX11_quiet_90 : decode cX11_quiet 90 = .ok (.iload_n 2, 1) := by decide +kernel
theorem dX11_quiet_91 : decode cX11_quiet 91 = .ok (.i2l, 1) := by decide +kernel
theorem dX11_quiet_92 : decode cX11_quiet 92 = .ok (.invokevirtual 18, 3) := by decide +kernel
theorem dX11_quiet_95 : decode cX11_quiet 95 = .ok (.iload_n 1, 1) := by decide +kernel
theorem dX11_quiet_96 : decode cX11_quiet 96 = .ok (.ireturn, 1) := by decide +kernel
theorem s_X11_quiet_16 {q : Int × xW} {k : Int → Int → Int → xW → Option (Int × xW)} (hk : ∀ (l1_26 : Int) (l2_27 : Int) (l3_28 : Int) (s29 : xW), k l1_26 l2_27 l3_28 s29 = some q → xG 7 0 0 mX11_quiet 80 [vR 121, vI l1_26, vI l2_27, vI l3_28, vX] [] 155 s29 (xRv (vI q.1) q.2)) : ∀ (f : Nat) (l1_5 : Int) (l2_6 : Int) (l3_7 : Int) (s8 : xW), F_X11_quiet_16  f l1_5 l2_6 l3_7 s8 k = some q → xG 7 0 0 mX11_quiet 16 [vR 121, vI l1_5, vI l2_6, vI l3_7, vX] [] 155 s8 (xRv (vI q.1) q.2) := by
  intro f
  induction f with
  | zero => intro l1_5 l2_6 l3_7 s8 h; cases h
  | succ f ih =>
    intro l1_5 l2_6 l3_7 s8 h
    unfold F_X11_quiet_16 at h
    refine g_iln dX11_quiet_16 rfl rfl ?_
    refine g_bi dX11_quiet_17 (by decide) ?_
    refine g_wgt dX11_quiet_19 (tgt := 80) rfl rfl (xw_id (by decide)) (fun q9 => ?_) (fun q9 => ?_)
    · replace h := xif_f q9 h
      exact hk l1_5 l2_6 l3_7 s8 h
    · replace h := xif_t q9 h
      refine g_aln dX11_quiet_22 rfl rfl (by decide) ?_
      refine g_aln dX11_quiet_23 rfl rfl (by decide) ?_
      refine g_getC 128 dX11_quiet_24 fl_X11_50 rfl (by decide) ?_
      obtain ⟨r11, s12, e10, h⟩ := xbd_e h
      refine g_cV1v dX11_quiet_27 ml_X11_336 rfl (s_X11_clashesOn e10) (by decide) rfl ?_
      obtain ⟨v14, e15, h⟩ := xlt_e h
      have hj16 : xG 7 0 0 mX11_quiet 38 [vR 121, vI l1_5, vI l2_6, vI l3_7, vX] [vI v14] 155 s12 (xRv (vI q.1) q.2) := by
        refine g_ist_4 dX11_quiet_38 (by decide) rfl ?_
        refine g_il dX11_quiet_40 rfl ?_
        obtain ⟨v19, e20, h⟩ := xlt_e h
        have hj21 : xG 7 0 0 mX11_quiet 54 [vR 121, vX, vI l2_6, vI l3_7, vI v14] [vI v19] 155 s12 (xRv (vI q.1) q.2) := by
          refine g_istn_1 dX11_quiet_54 (by decide) rfl ?_
          refine g_iln dX11_quiet_55 rfl rfl ?_
          refine g_il dX11_quiet_56 rfl ?_
          obtain ⟨r23, e22, h⟩ := xbp_e h
          refine g_cS1v dX11_quiet_58 ml_X11_159 (s_X11_flag e22) (by decide) rfl ?_
          refine g_iadd dX11_quiet_61 ?_
          refine g_istn_2 dX11_quiet_62 (by decide) rfl ?_
          refine g_aln dX11_quiet_63 rfl rfl (by decide) ?_
          refine g_getC 128 dX11_quiet_64 fl_X11_50 rfl (by decide) ?_
          refine g_bi dX11_quiet_67 (by decide) ?_
          refine g_dup2 dX11_quiet_69 rfl rfl ?_
          refine g_iald 40 dX11_quiet_70 rfl (by decide) (by decide) ?_
          refine g_ic dX11_quiet_71 ?_
          refine g_iadd dX11_quiet_72 ?_
          obtain ⟨s24, e25, h⟩ := xlt_e h
          refine h_iast 40 dX11_quiet_73 rfl (by decide) (by decide) e25 ?_
          refine g_inc_3 dX11_quiet_74 (by decide) rfl ?_
          refine g_goto dX11_quiet_77 (tgt := 16) rfl ?_
          refine g_drop_4 ?_
          exact ih v19 (l2_6 + r23) (l3_7 + 1) s24 h
        refine g_yeq dX11_quiet_42 (tgt := 53) rfl rfl (fun c17 => ?_) (fun c17 => ?_)
        · skip
          refine g_iln dX11_quiet_53 rfl rfl ?_
          refine g_drop_1 ?_
          exact g_vq ((if_neg c17).symm.trans e20) hj21
        · skip
          refine g_iln dX11_quiet_45 rfl rfl ?_
          refine g_yne dX11_quiet_46 (tgt := 53) rfl rfl (fun c18 => ?_) (fun c18 => ?_)
          · skip
            refine g_iln dX11_quiet_53 rfl rfl ?_
            refine g_drop_1 ?_
            exact g_vq (((if_pos c17).trans (if_neg c18)).symm.trans e20) hj21
          · skip
            refine g_iln dX11_quiet_49 rfl rfl ?_
            refine g_goto dX11_quiet_50 (tgt := 54) rfl ?_
            refine g_drop_1 ?_
            exact g_vq (((if_pos c17).trans (if_pos c18)).symm.trans e20) hj21
      refine g_yne dX11_quiet_30 (tgt := 37) rfl rfl (fun c13 => ?_) (fun c13 => ?_)
      · skip
        refine g_ic dX11_quiet_37 ?_
        exact g_vq ((if_neg c13).symm.trans e15) hj16
      · skip
        refine g_ic dX11_quiet_33 ?_
        refine g_goto dX11_quiet_34 (tgt := 38) rfl ?_
        exact g_vq ((if_pos c13).symm.trans e15) hj16
theorem s_X11_quiet {s0 : xW} {q : Int × xW} (h : F_X11_quiet  s0 = some q) : xC 7 0 0 mX11_quiet [vR 121] 155 s0 (xRv (vI q.1) q.2) := by
  refine xC.of [vR 121, vX, vX, vX, vX] (by decide +kernel) (Nat.le_of_ble_eq_true rfl) rfl ?_
  unfold F_X11_quiet at h
  refine g_aln dX11_quiet_0 rfl rfl (by decide) ?_
  refine g_ic dX11_quiet_1 ?_
  obtain ⟨s1, e2, h⟩ := xlt_e h
  refine h_putI 0 dX11_quiet_2 fl_X11_3 rfl rfl e2 ?_
  refine g_aln dX11_quiet_5 rfl rfl (by decide) ?_
  obtain ⟨s4, e3, h⟩ := xbp_e h
  refine g_cV00 dX11_quiet_6 ml_X11_400 rfl (s_X11_copies e3) (by decide) rfl ?_
  refine g_bi dX11_quiet_9 (by decide) ?_
  refine g_istn_1 dX11_quiet_11 (by decide) rfl ?_
  refine g_ic dX11_quiet_12 ?_
  refine g_istn_2 dX11_quiet_13 (by decide) rfl ?_
  refine g_ic dX11_quiet_14 ?_
  refine g_istn_3 dX11_quiet_15 (by decide) rfl ?_
  refine s_X11_quiet_16 (fun l1_30 l2_31 l3_32 s33 h => ?_) xN _ _ _ _ h
  refine g_iln dX11_quiet_80 rfl rfl ?_
  obtain ⟨j35, ej36, h⟩ := xjn_e h
  have hj37 : ∀ (s34 : xW), j35 s34 = some q → xG 7 0 0 mX11_quiet 95 [vX, vI l1_30, vX, vX, vX] [] 155 s34 (xRv (vI q.1) q.2) := by
    intro s34 h
    rw [ej36] at h
    refine g_iln dX11_quiet_95 rfl rfl ?_
    exact g_rI rfl dX11_quiet_96 h
  clear ej36
  refine g_yle dX11_quiet_81 (tgt := 95) rfl rfl (fun q38 => ?_) (fun q38 => ?_)
  · replace h := xif_f q38 h
    refine g_drop_0 ?_
    refine g_drop_2 ?_
    refine g_drop_3 ?_
    exact hj37 s33 h
  · replace h := xif_t q38 h
    refine g_aln dX11_quiet_84 rfl rfl (by decide) ?_
    refine g_ic dX11_quiet_85 ?_
    obtain ⟨s39, e40, h⟩ := xlt_e h
    refine h_putI 1 dX11_quiet_86 fl_X11_15 rfl rfl e40 ?_
    refine g_aln dX11_quiet_89 rfl rfl (by decide) ?_
    refine g_iln dX11_quiet_90 rfl rfl ?_
    refine g_wi2l dX11_quiet_91 rfl ?_
    obtain ⟨s42, e41, h⟩ := xbp_e h
    refine g_cV10 dX11_quiet_92 ml_X11_18 rfl (s_X11_enters e41) (by decide) rfl ?_
    refine g_drop_0 ?_
    refine g_drop_2 ?_
    refine g_drop_3 ?_
    exact hj37 s42 h
theorem dX11_readsAct_0 : decode cX11_readsAct 0 = .ok (.aload_n 0, 1) := by decide +kernel
theorem dX11_readsAct_1 : decode cX11_readsAct 1 = .ok (.getfield 384, 3) := by decide +kernel
theorem dX11_readsAct_4 : decode cX11_readsAct 4 = .ok (.istore_n 1, 1) := by decide +kernel
theorem dX11_readsAct_5 : decode cX11_readsAct 5 = .ok (.aload_n 0, 1) := by decide +kernel
theorem dX11_readsAct_6 : decode cX11_readsAct 6 = .ok (.getfield 77, 3) := by decide +kernel
theorem dX11_readsAct_9 : decode cX11_readsAct 9 = .ok (.iload_n 1, 1) := by decide +kernel
theorem dX11_readsAct_10 : decode cX11_readsAct 10 = .ok (.aload_n 0, 1) := by decide +kernel
theorem dX11_readsAct_11 : decode cX11_readsAct 11 = .ok (.ldc_w 387, 3) := by decide +kernel
theorem dX11_readsAct_14 : decode cX11_readsAct 14 = .ok (.invokevirtual 197, 3) := by decide +kernel
theorem dX11_readsAct_17 : decode cX11_readsAct 17 = .ok (.iastore, 1) := by decide +kernel
theorem dX11_readsAct_18 : decode cX11_readsAct 18 = .ok (.aload_n 0, 1) := by decide +kernel
theorem dX11_readsAct_19 : decode cX11_readsAct 19 = .ok (.dup, 1) := by decide +kernel
theorem dX11_readsAct_20 : decode cX11_readsAct 20 = .ok (.getfield 384, 3) := by decide +kernel
theorem dX11_readsAct_23 : decode cX11_readsAct 23 = .ok (.iconst 1, 1) := by decide +kernel
theorem dX11_readsAct_24 : decode cX11_readsAct 24 = .ok (.iadd, 1) := by decide +kernel
theorem dX11_readsAct_25 : decode cX11_readsAct 25 = .ok (.putfield 384, 3) := by decide +kernel
theorem dX11_readsAct_28 : decode cX11_readsAct 28 = .ok (.aload_n 0, 1) := by decide +kernel
theorem dX11_readsAct_29 : decode cX11_readsAct 29 = .ok (.getfield 77, 3) := by decide +kernel
theorem dX11_readsAct_32 : decode cX11_readsAct 32 = .ok (.iload_n 1, 1) := by decide +kernel
theorem dX11_readsAct_33 : decode cX11_readsAct 33 = .ok (.iaload, 1) := by decide +kernel
theorem dX11_readsAct_34 : decode cX11_readsAct 34 = .ok (.ifCond .ge 5, 3) := by decide +kernel
theorem dX11_readsAct_37 : decode cX11_readsAct 37 = .ok (.iconst 0, 1) := by decide +kernel
theorem dX11_readsAct_38 : decode cX11_readsAct 38 = .ok (.ireturn, 1) := by decide +kernel
theorem dX11_readsAct_39 : decode cX11_readsAct 39 = .ok (.aload_n 0, 1) := by decide +kernel
theorem dX11_readsAct_40 : decode cX11_readsAct 40 = .ok (.getfield 80, 3) := by decide +kernel
theorem dX11_readsAct_43 : decode cX11_readsAct 43 = .ok (.iload_n 1, 1) := by decide +kernel
theorem dX11_readsAct_44 : decode cX11_readsAct 44 = .ok (.aload_n 0, 1) := by decide +kernel
theorem dX11_readsAct_45 : decode cX11_readsAct 45 = .ok (.aload_n 0, 1) := by decide +kernel
theorem dX11_readsAct_46 : decode cX11_readsAct 46 = .ok (.getfield 77, 3) := by decide +kernel
theorem dX11_readsAct_49 : decode cX11_readsAct 49 = .ok (.iload_n 1, 1) := by decide +kernel
theorem dX11_readsAct_50 : decode cX11_readsAct 50 = .ok (.iaload, 1) := by decide +kernel
theorem dX11_readsAct_51 : decode cX11_readsAct 51 = .ok (.iconst 1, 1) := by decide +kernel
theorem dX11_readsAct_52 : decode cX11_readsAct 52 = .ok (.if_icmp .ne 7, 3) := by decide +kernel
theorem dX11_readsAct_55 : decode cX11_readsAct 55 = .ok (.iconst 1, 1) := by decide +kernel
theorem dX11_readsAct_56 : decode cX11_readsAct 56 = .ok (.goto 4, 3) := by decide +kernel
theorem dX11_readsAct_59 : decode cX11_readsAct 59 = .ok (.iconst 0, 1) := by decide +kernel
theorem dX11_readsAct_60 : decode cX11_readsAct 60 = .ok (.invokestatic 159, 3) := by decide +kernel
theorem dX11_readsAct_63 : decode cX11_readsAct 63 = .ok (.bipush 9, 2) := by decide +kernel
theorem dX11_readsAct_65 : decode cX11_readsAct 65 = .ok (.invokevirtual 188, 3) := by decide +kernel
theorem dX11_readsAct_68 : decode cX11_readsAct 68 = .ok (.iastore, 1) := by decide +kernel
theorem dX11_readsAct_69 : decode cX11_readsAct 69 = .ok (.aload_n 0, 1) := by decide +kernel
theorem dX11_readsAct_70 : decode cX11_readsAct 70 = .ok (.getfield 80, 3) := by decide +kernel
theorem dX11_readsAct_73 : decode cX11_readsAct 73 = .ok (.iload_n 1, 1) := by decide +kernel
theorem dX11_readsAct_74 : decode cX11_readsAct 74 = .ok (.iaload, 1) := by decide +kernel
theorem dX11_readsAct_75 : decode cX11_readsAct 75 = .ok (.ifCond .lt 13, 3) := by decide +kernel
theorem dX11_readsAct_78 : decode cX11_readsAct 78 = .ok (.aload_n 0, 1) := by decide +kernel
theorem dX11_readsAct_79 : decode cX11_readsAct 79 = .ok (.getfield 77, 3) := by decide +kernel
theorem dX11_readsAct_82 : decode cX11_readsAct 82 = .ok (.iload_n 1, 1) := by decide +kernel
theorem dX11_readsAct_83 : decode cX11_readsAct 83 = .ok (.iaload, 1) := by decide +kernel
theorem dX11_readsAct_84 : decode cX11_readsAct 84 = .ok (.iconst 2, 1) := by decide +kernel
theorem dX11_readsAct_85 : decode cX11_readsAct 85 = .ok (.if_icmp .ge 18, 3) := by decide +kernel
theorem dX11_readsAct_88 : decode cX11_readsAct 88 = .ok (.aload_n 0, 1) := by decide +kernel
theorem dX11_readsAct_89 : decode cX11_readsAct 89 = .ok (.getfield 80, 3) := by decide +kernel
theorem dX11_readsAct_92 : decode cX11_readsAct 92 = .ok (.iload_n 1, 1) := by decide +kernel
theorem dX11_readsAct_93 : decode cX11_readsAct 93 = .ok (.iaload, 1) := by decide +kernel
theorem dX11_readsAct_94 : decode cX11_readsAct 94 = .ok (.ifCond .lt 7, 3) := by decide +kernel
theorem dX11_readsAct_97 : decode cX11_readsAct 97 = .ok (.iconst 1, 1) := by decide +kernel
theorem dX11_readsAct_98 : decode cX11_readsAct 98 = .ok (.goto 4, 3) := by decide +kernel
theorem dX11_readsAct_101 : decode cX11_readsAct 101 = .ok (.iconst 0, 1) := by decide +kernel
theorem dX11_readsAct_102 : decode cX11_readsAct 102 = .ok (.ireturn, 1) := by decide +kernel
theorem dX11_readsAct_103 : decode cX11_readsAct 103 = .ok (.aload_n 0, 1) := by decide +kernel
theorem dX11_readsAct_104 : decode cX11_readsAct 104 = .ok (.getfield 83, 3) := by decide +kernel
theorem dX11_readsAct_107 : decode cX11_readsAct 107 = .ok (.iload_n 1, 1) := by decide +kernel
theorem dX11_readsAct_108 : decode cX11_readsAct 108 = .ok (.aload_n 0, 1) := by decide +kernel
theorem dX11_readsAct_109 : decode cX11_readsAct 109 = .ok (.aload_n 0, 1) := by decide +kernel
theorem dX11_readsAct_110 : decode cX11_readsAct 110 = .ok (.getfield 77, 3) := by decide +kernel
theorem dX11_readsAct_113 : decode cX11_readsAct 113 = .ok (.iload_n 1, 1) := by decide +kernel
theorem dX11_readsAct_114 : decode cX11_readsAct 114 = .ok (.iaload, 1) := by decide +kernel
theorem dX11_readsAct_115 : decode cX11_readsAct 115 = .ok (.iconst 3, 1) := by decide +kernel
theorem dX11_readsAct_116 : decode cX11_readsAct 116 = .ok (.if_icmp .ne 7, 3) := by decide +kernel
theorem dX11_readsAct_119 : decode cX11_readsAct 119 = .ok (.iconst 1, 1) := by decide +kernel
theorem dX11_readsAct_120 : decode cX11_readsAct 120 = .ok (.goto 4, 3) := by decide +kernel
theorem dX11_readsAct_123 : decode cX11_readsAct 123 = .ok (.iconst 0, 1) := by decide +kernel
theorem dX11_readsAct_124 : decode cX11_readsAct 124 = .ok (.invokestatic 159, 3) := by decide +kernel
theorem dX11_readsAct_127 : decode cX11_readsAct 127 = .ok (.bipush 9, 2) := by decide +kernel
theorem dX11_readsAct_129 : decode cX11_readsAct 129 = .ok (.invokevirtual 188, 3) := by decide +kernel
theorem dX11_readsAct_132 : decode cX11_readsAct 132 = .ok (.iastore, 1) := by decide +kernel
theorem dX11_readsAct_133 : decode cX11_readsAct 133 = .ok (.aload_n 0, 1) := by decide +kernel
theorem dX11_readsAct_134 : decode cX11_readsAct 134 = .ok (.getfield 83, 3) := by decide +kernel
theorem dX11_readsAct_137 : decode cX11_readsAct 137 = .ok (.iload_n 1, 1) := by decide +kernel
theorem dX11_readsAct_138 : decode cX11_readsAct 138 = .ok (.iaload, 1) := by decide +kernel
theorem dX11_readsAct_139 : decode cX11_readsAct 139 = .ok (.ifCond .lt 13, 3) := by decide +kernel
theorem dX11_readsAct_142 : decode cX11_readsAct 142 = .ok (.aload_n 0, 1) := by decide +kernel
theorem dX11_readsAct_143 : decode cX11_readsAct 143 = .ok (.getfield 77, 3) := by decide +kernel
theorem dX11_readsAct_146 : decode cX11_readsAct 146 = .ok (.iload_n 1, 1) := by decide +kernel
theorem dX11_readsAct_147 : decode cX11_readsAct 147 = .ok (.iaload, 1) := by decide +kernel
theorem dX11_readsAct_148 : decode cX11_readsAct 148 = .ok (.iconst 4, 1) := by decide +kernel
theorem dX11_readsAct_149 : decode cX11_readsAct 149 = .ok (.if_icmp .ge 18, 3) := by decide +kernel
theorem dX11_readsAct_152 : decode cX11_readsAct 152 = .ok (.aload_n 0, 1) := by decide +kernel
theorem dX11_readsAct_153 : decode cX11_readsAct 153 = .ok (.getfield 83, 3) := by decide +kernel
theorem dX11_readsAct_156 : decode cX11_readsAct 156 = .ok (.iload_n 1, 1) := by decide +kernel
theorem dX11_readsAct_157 : decode cX11_readsAct 157 = .ok (.iaload, 1) := by decide +kernel
theorem dX11_readsAct_158 : decode cX11_readsAct 158 = .ok (.ifCond .lt 7, 3) := by decide +kernel
theorem dX11_readsAct_161 : decode cX11_readsAct 161 = .ok (.iconst 1, 1) := by decide +kernel
theorem dX11_readsAct_162 : decode cX11_readsAct 162 = .ok (.goto 4, 3) := by decide +kernel
theorem dX11_readsAct_165 : decode cX11_readsAct 165 = .ok (.iconst 0, 1) := by decide +kernel
theorem dX11_readsAct_166 : decode cX11_readsAct 166 = .ok (.ireturn, 1) := by decide +kernel
theorem dX11_readsAct_167 : decode cX11_readsAct 167 = .ok (.aload_n 0, 1) := by decide +kernel
theorem dX11_readsAct_168 : decode cX11_readsAct 168 = .ok (.getfield 86, 3) := by decide +kernel
theorem dX11_readsAct_171 : decode cX11_readsAct 171 = .ok (.iload_n 1, 1) := by decide +kernel
theorem dX11_readsAct_172 : decode cX11_readsAct 172 = .ok (.aload_n 0, 1) := by decide +kernel
theorem dX11_readsAct_173 : decode cX11_readsAct 173 = .ok (.iconst 1, 1) := by decide +kernel
theorem dX11_readsAct_174 : decode cX11_readsAct 174 = .ok (.invokevirtual 184, 3) := by decide +kernel
theorem dX11_readsAct_177 : decode cX11_readsAct 177 = .ok (.iastore, 1) := by decide +kernel
theorem dX11_readsAct_178 : decode cX11_readsAct 178 = .ok (.aload_n 0, 1) := by decide +kernel
theorem dX11_readsAct_179 : decode cX11_readsAct 179 = .ok (.getfield 86, 3) := by decide +kernel
theorem dX11_readsAct_182 : decode cX11_readsAct 182 = .ok (.iload_n 1, 1) := by decide +kernel
theorem dX11_readsAct_183 : decode cX11_readsAct 183 = .ok (.iaload, 1) := by decide +kernel
theorem dX11_readsAct_184 : decode cX11_readsAct 184 = .ok (.ifCond .lt 7, 3) := by decide +kernel
theorem dX11_readsAct_187 : decode cX11_readsAct 187 = .ok (.iconst 1, 1) := by decide +kernel
theorem dX11_readsAct_188 : decode cX11_readsAct 188 = .ok (.goto 4, 3) := by decide +kernel
theorem dX11_readsAct_191 : decode cX11_readsAct 191 = .ok (.iconst 0, 1) := by decide +kernel
theorem dX11_readsAct_192 : decode cX11_readsAct 192 = .ok (.ireturn, 1) := by decide +kernel
theorem s_X11_readsAct {s0 : xW} {q : Int × xW} (h : F_X11_readsAct  s0 = some q) : xC 6 0 0 mX11_readsAct [vR 121] 155 s0 (xRv (vI q.1) q.2) := by
  refine xC.of [vR 121, vX] (by decide +kernel) (Nat.le_of_ble_eq_true rfl) rfl ?_
  unfold F_X11_readsAct at h
  refine g_aln dX11_readsAct_0 rfl rfl (by decide) ?_
  refine g_getI 36 dX11_readsAct_1 fl_X11_384 rfl rfl ?_
  refine g_istn_1 dX11_readsAct_4 (by decide) rfl ?_
  refine g_aln dX11_readsAct_5 rfl rfl (by decide) ?_
  refine g_getC 137 dX11_readsAct_6 fl_X11_77 rfl (by decide) ?_
  refine g_iln dX11_readsAct_9 rfl rfl ?_
  refine g_aln dX11_readsAct_10 rfl rfl (by decide) ?_
  refine g_ldcwS 11 dX11_readsAct_11 rfl rfl rfl ?_
  obtain ⟨r2, s3, e1, h⟩ := xbd_e h
  refine g_litT 11 dX11_readsAct_14 ml_X11_197 rfl (s_X11_takesOf ⟨by decide, by decide⟩ e1) (by decide) rfl ?_
  obtain ⟨hg4, h⟩ := xgd_e h
  obtain ⟨s5, e6, h⟩ := xlt_e h
  refine h_iast 60 dX11_readsAct_17 rfl hg4 (by decide) e6 ?_
  refine g_aln dX11_readsAct_18 rfl rfl (by decide) ?_
  refine g_dup dX11_readsAct_19 rfl ?_
  refine g_getI 36 dX11_readsAct_20 fl_X11_384 rfl rfl ?_
  refine g_ic dX11_readsAct_23 ?_
  refine g_iadd dX11_readsAct_24 ?_
  obtain ⟨s7, e8, h⟩ := xlt_e h
  refine h_putI 36 dX11_readsAct_25 fl_X11_384 rfl rfl e8 ?_
  refine g_aln dX11_readsAct_28 rfl rfl (by decide) ?_
  refine g_getC 137 dX11_readsAct_29 fl_X11_77 rfl (by decide) ?_
  refine g_iln dX11_readsAct_32 rfl rfl ?_
  obtain ⟨hg9, h⟩ := xgd_e h
  refine g_iald 60 dX11_readsAct_33 rfl hg9 (by decide) ?_
  refine g_yge dX11_readsAct_34 (tgt := 39) rfl rfl (fun q10 => ?_) (fun q10 => ?_)
  · replace h := xif_f q10 h
    refine g_aln dX11_readsAct_39 rfl rfl (by decide) ?_
    refine g_getC 138 dX11_readsAct_40 fl_X11_80 rfl (by decide) ?_
    refine g_iln dX11_readsAct_43 rfl rfl ?_
    refine g_aln dX11_readsAct_44 rfl rfl (by decide) ?_
    refine g_aln dX11_readsAct_45 rfl rfl (by decide) ?_
    refine g_getC 137 dX11_readsAct_46 fl_X11_77 rfl (by decide) ?_
    refine g_iln dX11_readsAct_49 rfl rfl ?_
    obtain ⟨hg11, h⟩ := xgd_e h
    refine g_iald 60 dX11_readsAct_50 rfl hg11 (by decide) ?_
    refine g_ic dX11_readsAct_51 ?_
    obtain ⟨v13, e14, h⟩ := xlt_e h
    have hj15 : xG 6 0 0 mX11_readsAct 60 [vR 121, vI (s0 121 36)] [vI v13, vR 121, vI (s0 121 36), vR 138] 155 s7 (xRv (vI q.1) q.2) := by
      obtain ⟨r17, e16, h⟩ := xbp_e h
      refine g_cS1v dX11_readsAct_60 ml_X11_159 (s_X11_flag e16) (by decide) rfl ?_
      refine g_bi dX11_readsAct_63 (by decide) ?_
      obtain ⟨r19, s20, e18, h⟩ := xbd_e h
      refine g_cV2v dX11_readsAct_65 ml_X11_188 rfl (s_X11_digitIn e18) (by decide) rfl ?_
      obtain ⟨hg21, h⟩ := xgd_e h
      obtain ⟨s22, e23, h⟩ := xlt_e h
      refine h_iast 60 dX11_readsAct_68 rfl hg21 (by decide) e23 ?_
      refine g_aln dX11_readsAct_69 rfl rfl (by decide) ?_
      refine g_getC 138 dX11_readsAct_70 fl_X11_80 rfl (by decide) ?_
      refine g_iln dX11_readsAct_73 rfl rfl ?_
      obtain ⟨hg24, h⟩ := xgd_e h
      refine g_iald 60 dX11_readsAct_74 rfl hg24 (by decide) ?_
      obtain ⟨j25, ej26, h⟩ := xjn_e h
      have hj27 : j25  = some q → xG 6 0 0 mX11_readsAct 88 [vR 121, vI (s0 121 36)] [] 155 s22 (xRv (vI q.1) q.2) := by
        intro  h
        rw [ej26] at h
        refine g_aln dX11_readsAct_88 rfl rfl (by decide) ?_
        refine g_getC 138 dX11_readsAct_89 fl_X11_80 rfl (by decide) ?_
        refine g_iln dX11_readsAct_92 rfl rfl ?_
        obtain ⟨hg28, h⟩ := xgd_e h
        refine g_iald 60 dX11_readsAct_93 rfl hg28 (by decide) ?_
        obtain ⟨v30, e31, h⟩ := xlt_e h
        have hj32 : xG 6 0 0 mX11_readsAct 102 [vX, vX] [vI v30] 155 s22 (xRv (vI q.1) q.2) := by
          obtain ⟨hg33, h⟩ := xgd_e h
          exact g_rZ rfl dX11_readsAct_102 hg33 h
        refine g_ylt dX11_readsAct_94 (tgt := 101) rfl rfl (fun c29 => ?_) (fun c29 => ?_)
        · skip
          refine g_ic dX11_readsAct_101 ?_
          refine g_drop_0 ?_
          refine g_drop_1 ?_
          exact g_vq ((if_neg c29).symm.trans e31) hj32
        · skip
          refine g_ic dX11_readsAct_97 ?_
          refine g_goto dX11_readsAct_98 (tgt := 102) rfl ?_
          refine g_drop_0 ?_
          refine g_drop_1 ?_
          exact g_vq ((if_pos c29).symm.trans e31) hj32
      clear ej26
      refine g_ylt dX11_readsAct_75 (tgt := 88) rfl rfl (fun q34 => ?_) (fun q34 => ?_)
      · replace h := xif_f q34 h
        exact hj27  h
      · replace h := xif_t q34 h
        refine g_aln dX11_readsAct_78 rfl rfl (by decide) ?_
        refine g_getC 137 dX11_readsAct_79 fl_X11_77 rfl (by decide) ?_
        refine g_iln dX11_readsAct_82 rfl rfl ?_
        obtain ⟨hg35, h⟩ := xgd_e h
        refine g_iald 60 dX11_readsAct_83 rfl hg35 (by decide) ?_
        refine g_ic dX11_readsAct_84 ?_
        refine g_wge dX11_readsAct_85 (tgt := 103) rfl rfl (xw_id (by decide)) (fun q36 => ?_) (fun q36 => ?_)
        · replace h := xif_f q36 h
          refine g_aln dX11_readsAct_103 rfl rfl (by decide) ?_
          refine g_getC 139 dX11_readsAct_104 fl_X11_83 rfl (by decide) ?_
          refine g_iln dX11_readsAct_107 rfl rfl ?_
          refine g_aln dX11_readsAct_108 rfl rfl (by decide) ?_
          refine g_aln dX11_readsAct_109 rfl rfl (by decide) ?_
          refine g_getC 137 dX11_readsAct_110 fl_X11_77 rfl (by decide) ?_
          refine g_iln dX11_readsAct_113 rfl rfl ?_
          obtain ⟨hg37, h⟩ := xgd_e h
          refine g_iald 60 dX11_readsAct_114 rfl hg37 (by decide) ?_
          refine g_ic dX11_readsAct_115 ?_
          obtain ⟨v39, e40, h⟩ := xlt_e h
          have hj41 : xG 6 0 0 mX11_readsAct 124 [vR 121, vI (s0 121 36)] [vI v39, vR 121, vI (s0 121 36), vR 139] 155 s22 (xRv (vI q.1) q.2) := by
            obtain ⟨r43, e42, h⟩ := xbp_e h
            refine g_cS1v dX11_readsAct_124 ml_X11_159 (s_X11_flag e42) (by decide) rfl ?_
            refine g_bi dX11_readsAct_127 (by decide) ?_
            obtain ⟨r45, s46, e44, h⟩ := xbd_e h
            refine g_cV2v dX11_readsAct_129 ml_X11_188 rfl (s_X11_digitIn e44) (by decide) rfl ?_
            obtain ⟨hg47, h⟩ := xgd_e h
            obtain ⟨s48, e49, h⟩ := xlt_e h
            refine h_iast 60 dX11_readsAct_132 rfl hg47 (by decide) e49 ?_
            refine g_aln dX11_readsAct_133 rfl rfl (by decide) ?_
            refine g_getC 139 dX11_readsAct_134 fl_X11_83 rfl (by decide) ?_
            refine g_iln dX11_readsAct_137 rfl rfl ?_
            obtain ⟨hg50, h⟩ := xgd_e h
            refine g_iald 60 dX11_readsAct_138 rfl hg50 (by decide) ?_
            obtain ⟨j51, ej52, h⟩ := xjn_e h
            have hj53 : j51  = some q → xG 6 0 0 mX11_readsAct 152 [vR 121, vI (s0 121 36)] [] 155 s48 (xRv (vI q.1) q.2) := by
              intro  h
              rw [ej52] at h
              refine g_aln dX11_readsAct_152 rfl rfl (by decide) ?_
              refine g_getC 139 dX11_readsAct_153 fl_X11_83 rfl (by decide) ?_
              refine g_iln dX11_readsAct_156 rfl rfl ?_
              obtain ⟨hg54, h⟩ := xgd_e h
              refine g_iald 60 dX11_readsAct_157 rfl hg54 (by decide) ?_
              obtain ⟨v56, e57, h⟩ := xlt_e h
              have hj58 : xG 6 0 0 mX11_readsAct 166 [vX, vX] [vI v56] 155 s48 (xRv (vI q.1) q.2) := by
                obtain ⟨hg59, h⟩ := xgd_e h
                exact g_rZ rfl dX11_readsAct_166 hg59 h
              refine g_ylt dX11_readsAct_158 (tgt := 165) rfl rfl (fun c55 => ?_) (fun c55 => ?_)
              · skip
                refine g_ic dX11_readsAct_165 ?_
                refine g_drop_0 ?_
                refine g_drop_1 ?_
                exact g_vq ((if_neg c55).symm.trans e57) hj58
              · skip
                refine g_ic dX11_readsAct_161 ?_
                refine g_goto dX11_readsAct_162 (tgt := 166) rfl ?_
                refine g_drop_0 ?_
                refine g_drop_1 ?_
                exact g_vq ((if_pos c55).symm.trans e57) hj58
            clear ej52
            refine g_ylt dX11_readsAct_139 (tgt := 152) rfl rfl (fun q60 => ?_) (fun q60 => ?_)
            · replace h := xif_f q60 h
              exact hj53  h
            · replace h := xif_t q60 h
              refine g_aln dX11_readsAct_142 rfl rfl (by decide) ?_
              refine g_getC 137 dX11_readsAct_143 fl_X11_77 rfl (by decide) ?_
              refine g_iln dX11_readsAct_146 rfl rfl ?_
              obtain ⟨hg61, h⟩ := xgd_e h
              refine g_iald 60 dX11_readsAct_147 rfl hg61 (by decide) ?_
              refine g_ic dX11_readsAct_148 ?_
              refine g_wge dX11_readsAct_149 (tgt := 167) rfl rfl (xw_id (by decide)) (fun q62 => ?_) (fun q62 => ?_)
              · replace h := xif_f q62 h
                refine g_aln dX11_readsAct_167 rfl rfl (by decide) ?_
                refine g_getC 140 dX11_readsAct_168 fl_X11_86 rfl (by decide) ?_
                refine g_iln dX11_readsAct_171 rfl rfl ?_
                refine g_aln dX11_readsAct_172 rfl rfl (by decide) ?_
                refine g_ic dX11_readsAct_173 ?_
                obtain ⟨r64, s65, e63, h⟩ := xbd_e h
                refine g_cV1v dX11_readsAct_174 ml_X11_184 rfl (s_X11_number e63) (by decide) rfl ?_
                obtain ⟨hg66, h⟩ := xgd_e h
                obtain ⟨s67, e68, h⟩ := xlt_e h
                refine h_iast 60 dX11_readsAct_177 rfl hg66 (by decide) e68 ?_
                refine g_aln dX11_readsAct_178 rfl rfl (by decide) ?_
                refine g_getC 140 dX11_readsAct_179 fl_X11_86 rfl (by decide) ?_
                refine g_iln dX11_readsAct_182 rfl rfl ?_
                obtain ⟨hg69, h⟩ := xgd_e h
                refine g_iald 60 dX11_readsAct_183 rfl hg69 (by decide) ?_
                obtain ⟨v71, e72, h⟩ := xlt_e h
                have hj73 : xG 6 0 0 mX11_readsAct 192 [vX, vX] [vI v71] 155 s67 (xRv (vI q.1) q.2) := by
                  obtain ⟨hg74, h⟩ := xgd_e h
                  exact g_rZ rfl dX11_readsAct_192 hg74 h
                refine g_ylt dX11_readsAct_184 (tgt := 191) rfl rfl (fun c70 => ?_) (fun c70 => ?_)
                · skip
                  refine g_ic dX11_readsAct_191 ?_
                  refine g_drop_0 ?_
                  refine g_drop_1 ?_
                  exact g_vq ((if_neg c70).symm.trans e72) hj73
                · skip
                  refine g_ic dX11_readsAct_187 ?_
                  refine g_goto dX11_readsAct_188 (tgt := 192) rfl ?_
                  refine g_drop_0 ?_
                  refine g_drop_1 ?_
                  exact g_vq ((if_pos c70).symm.trans e72) hj73
              · replace h := xif_t q62 h
                exact hj53  h
          refine g_wne dX11_readsAct_116 (tgt := 123) rfl rfl (xw_id (by decide)) (fun c38 => ?_) (fun c38 => ?_)
          · skip
            refine g_ic dX11_readsAct_123 ?_
            exact g_vq ((if_neg c38).symm.trans e40) hj41
          · skip
            refine g_ic dX11_readsAct_119 ?_
            refine g_goto dX11_readsAct_120 (tgt := 124) rfl ?_
            exact g_vq ((if_pos c38).symm.trans e40) hj41
        · replace h := xif_t q36 h
          exact hj27  h
    refine g_wne dX11_readsAct_52 (tgt := 59) rfl rfl (xw_id (by decide)) (fun c12 => ?_) (fun c12 => ?_)
    · skip
      refine g_ic dX11_readsAct_59 ?_
      exact g_vq ((if_neg c12).symm.trans e14) hj15
    · skip
      refine g_ic dX11_readsAct_55 ?_
      refine g_goto dX11_readsAct_56 (tgt := 60) rfl ?_
      exact g_vq ((if_pos c12).symm.trans e14) hj15
  · replace h := xif_t q10 h
    refine g_ic dX11_readsAct_37 ?_
    exact g_rZ rfl dX11_readsAct_38 (by decide) h
theorem dX11_rests_0 : decode cX11_rests 0 = .ok (.aload_n 0, 1) := by decide +kernel
theorem dX11_rests_1 : decode cX11_rests 1 = .ok (.iconst 0, 1) := by decide +kernel
theorem dX11_rests_2 : decode cX11_rests 2 = .ok (.putfield 3, 3) := by decide +kernel
theorem dX11_rests_5 : decode cX11_rests 5 = .ok (.iload_n 1, 1) := by decide +kernel
theorem dX11_rests_6 : decode cX11_rests 6 = .ok (.i2l, 1) := by decide +kernel
theorem dX11_rests_7 : decode cX11_rests 7 = .ok (.lconst 0, 1) := by decide +kernel
theorem dX11_rests_8 : decode cX11_rests 8 = .ok (.ldc2_w 444, 3) := by decide +kernel
theorem dX11_rests_11 : decode cX11_rests 11 = .ok (.invokestatic 132, 3) := by decide +kernel
theorem dX11_rests_14 : decode cX11_rests 14 = .ok (.ifCond .ne 5, 3) := by decide +kernel
theorem dX11_rests_17 : decode cX11_rests 17 = .ok (.iconst (-1), 1) := by decide +kernel
theorem dX11_rests_18 : decode cX11_rests 18 = .ok (.ireturn, 1) := by decide +kernel
theorem dX11_rests_19 : decode cX11_rests 19 = .ok (.iconst 0, 1) := by decide +kernel
theorem dX11_rests_20 : decode cX11_rests 20 = .ok (.istore_n 2, 1) := by decide +kernel
theorem dX11_rests_21 : decode cX11_rests 21 = .ok (.aload_n 0, 1) := by decide +kernel
theorem dX11_rests_22 : decode cX11_rests 22 = .ok (.iconst 0, 1) := by decide +kernel
theorem dX11_rests_23 : decode cX11_rests 23 = .ok (.putfield 15, 3) := by decide +kernel
theorem dX11_rests_26 : decode cX11_rests 26 = .ok (.iconst 0, 1) := by decide +kernel
theorem dX11_rests_27 : decode cX11_rests 27 = .ok (.istore_n 3, 1) := by decide +kernel
theorem dX11_rests_28 : decode cX11_rests 28 = .ok (.iload_n 3, 1) := by decide +kernel
theorem dX11_rests_29 : decode cX11_rests 29 = .ok (.bipush 9, 2) := by decide +kernel
theorem dX11_rests_31 : decode cX11_rests 31 = .ok (.if_icmp .gt 65, 3) := by decide +kernel
theorem dX11_rests_34 : decode cX11_rests 34 = .ok (.iconst 0, 1) := by decide +kernel
theorem dX11_rests_35 : decode cX11_rests 35 = .ok (.istore 4, 2) := by decide +kernel
theorem dX11_rests_37 : decode cX11_rests 37 = .ok (.iload 4, 2) := by decide +kernel
theorem dX11_rests_39 : decode cX11_rests 39 = .ok (.bipush 9, 2) := by decide +kernel
theorem dX11_rests_41 : decode cX11_rests 41 = .ok (.if_icmp .gt 49, 3) := by decide +kernel
theorem dX11_rests_44 : decode cX11_rests 44 = .ok (.iload_n 3, 1) := by decide +kernel
theorem dX11_rests_45 : decode cX11_rests 45 = .ok (.iload 4, 2) := by decide +kernel
theorem dX11_rests_47 : decode cX11_rests 47 = .ok (.iload_n 1, 1) := by decide +kernel
theorem dX11_rests_48 : decode cX11_rests 48 = .ok (.invokestatic 453, 3) := by decide +kernel
theorem dX11_rests_51 : decode cX11_rests 51 = .ok (.ifCond .eq 33, 3) := by decide +kernel
theorem dX11_rests_54 : decode cX11_rests 54 = .ok (.iload 4, 2) := by decide +kernel
theorem dX11_rests_56 : decode cX11_rests 56 = .ok (.iload_n 3, 1) := by decide +kernel
theorem dX11_rests_57 : decode cX11_rests 57 = .ok (.iload_n 1, 1) := by decide +kernel
theorem dX11_rests_58 : decode cX11_rests 58 = .ok (.invokestatic 453, 3) := by decide +kernel
theorem dX11_rests_61 : decode cX11_rests 61 = .ok (.ifCond .eq 23, 3) := by decide +kernel
theorem dX11_rests_64 : decode cX11_rests 64 = .ok (.iload_n 2, 1) := by decide +kernel
theorem dX11_rests_65 : decode cX11_rests 65 = .ok (.ifCond .ne 16, 3) := by decide +kernel
theorem dX11_rests_68 : decode cX11_rests 68 = .ok (.aload_n 0, 1) := by decide +kernel
theorem dX11_rests_69 : decode cX11_rests 69 = .ok (.iload_n 3, 1) := by decide +kernel
theorem dX11_rests_70 : decode cX11_rests 70 = .ok (.i2l, 1) := by decide +kernel
theorem dX11_rests_71 : decode cX11_rests 71 = .ok (.invokevirtual 18, 3) := by decide +kernel
theorem dX11_rests_74 : decode cX11_rests 74 = .ok (.aload_n 0, 1) := by decide +kernel
theorem dX11_rests_75 : decode cX11_rests 75 = .ok (.iload 4, 2) := by decide +kernel
theorem dX11_rests_77 : decode cX11_rests 77 = .ok (.i2l, 1) := by decide +kernel
theorem dX11_rests_78 : decode cX11_rests 78 = .ok (.invokevirtual 18, 3) := by decide +kernel
theorem dX11_rests_81 : decode cX11_rests 81 = .ok (.iinc 2 1, 3) := by decide +kernel
theorem dX11_rests_84 : decode cX11_rests 84 = .ok (.iinc 4 1, 3) := by decide +kernel
theorem dX11_rests_87 : decode cX11_rests 87 = .ok (.goto (-50), 3) := by decide +kernel
theorem dX11_rests_90 : decode cX11_rests 90 = .ok (.iinc 3 1, 3) := by decide +kernel
theorem dX11_rests_93 : decode cX11_rests 93 = .ok (.goto (-65), 3) := by decide +kernel
theorem dX11_rests_96 : decode cX11_rests 96 = .ok (.iload_n 2, 1) := by decide +kernel
theorem dX11_rests_97 : decode cX11_rests 97 = .ok (.ireturn, 1) := by decide +kernel
theorem s_X11_rests_37 {l1_13 l3_15 : Int} {q : Int × xW} {k : Int → Int → xW → Option (Int × xW)} (hk : ∀ (l2_39 : Int) (l4_40 : Int) (s41 : xW), k l2_39 l4_40 s41 = some q → xG 3 0 0 mX11_rests 90 [vR 121, vI l1_13, vI l2_39, vI l3_15, vI l4_40] [] 155 s41 (xRv (vI q.1) q.2)) : ∀ (f : Nat) (l2_14 : Int) (l4_16 : Int) (s17 : xW), F_X11_rests_37 l1_13 l3_15 f l2_14 l4_16 s17 k = some q → xG 3 0 0 mX11_rests 37 [vR 121, vI l1_13, vI l2_14, vI l3_15, vI l4_16] [] 155 s17 (xRv (vI q.1) q.2) := by
  intro f
  induction f with
  | zero => intro l2_14 l4_16 s17 h; cases h
  | succ f ih =>
    intro l2_14 l4_16 s17 h
    unfold F_X11_rests_37 at h
    refine g_il dX11_rests_37 rfl ?_
    refine g_bi dX11_rests_39 (by decide) ?_
    refine g_wgt dX11_rests_41 (tgt := 90) rfl rfl (xw_id (by decide)) (fun q18 => ?_) (fun q18 => ?_)
    · replace h := xif_f q18 h
      exact hk l2_14 l4_16 s17 h
    · replace h := xif_t q18 h
      refine g_iln dX11_rests_44 rfl rfl ?_
      refine g_il dX11_rests_45 rfl ?_
      refine g_iln dX11_rests_47 rfl rfl ?_
      obtain ⟨r20, e19, h⟩ := xbp_e h
      refine g_cS3v dX11_rests_48 ml_X11_453 (s_X11_isRest e19) (by decide) rfl ?_
      obtain ⟨j23, ej24, h⟩ := xjn_e h
      have hj25 : ∀ (l2_21 : Int) (s22 : xW), j23 l2_21 s22 = some q → xG 3 0 0 mX11_rests 84 [vR 121, vI l1_13, vI l2_21, vI l3_15, vI l4_16] [] 155 s22 (xRv (vI q.1) q.2) := by
        intro l2_21 s22 h
        rw [ej24] at h
        refine g_inc_4 dX11_rests_84 (by decide) rfl ?_
        refine g_goto dX11_rests_87 (tgt := 37) rfl ?_
        exact ih l2_21 (l4_16 + 1) s22 h
      clear ej24
      refine g_yeq dX11_rests_51 (tgt := 84) rfl rfl (fun q26 => ?_) (fun q26 => ?_)
      · replace h := xif_f q26 h
        exact hj25 l2_14 s17 h
      · replace h := xif_t q26 h
        refine g_il dX11_rests_54 rfl ?_
        refine g_iln dX11_rests_56 rfl rfl ?_
        refine g_iln dX11_rests_57 rfl rfl ?_
        obtain ⟨r28, e27, h⟩ := xbp_e h
        refine g_cS3v dX11_rests_58 ml_X11_453 (s_X11_isRest e27) (by decide) rfl ?_
        refine g_yeq dX11_rests_61 (tgt := 84) rfl rfl (fun q29 => ?_) (fun q29 => ?_)
        · replace h := xif_f q29 h
          exact hj25 l2_14 s17 h
        · replace h := xif_t q29 h
          refine g_iln dX11_rests_64 rfl rfl ?_
          obtain ⟨j31, ej32, h⟩ := xjn_e h
          have hj33 : ∀ (s30 : xW), j31 s30 = some q → xG 3 0 0 mX11_rests 81 [vR 121, vI l1_13, vI l2_14, vI l3_15, vI l4_16] [] 155 s30 (xRv (vI q.1) q.2) := by
            intro s30 h
            rw [ej32] at h
            refine g_inc_2 dX11_rests_81 (by decide) rfl ?_
            exact hj25 (l2_14 + 1) s30 h
          clear ej32
          refine g_yne dX11_rests_65 (tgt := 81) rfl rfl (fun q34 => ?_) (fun q34 => ?_)
          · replace h := xif_f q34 h
            exact hj33 s17 h
          · replace h := xif_t q34 h
            refine g_aln dX11_rests_68 rfl rfl (by decide) ?_
            refine g_iln dX11_rests_69 rfl rfl ?_
            refine g_wi2l dX11_rests_70 rfl ?_
            obtain ⟨s36, e35, h⟩ := xbp_e h
            refine g_cV10 dX11_rests_71 ml_X11_18 rfl (s_X11_enters e35) (by decide) rfl ?_
            refine g_aln dX11_rests_74 rfl rfl (by decide) ?_
            refine g_il dX11_rests_75 rfl ?_
            refine g_wi2l dX11_rests_77 rfl ?_
            obtain ⟨s38, e37, h⟩ := xbp_e h
            refine g_cV10 dX11_rests_78 ml_X11_18 rfl (s_X11_enters e37) (by decide) rfl ?_
            exact hj33 s38 h
theorem s_X11_rests_28 {l1_8 : Int} {q : Int × xW} {k : Int → Int → xW → Option (Int × xW)} (hk : ∀ (l2_45 : Int) (l3_46 : Int) (s47 : xW), k l2_45 l3_46 s47 = some q → xG 3 0 0 mX11_rests 96 [vR 121, vI l1_8, vI l2_45, vI l3_46, vX] [] 155 s47 (xRv (vI q.1) q.2)) : ∀ (f : Nat) (l2_9 : Int) (l3_10 : Int) (s11 : xW), F_X11_rests_28 l1_8 f l2_9 l3_10 s11 k = some q → xG 3 0 0 mX11_rests 28 [vR 121, vI l1_8, vI l2_9, vI l3_10, vX] [] 155 s11 (xRv (vI q.1) q.2) := by
  intro f
  induction f with
  | zero => intro l2_9 l3_10 s11 h; cases h
  | succ f ih =>
    intro l2_9 l3_10 s11 h
    unfold F_X11_rests_28 at h
    refine g_iln dX11_rests_28 rfl rfl ?_
    refine g_bi dX11_rests_29 (by decide) ?_
    refine g_wgt dX11_rests_31 (tgt := 96) rfl rfl (xw_id (by decide)) (fun q12 => ?_) (fun q12 => ?_)
    · replace h := xif_f q12 h
      exact hk l2_9 l3_10 s11 h
    · replace h := xif_t q12 h
      refine g_ic dX11_rests_34 ?_
      refine g_ist_4 dX11_rests_35 (by decide) rfl ?_
      refine s_X11_rests_37 (fun l2_42 l4_43 s44 h => ?_) xN _ _ _ h
      refine g_inc_3 dX11_rests_90 (by decide) rfl ?_
      refine g_goto dX11_rests_93 (tgt := 28) rfl ?_
      refine g_drop_4 ?_
      exact ih l2_42 (l3_10 + 1) s44 h
theorem s_X11_rests {a1 : Int} {s0 : xW} {q : Int × xW} (h : F_X11_rests a1 s0 = some q) : xC 3 0 0 mX11_rests [vR 121, vI a1] 155 s0 (xRv (vI q.1) q.2) := by
  refine xC.of [vR 121, vI a1, vX, vX, vX] (by decide +kernel) (Nat.le_of_ble_eq_true rfl) rfl ?_
  unfold F_X11_rests at h
  refine g_aln dX11_rests_0 rfl rfl (by decide) ?_
  refine g_ic dX11_rests_1 ?_
  obtain ⟨s1, e2, h⟩ := xlt_e h
  refine h_putI 0 dX11_rests_2 fl_X11_3 rfl rfl e2 ?_
  refine g_iln dX11_rests_5 rfl rfl ?_
  refine g_wi2l dX11_rests_6 rfl ?_
  refine g_lc dX11_rests_7 (w := 0) rfl ?_
  refine g_ldc2 dX11_rests_8 ct_X11_444 (w := 20) rfl ?_
  obtain ⟨r4, e3, h⟩ := xbp_e h
  refine g_cS3v dX11_rests_11 ml_X11_132 (s_X11_in e3) (by decide) rfl ?_
  refine g_yne dX11_rests_14 (tgt := 19) rfl rfl (fun q5 => ?_) (fun q5 => ?_)
  · replace h := xif_f q5 h
    refine g_ic dX11_rests_19 ?_
    refine g_istn_2 dX11_rests_20 (by decide) rfl ?_
    refine g_aln dX11_rests_21 rfl rfl (by decide) ?_
    refine g_ic dX11_rests_22 ?_
    obtain ⟨s6, e7, h⟩ := xlt_e h
    refine h_putI 1 dX11_rests_23 fl_X11_15 rfl rfl e7 ?_
    refine g_ic dX11_rests_26 ?_
    refine g_istn_3 dX11_rests_27 (by decide) rfl ?_
    refine s_X11_rests_28 (fun l2_48 l3_49 s50 h => ?_) xN _ _ _ h
    refine g_iln dX11_rests_96 rfl rfl ?_
    exact g_rI rfl dX11_rests_97 h
  · replace h := xif_t q5 h
    refine g_ic dX11_rests_17 ?_
    exact g_rI rfl dX11_rests_18 h
theorem dX11_row_0 : decode cX11_row 0 = .ok (.aload_n 0, 1) := by decide +kernel
theorem dX11_row_1 : decode cX11_row 1 = .ok (.iconst 0, 1) := by decide +kernel
theorem dX11_row_2 : decode cX11_row 2 = .ok (.putfield 3, 3) := by decide +kernel
theorem dX11_row_5 : decode cX11_row 5 = .ok (.iload_n 1, 1) := by decide +kernel
theorem dX11_row_6 : decode cX11_row 6 = .ok (.i2l, 1) := by decide +kernel
theorem dX11_row_7 : decode cX11_row 7 = .ok (.lconst 0, 1) := by decide +kernel
theorem dX11_row_8 : decode cX11_row 8 = .ok (.aload_n 0, 1) := by decide +kernel
theorem dX11_row_9 : decode cX11_row 9 = .ok (.getfield 15, 3) := by decide +kernel
theorem dX11_row_12 : decode cX11_row 12 = .ok (.iconst 1, 1) := by decide +kernel
theorem dX11_row_13 : decode cX11_row 13 = .ok (.isub, 1) := by decide +kernel
theorem dX11_row_14 : decode cX11_row 14 = .ok (.i2l, 1) := by decide +kernel
theorem dX11_row_15 : decode cX11_row 15 = .ok (.invokestatic 132, 3) := by decide +kernel
theorem dX11_row_18 : decode cX11_row 18 = .ok (.ifCond .ne 10, 3) := by decide +kernel
theorem dX11_row_21 : decode cX11_row 21 = .ok (.aload_n 0, 1) := by decide +kernel
theorem dX11_row_22 : decode cX11_row 22 = .ok (.iconst 1, 1) := by decide +kernel
theorem dX11_row_23 : decode cX11_row 23 = .ok (.putfield 3, 3) := by decide +kernel
theorem dX11_row_26 : decode cX11_row 26 = .ok (.lconst 0, 1) := by decide +kernel
theorem dX11_row_27 : decode cX11_row 27 = .ok (.lreturn, 1) := by decide +kernel
theorem dX11_row_28 : decode cX11_row 28 = .ok (.aload_n 0, 1) := by decide +kernel
theorem dX11_row_29 : decode cX11_row 29 = .ok (.getfield 11, 3) := by decide +kernel
theorem dX11_row_32 : decode cX11_row 32 = .ok (.iload_n 1, 1) := by decide +kernel
theorem dX11_row_33 : decode cX11_row 33 = .ok (.laload, 1) := by decide +kernel
theorem dX11_row_34 : decode cX11_row 34 = .ok (.lreturn, 1) := by decide +kernel
theorem s_X11_row {a1 : Int} {s0 : xW} {q : Int × xW} (h : F_X11_row a1 s0 = some q) : xC 1 0 0 mX11_row [vR 121, vI a1] 155 s0 (xRv (vL q.1) q.2) := by
  refine xC.of [vR 121, vI a1] (by decide +kernel) (Nat.le_of_ble_eq_true rfl) rfl ?_
  unfold F_X11_row at h
  refine g_aln dX11_row_0 rfl rfl (by decide) ?_
  refine g_ic dX11_row_1 ?_
  obtain ⟨s1, e2, h⟩ := xlt_e h
  refine h_putI 0 dX11_row_2 fl_X11_3 rfl rfl e2 ?_
  refine g_iln dX11_row_5 rfl rfl ?_
  refine g_wi2l dX11_row_6 rfl ?_
  refine g_lc dX11_row_7 (w := 0) rfl ?_
  refine g_aln dX11_row_8 rfl rfl (by decide) ?_
  refine g_getI 1 dX11_row_9 fl_X11_15 rfl rfl ?_
  refine g_ic dX11_row_12 ?_
  refine g_isub dX11_row_13 ?_
  refine g_wi2l dX11_row_14 rfl ?_
  obtain ⟨r4, e3, h⟩ := xbp_e h
  refine g_cS3v dX11_row_15 ml_X11_132 (s_X11_in e3) (by decide) rfl ?_
  refine g_yne dX11_row_18 (tgt := 28) rfl rfl (fun q5 => ?_) (fun q5 => ?_)
  · replace h := xif_f q5 h
    refine g_aln dX11_row_28 rfl rfl (by decide) ?_
    refine g_getC 122 dX11_row_29 fl_X11_11 rfl (by decide) ?_
    refine g_iln dX11_row_32 rfl rfl ?_
    obtain ⟨hg6, h⟩ := xgd_e h
    refine g_lald 24 dX11_row_33 rfl hg6 (by decide) ?_
    exact g_rL rfl dX11_row_34 h
  · replace h := xif_t q5 h
    refine g_aln dX11_row_21 rfl rfl (by decide) ?_
    refine g_ic dX11_row_22 ?_
    obtain ⟨s7, e8, h⟩ := xlt_e h
    refine h_putI 0 dX11_row_23 fl_X11_3 rfl rfl e8 ?_
    refine g_lc dX11_row_26 (w := 0) rfl ?_
    exact g_rL rfl dX11_row_27 h
theorem dX11_rule_0 : decode cX11_rule 0 = .ok (.aload_n 0, 1) := by decide +kernel
theorem dX11_rule_1 : decode cX11_rule 1 = .ok (.iconst 0, 1) := by decide +kernel
theorem dX11_rule_2 : decode cX11_rule 2 = .ok (.putfield 3, 3) := by decide +kernel
theorem dX11_rule_5 : decode cX11_rule 5 = .ok (.aload_n 0, 1) := by decide +kernel
theorem dX11_rule_6 : decode cX11_rule 6 = .ok (.invokevirtual 258, 3) := by decide +kernel
theorem dX11_rule_9 : decode cX11_rule 9 = .ok (.istore_n 1, 1) := by decide +kernel
theorem dX11_rule_10 : decode cX11_rule 10 = .ok (.iload_n 1, 1) := by decide +kernel
theorem dX11_rule_11 : decode cX11_rule 11 = .ok (.ifCond .ne 15, 3) := by decide +kernel
theorem dX11_rule_14 : decode cX11_rule 14 = .ok (.aload_n 0, 1) := by decide +kernel
theorem dX11_rule_15 : decode cX11_rule 15 = .ok (.aload_n 0, 1) := by decide +kernel
theorem dX11_rule_16 : decode cX11_rule 16 = .ok (.getfield 62, 3) := by decide +kernel
theorem dX11_rule_19 : decode cX11_rule 19 = .ok (.aload_n 0, 1) := by decide +kernel
theorem dX11_rule_20 : decode cX11_rule 20 = .ok (.getfield 234, 3) := by decide +kernel
theorem dX11_rule_23 : decode cX11_rule 23 = .ok (.invokevirtual 261, 3) := by decide +kernel
theorem dX11_rule_26 : decode cX11_rule 26 = .ok (.iload_n 1, 1) := by decide +kernel
theorem dX11_rule_27 : decode cX11_rule 27 = .ok (.ireturn, 1) := by decide +kernel
theorem s_X11_rule {s0 : xW} {q : Int × xW} (h : F_X11_rule  s0 = some q) : xC 321 0 0 mX11_rule [vR 121] 155 s0 (xRv (vI q.1) q.2) := by
  refine xC.of [vR 121, vX] (by decide +kernel) (Nat.le_of_ble_eq_true rfl) rfl ?_
  unfold F_X11_rule at h
  refine g_aln dX11_rule_0 rfl rfl (by decide) ?_
  refine g_ic dX11_rule_1 ?_
  obtain ⟨s1, e2, h⟩ := xlt_e h
  refine h_putI 0 dX11_rule_2 fl_X11_3 rfl rfl e2 ?_
  refine g_aln dX11_rule_5 rfl rfl (by decide) ?_
  obtain ⟨r4, s5, e3, h⟩ := xbd_e h
  refine g_cV0v dX11_rule_6 ml_X11_258 rfl (s_X11_readsRule e3) (by decide) rfl ?_
  refine g_istn_1 dX11_rule_9 (by decide) rfl ?_
  refine g_iln dX11_rule_10 rfl rfl ?_
  obtain ⟨j7, ej8, h⟩ := xjn_e h
  have hj9 : ∀ (s6 : xW), j7 s6 = some q → xG 321 0 0 mX11_rule 26 [vX, vI r4] [] 155 s6 (xRv (vI q.1) q.2) := by
    intro s6 h
    rw [ej8] at h
    refine g_iln dX11_rule_26 rfl rfl ?_
    exact g_rI rfl dX11_rule_27 h
  clear ej8
  refine g_yne dX11_rule_11 (tgt := 26) rfl rfl (fun q10 => ?_) (fun q10 => ?_)
  · replace h := xif_f q10 h
    refine g_drop_0 ?_
    exact hj9 s5 h
  · replace h := xif_t q10 h
    refine g_aln dX11_rule_14 rfl rfl (by decide) ?_
    refine g_aln dX11_rule_15 rfl rfl (by decide) ?_
    refine g_getC 132 dX11_rule_16 fl_X11_62 rfl (by decide) ?_
    refine g_aln dX11_rule_19 rfl rfl (by decide) ?_
    refine g_getI 24 dX11_rule_20 fl_X11_234 rfl rfl ?_
    obtain ⟨s12, e11, h⟩ := xbp_e h
    refine g_cV20 dX11_rule_23 ml_X11_261 rfl (s_X11_laysCode e11) (by decide) rfl ?_
    refine g_drop_0 ?_
    exact hj9 s12 h
theorem dX11_sheet_0 : decode cX11_sheet 0 = .ok (.aload_n 0, 1) := by decide +kernel
theorem dX11_sheet_1 : decode cX11_sheet 1 = .ok (.iconst 0, 1) := by decide +kernel
theorem dX11_sheet_2 : decode cX11_sheet 2 = .ok (.putfield 3, 3) := by decide +kernel
theorem dX11_sheet_5 : decode cX11_sheet 5 = .ok (.iload_n 1, 1) := by decide +kernel
theorem dX11_sheet_6 : decode cX11_sheet 6 = .ok (.i2l, 1) := by decide +kernel
theorem dX11_sheet_7 : decode cX11_sheet 7 = .ok (.lconst 0, 1) := by decide +kernel
theorem dX11_sheet_8 : decode cX11_sheet 8 = .ok (.ldc2_w 331, 3) := by decide +kernel
theorem dX11_sheet_11 : decode cX11_sheet 11 = .ok (.invokestatic 132, 3) := by decide +kernel
theorem dX11_sheet_14 : decode cX11_sheet 14 = .ok (.ifCond .eq 9, 3) := by decide +kernel
theorem dX11_sheet_17 : decode cX11_sheet 17 = .ok (.iload_n 2, 1) := by decide +kernel
theorem dX11_sheet_18 : decode cX11_sheet 18 = .ok (.bipush 8, 2) := by decide +kernel
theorem dX11_sheet_20 : decode cX11_sheet 20 = .ok (.if_icmp .le 5, 3) := by decide +kernel
theorem dX11_sheet_23 : decode cX11_sheet 23 = .ok (.iconst (-1), 1) := by decide +kernel
theorem dX11_sheet_24 : decode cX11_sheet 24 = .ok (.ireturn, 1) := by decide +kernel
theorem dX11_sheet_25 : decode cX11_sheet 25 = .ok (.iload_n 1, 1) := by decide +kernel
theorem dX11_sheet_26 : decode cX11_sheet 26 = .ok (.iconst 3, 1) := by decide +kernel
theorem dX11_sheet_27 : decode cX11_sheet 27 = .ok (.if_icmp .eq 10, 3) := by decide +kernel
theorem dX11_sheet_30 : decode cX11_sheet 30 = .ok (.iload_n 2, 1) := by decide +kernel
theorem dX11_sheet_31 : decode cX11_sheet 31 = .ok (.ifCond .ge 6, 3) := by decide +kernel
theorem dX11_sheet_34 : decode cX11_sheet 34 = .ok (.bipush (-2), 2) := by decide +kernel
theorem dX11_sheet_36 : decode cX11_sheet 36 = .ok (.ireturn, 1) := by decide +kernel
theorem dX11_sheet_37 : decode cX11_sheet 37 = .ok (.iconst 0, 1) := by decide +kernel
theorem dX11_sheet_38 : decode cX11_sheet 38 = .ok (.istore 5, 2) := by decide +kernel
theorem dX11_sheet_40 : decode cX11_sheet 40 = .ok (.iload_n 3, 1) := by decide +kernel
theorem dX11_sheet_41 : decode cX11_sheet 41 = .ok (.istore 6, 2) := by decide +kernel
theorem dX11_sheet_43 : decode cX11_sheet 43 = .ok (.iconst 0, 1) := by decide +kernel
theorem dX11_sheet_44 : decode cX11_sheet 44 = .ok (.istore 7, 2) := by decide +kernel
theorem dX11_sheet_46 : decode cX11_sheet 46 = .ok (.iload 7, 2) := by decide +kernel
theorem dX11_sheet_48 : decode cX11_sheet 48 = .ok (.aload_n 0, 1) := by decide +kernel
theorem dX11_sheet_49 : decode cX11_sheet 49 = .ok (.getfield 136, 3) := by decide +kernel
theorem dX11_sheet_52 : decode cX11_sheet 52 = .ok (.if_icmp .ge 92, 3) := by decide +kernel
theorem dX11_sheet_55 : decode cX11_sheet 55 = .ok (.iload_n 1, 1) := by decide +kernel
theorem dX11_sheet_56 : decode cX11_sheet 56 = .ok (.ifCond .ne 9, 3) := by decide +kernel
theorem dX11_sheet_59 : decode cX11_sheet 59 = .ok (.iload 6, 2) := by decide +kernel
theorem dX11_sheet_61 : decode cX11_sheet 61 = .ok (.i2b, 1) := by decide +kernel
theorem dX11_sheet_62 : decode cX11_sheet 62 = .ok (.goto 16, 3) := by decide +kernel
theorem dX11_sheet_65 : decode cX11_sheet 65 = .ok (.iload_n 1, 1) := by decide +kernel
theorem dX11_sheet_66 : decode cX11_sheet 66 = .ok (.iconst 1, 1) := by decide +kernel
theorem dX11_sheet_67 : decode cX11_sheet 67 = .ok (.if_icmp .ne 9, 3) := by decide +kernel
theorem dX11_sheet_70 : decode cX11_sheet 70 = .ok (.iload 6, 2) := by decide +kernel
theorem dX11_sheet_72 : decode cX11_sheet 72 = .ok (.i2s, 1) := by decide +kernel
theorem dX11_sheet_73 : decode cX11_sheet 73 = .ok (.goto 5, 3) := by decide +kernel
theorem dX11_sheet_76 : decode cX11_sheet 76 = .ok (.iload 6, 2) := by decide +kernel
theorem dX11_sheet_78 : decode cX11_sheet 78 = .ok (.istore 8, 2) := by decide +kernel
theorem dX11_sheet_80 : decode cX11_sheet 80 = .ok (.aload_n 0, 1) := by decide +kernel
theorem dX11_sheet_81 : decode cX11_sheet 81 = .ok (.getfield 47, 3) := by decide +kernel
theorem dX11_sheet_84 : decode cX11_sheet 84 = .ok (.bipush 24, 2) := by decide +kernel
theorem dX11_sheet_86 : decode cX11_sheet 86 = .ok (.iload 7, 2) := by decide +kernel
theorem dX11_sheet_88 : decode cX11_sheet 88 = .ok (.iadd, 1) := by decide +kernel
theorem dX11_sheet_89 : decode cX11_sheet 89 = .ok (.iload_n 1, 1) := by decide +kernel
theorem dX11_sheet_90 : decode cX11_sheet 90 = .ok (.iconst 3, 1) := by decide +kernel
theorem dX11_sheet_91 : decode cX11_sheet 91 = .ok (.if_icmp .eq 9, 3) := by decide +kernel
theorem dX11_sheet_94 : decode cX11_sheet 94 = .ok (.iload 7, 2) := by decide +kernel
theorem dX11_sheet_96 : decode cX11_sheet 96 = .ok (.iload_n 2, 1) := by decide +kernel
theorem dX11_sheet_97 : decode cX11_sheet 97 = .ok (.if_icmp .lt 7, 3) := by decide +kernel
theorem dX11_sheet_100 : decode cX11_sheet 100 = .ok (.iconst 1, 1) := by decide +kernel
theorem dX11_sheet_101 : decode cX11_sheet 101 = .ok (.goto 14, 3) := by decide +kernel
theorem dX11_sheet_104 : decode cX11_sheet 104 = .ok (.iconst 1, 1) := by decide +kernel
theorem dX11_sheet_105 : decode cX11_sheet 105 = .ok (.bipush 9, 2) := by decide +kernel
theorem dX11_sheet_107 : decode cX11_sheet 107 = .ok (.iload 8, 2) := by decide +kernel
theorem dX11_sheet_109 : decode cX11_sheet 109 = .ok (.invokestatic 150, 3) := by decide +kernel
theorem dX11_sheet_112 : decode cX11_sheet 112 = .ok (.invokestatic 279, 3) := by decide +kernel
theorem dX11_sheet_115 : decode cX11_sheet 115 = .ok (.iastore, 1) := by decide +kernel
theorem dX11_sheet_116 : decode cX11_sheet 116 = .ok (.iload 5, 2) := by decide +kernel
theorem dX11_sheet_118 : decode cX11_sheet 118 = .ok (.aload_n 0, 1) := by decide +kernel
theorem dX11_sheet_119 : decode cX11_sheet 119 = .ok (.getfield 47, 3) := by decide +kernel
theorem dX11_sheet_122 : decode cX11_sheet 122 = .ok (.bipush 24, 2) := by decide +kernel
theorem dX11_sheet_124 : decode cX11_sheet 124 = .ok (.iload 7, 2) := by decide +kernel
theorem dX11_sheet_126 : decode cX11_sheet 126 = .ok (.iadd, 1) := by decide +kernel
theorem dX11_sheet_127 : decode cX11_sheet 127 = .ok (.iaload, 1) := by decide +kernel
theorem dX11_sheet_128 : decode cX11_sheet 128 = .ok (.iadd, 1) := by decide +kernel
theorem dX11_sheet_129 : decode cX11_sheet 129 = .ok (.istore 5, 2) := by decide +kernel
theorem dX11_sheet_131 : decode cX11_sheet 131 = .ok (.iload 6, 2) := by decide +kernel
theorem dX11_sheet_133 : decode cX11_sheet 133 = .ok (.iload 4, 2) := by decide +kernel
theorem dX11_sheet_135 : decode cX11_sheet 135 = .ok (.iadd, 1) := by decide +kernel
theorem dX11_sheet_136 : decode cX11_sheet 136 = .ok (.istore 6, 2) := by decide +kernel
theorem dX11_sheet_138 : decode cX11_sheet 138 = .ok (.iinc 7 1, 3) := by decide +kernel
theorem dX11_sheet_141 : decode cX11_sheet 141 = .ok (.goto (-95), 3) := by decide +kernel
theorem dX11_sheet_144 : decode cX11_sheet 144 = .ok (.iload_n 1, 1) := by decide +kernel
theorem dX11_sheet_145 : decode cX11_sheet 145 = .ok (.iconst 3, 1) := by decide +kernel
theorem dX11_sheet_146 : decode cX11_sheet 146 = .ok (.if_icmp .ne 8, 3) := by decide +kernel
theorem dX11_sheet_149 : decode cX11_sheet 149 = .ok (.bipush (-3), 2) := by decide +kernel
theorem dX11_sheet_151 : decode cX11_sheet 151 = .ok (.goto 5, 3) := by decide +kernel
theorem dX11_sheet_154 : decode cX11_sheet 154 = .ok (.iload 5, 2) := by decide +kernel
theorem dX11_sheet_156 : decode cX11_sheet 156 = .ok (.ireturn, 1) := by decide +kernel
theorem s_X11_sheet_46 {l1_13 l2_14 l4_15 : Int} {q : Int × xW} {k : Int → Int → Int → xW → Option (Int × xW)} (hk : ∀ (l5_39 : Int) (l6_40 : Int) (l7_41 : Int) (s42 : xW), k l5_39 l6_40 l7_41 s42 = some q → xG 1 0 0 mX11_sheet 144 [vR 121, vI l1_13, vI l2_14, vX, vI l4_15, vI l5_39, vI l6_40, vI l7_41, vX] [] 155 s42 (xRv (vI q.1) q.2)) : ∀ (f : Nat) (l5_16 : Int) (l6_17 : Int) (l7_18 : Int) (s19 : xW), F_X11_sheet_46 l1_13 l2_14 l4_15 f l5_16 l6_17 l7_18 s19 k = some q → xG 1 0 0 mX11_sheet 46 [vR 121, vI l1_13, vI l2_14, vX, vI l4_15, vI l5_16, vI l6_17, vI l7_18, vX] [] 155 s19 (xRv (vI q.1) q.2) := by
  intro f
  induction f with
  | zero => intro l5_16 l6_17 l7_18 s19 h; cases h
  | succ f ih =>
    intro l5_16 l6_17 l7_18 s19 h
    unfold F_X11_sheet_46 at h
    refine g_il dX11_sheet_46 rfl ?_
    refine g_aln dX11_sheet_48 rfl rfl (by decide) ?_
    refine g_getI 4 dX11_sheet_49 fl_X11_136 rfl rfl ?_
    refine g_wge dX11_sheet_52 (tgt := 144) rfl rfl rfl (fun q20 => ?_) (fun q20 => ?_)
    · replace h := xif_f q20 h
      exact hk l5_16 l6_17 l7_18 s19 h
    · replace h := xif_t q20 h
      refine g_iln dX11_sheet_55 rfl rfl ?_
      obtain ⟨v23, e24, h⟩ := xlt_e h
      have hj25 : xG 1 0 0 mX11_sheet 78 [vR 121, vI l1_13, vI l2_14, vX, vI l4_15, vI l5_16, vI l6_17, vI l7_18, vX] [vI v23] 155 s19 (xRv (vI q.1) q.2) := by
        refine g_ist_8 dX11_sheet_78 (by decide) rfl ?_
        refine g_aln dX11_sheet_80 rfl rfl (by decide) ?_
        refine g_getC 127 dX11_sheet_81 fl_X11_47 rfl (by decide) ?_
        refine g_bi dX11_sheet_84 (by decide) ?_
        refine g_il dX11_sheet_86 rfl ?_
        refine g_iadd dX11_sheet_88 ?_
        refine g_iln dX11_sheet_89 rfl rfl ?_
        refine g_ic dX11_sheet_90 ?_
        obtain ⟨j27, ej28, h⟩ := xjn_e h
        have hj29 : ∀ (t26 : Int), j27 t26 = some q → xG 1 0 0 mX11_sheet 115 [vR 121, vI l1_13, vI l2_14, vX, vI l4_15, vI l5_16, vI l6_17, vI l7_18, vX] [vI t26, vI (24 + l7_18), vR 127] 155 s19 (xRv (vI q.1) q.2) := by
          intro t26 h
          rw [ej28] at h
          obtain ⟨hg30, h⟩ := xgd_e h
          obtain ⟨s31, e32, h⟩ := xlt_e h
          refine h_iast 40 dX11_sheet_115 rfl hg30 (by decide) e32 ?_
          refine g_il dX11_sheet_116 rfl ?_
          refine g_aln dX11_sheet_118 rfl rfl (by decide) ?_
          refine g_getC 127 dX11_sheet_119 fl_X11_47 rfl (by decide) ?_
          refine g_bi dX11_sheet_122 (by decide) ?_
          refine g_il dX11_sheet_124 rfl ?_
          refine g_iadd dX11_sheet_126 ?_
          obtain ⟨hg33, h⟩ := xgd_e h
          refine g_iald 40 dX11_sheet_127 rfl hg33 (by decide) ?_
          refine g_iadd dX11_sheet_128 ?_
          refine g_ist_5 dX11_sheet_129 (by decide) rfl ?_
          refine g_il dX11_sheet_131 rfl ?_
          refine g_il dX11_sheet_133 rfl ?_
          refine g_iadd dX11_sheet_135 ?_
          refine g_ist_6 dX11_sheet_136 (by decide) rfl ?_
          refine g_inc_7 dX11_sheet_138 (by decide) rfl ?_
          refine g_goto dX11_sheet_141 (tgt := 46) rfl ?_
          exact ih (l5_16 + (s31 127 (24 + l7_18))) (l6_17 + l4_15) (l7_18 + 1) s31 h
        clear ej28
        obtain ⟨j34, ej35, h⟩ := xjn_e h
        have hj36 : j34  = some q → xG 1 0 0 mX11_sheet 100 [vR 121, vI l1_13, vI l2_14, vX, vI l4_15, vI l5_16, vI l6_17, vI l7_18, vX] [vI (24 + l7_18), vR 127] 155 s19 (xRv (vI q.1) q.2) := by
          intro  h
          rw [ej35] at h
          refine g_ic dX11_sheet_100 ?_
          refine g_goto dX11_sheet_101 (tgt := 115) rfl ?_
          exact hj29 1 h
        clear ej35
        refine g_weq dX11_sheet_91 (tgt := 100) rfl rfl (xw_id (by decide)) (fun q37 => ?_) (fun q37 => ?_)
        · replace h := xif_f q37 h
          refine g_drop_8 ?_
          exact hj36  h
        · replace h := xif_t q37 h
          refine g_il dX11_sheet_94 rfl ?_
          refine g_iln dX11_sheet_96 rfl rfl ?_
          refine g_wlt dX11_sheet_97 (tgt := 104) rfl rfl rfl (fun q38 => ?_) (fun q38 => ?_)
          · replace h := xif_f q38 h
            refine g_ic dX11_sheet_104 ?_
            refine g_bi dX11_sheet_105 (by decide) ?_
            refine g_il dX11_sheet_107 rfl ?_
            refine g_wmin dX11_sheet_109 mx_X11_150 (xw_id (by decide)) rfl (by decide) rfl ?_
            refine g_wmax dX11_sheet_112 mx_X11_279 (xw_id (by decide)) rfl (by decide) rfl ?_
            refine g_drop_8 ?_
            exact hj29 (max 1 (xw (min 9 (xw v23)))) h
          · replace h := xif_t q38 h
            refine g_drop_8 ?_
            exact hj36  h
      refine g_yne dX11_sheet_56 (tgt := 65) rfl rfl (fun c21 => ?_) (fun c21 => ?_)
      · skip
        refine g_iln dX11_sheet_65 rfl rfl ?_
        refine g_ic dX11_sheet_66 ?_
        refine g_wne dX11_sheet_67 (tgt := 76) rfl rfl (xw_id (by decide)) (fun c22 => ?_) (fun c22 => ?_)
        · skip
          refine g_il dX11_sheet_76 rfl ?_
          exact g_vq (((if_neg c21).trans (if_neg c22)).symm.trans e24) hj25
        · skip
          refine g_il dX11_sheet_70 rfl ?_
          refine g_i2s dX11_sheet_72 ?_
          refine g_goto dX11_sheet_73 (tgt := 78) rfl ?_
          exact g_vq (((if_neg c21).trans (if_pos c22)).symm.trans e24) hj25
      · skip
        refine g_il dX11_sheet_59 rfl ?_
        refine g_i2b dX11_sheet_61 ?_
        refine g_goto dX11_sheet_62 (tgt := 78) rfl ?_
        exact g_vq ((if_pos c21).symm.trans e24) hj25
theorem s_X11_sheet {a1 a2 a3 a4 : Int} {s0 : xW} {q : Int × xW} (h : F_X11_sheet a1 a2 a3 a4 s0 = some q) : xC 1 0 0 mX11_sheet [vR 121, vI a1, vI a2, vI a3, vI a4] 155 s0 (xRv (vI q.1) q.2) := by
  refine xC.of [vR 121, vI a1, vI a2, vI a3, vI a4, vX, vX, vX, vX] (by decide +kernel) (Nat.le_of_ble_eq_true rfl) rfl ?_
  unfold F_X11_sheet at h
  refine g_aln dX11_sheet_0 rfl rfl (by decide) ?_
  refine g_ic dX11_sheet_1 ?_
  obtain ⟨s1, e2, h⟩ := xlt_e h
  refine h_putI 0 dX11_sheet_2 fl_X11_3 rfl rfl e2 ?_
  refine g_iln dX11_sheet_5 rfl rfl ?_
  refine g_wi2l dX11_sheet_6 rfl ?_
  refine g_lc dX11_sheet_7 (w := 0) rfl ?_
  refine g_ldc2 dX11_sheet_8 ct_X11_331 (w := 3) rfl ?_
  obtain ⟨r4, e3, h⟩ := xbp_e h
  refine g_cS3v dX11_sheet_11 ml_X11_132 (s_X11_in e3) (by decide) rfl ?_
  obtain ⟨j5, ej6, h⟩ := xjn_e h
  have hj7 : j5  = some q → xG 1 0 0 mX11_sheet 23 [vX, vX, vX, vX, vX, vX, vX, vX, vX] [] 155 s1 (xRv (vI q.1) q.2) := by
    intro  h
    rw [ej6] at h
    refine g_ic dX11_sheet_23 ?_
    exact g_rI rfl dX11_sheet_24 h
  clear ej6
  refine g_yeq dX11_sheet_14 (tgt := 23) rfl rfl (fun q8 => ?_) (fun q8 => ?_)
  · replace h := xif_f q8 h
    refine g_drop_0 ?_
    refine g_drop_1 ?_
    refine g_drop_2 ?_
    refine g_drop_3 ?_
    refine g_drop_4 ?_
    exact hj7  h
  · replace h := xif_t q8 h
    refine g_iln dX11_sheet_17 rfl rfl ?_
    refine g_bi dX11_sheet_18 (by decide) ?_
    refine g_wle dX11_sheet_20 (tgt := 25) rfl rfl (xw_id (by decide)) (fun q9 => ?_) (fun q9 => ?_)
    · replace h := xif_f q9 h
      refine g_iln dX11_sheet_25 rfl rfl ?_
      refine g_ic dX11_sheet_26 ?_
      obtain ⟨j10, ej11, h⟩ := xjn_e h
      have hj12 : j10  = some q → xG 1 0 0 mX11_sheet 37 [vR 121, vI a1, vI a2, vI a3, vI a4, vX, vX, vX, vX] [] 155 s1 (xRv (vI q.1) q.2) := by
        intro  h
        rw [ej11] at h
        refine g_ic dX11_sheet_37 ?_
        refine g_ist_5 dX11_sheet_38 (by decide) rfl ?_
        refine g_iln dX11_sheet_40 rfl rfl ?_
        refine g_ist_6 dX11_sheet_41 (by decide) rfl ?_
        refine g_ic dX11_sheet_43 ?_
        refine g_ist_7 dX11_sheet_44 (by decide) rfl ?_
        refine g_drop_3 ?_
        refine s_X11_sheet_46 (fun l5_43 l6_44 l7_45 s46 h => ?_) xN _ _ _ _ h
        refine g_iln dX11_sheet_144 rfl rfl ?_
        refine g_ic dX11_sheet_145 ?_
        obtain ⟨v48, e49, h⟩ := xlt_e h
        have hj50 : xG 1 0 0 mX11_sheet 156 [vX, vX, vX, vX, vX, vX, vX, vX, vX] [vI v48] 155 s46 (xRv (vI q.1) q.2) := by
          exact g_rI rfl dX11_sheet_156 h
        refine g_wne dX11_sheet_146 (tgt := 154) rfl rfl (xw_id (by decide)) (fun c47 => ?_) (fun c47 => ?_)
        · skip
          refine g_il dX11_sheet_154 rfl ?_
          refine g_drop_0 ?_
          refine g_drop_1 ?_
          refine g_drop_2 ?_
          refine g_drop_4 ?_
          refine g_drop_5 ?_
          refine g_drop_6 ?_
          refine g_drop_7 ?_
          exact g_vq ((if_neg c47).symm.trans e49) hj50
        · skip
          refine g_bi dX11_sheet_149 (by decide) ?_
          refine g_goto dX11_sheet_151 (tgt := 156) rfl ?_
          refine g_drop_0 ?_
          refine g_drop_1 ?_
          refine g_drop_2 ?_
          refine g_drop_4 ?_
          refine g_drop_5 ?_
          refine g_drop_6 ?_
          refine g_drop_7 ?_
          exact g_vq ((if_pos c47).symm.trans e49) hj50
      clear ej11
      refine g_weq dX11_sheet_27 (tgt := 37) rfl rfl (xw_id (by decide)) (fun q51 => ?_) (fun q51 => ?_)
      · replace h := xif_f q51 h
        exact hj12  h
      · replace h := xif_t q51 h
        refine g_iln dX11_sheet_30 rfl rfl ?_
        refine g_yge dX11_sheet_31 (tgt := 37) rfl rfl (fun q52 => ?_) (fun q52 => ?_)
        · replace h := xif_f q52 h
          exact hj12  h
        · replace h := xif_t q52 h
          refine g_bi dX11_sheet_34 (by decide) ?_
          exact g_rI rfl dX11_sheet_36 h
    · replace h := xif_t q9 h
      refine g_drop_0 ?_
      refine g_drop_1 ?_
      refine g_drop_2 ?_
      refine g_drop_3 ?_
      refine g_drop_4 ?_
      exact hj7  h
theorem dX11_sign_0 : decode cX11_sign 0 = .ok (.aload_n 0, 1) := by decide +kernel
theorem dX11_sign_1 : decode cX11_sign 1 = .ok (.iconst 0, 1) := by decide +kernel
theorem dX11_sign_2 : decode cX11_sign 2 = .ok (.putfield 3, 3) := by decide +kernel
theorem dX11_sign_5 : decode cX11_sign 5 = .ok (.aload_n 0, 1) := by decide +kernel
theorem dX11_sign_6 : decode cX11_sign 6 = .ok (.getfield 141, 3) := by decide +kernel
theorem dX11_sign_9 : decode cX11_sign 9 = .ok (.bipush 76, 2) := by decide +kernel
theorem dX11_sign_11 : decode cX11_sign 11 = .ok (.if_icmp .le 5, 3) := by decide +kernel
theorem dX11_sign_14 : decode cX11_sign 14 = .ok (.iconst (-1), 1) := by decide +kernel
theorem dX11_sign_15 : decode cX11_sign 15 = .ok (.ireturn, 1) := by decide +kernel
theorem dX11_sign_16 : decode cX11_sign 16 = .ok (.iconst 0, 1) := by decide +kernel
theorem dX11_sign_17 : decode cX11_sign 17 = .ok (.istore_n 2, 1) := by decide +kernel
theorem dX11_sign_18 : decode cX11_sign 18 = .ok (.iload_n 2, 1) := by decide +kernel
theorem dX11_sign_19 : decode cX11_sign 19 = .ok (.iconst 4, 1) := by decide +kernel
theorem dX11_sign_20 : decode cX11_sign 20 = .ok (.if_icmp .ge 33, 3) := by decide +kernel
theorem dX11_sign_23 : decode cX11_sign 23 = .ok (.aload_n 0, 1) := by decide +kernel
theorem dX11_sign_24 : decode cX11_sign 24 = .ok (.getfield 53, 3) := by decide +kernel
theorem dX11_sign_27 : decode cX11_sign 27 = .ok (.aload_n 0, 1) := by decide +kernel
theorem dX11_sign_28 : decode cX11_sign 28 = .ok (.getfield 141, 3) := by decide +kernel
theorem dX11_sign_31 : decode cX11_sign 31 = .ok (.iload_n 2, 1) := by decide +kernel
theorem dX11_sign_32 : decode cX11_sign 32 = .ok (.iadd, 1) := by decide +kernel
theorem dX11_sign_33 : decode cX11_sign 33 = .ok (.iload_n 1, 1) := by decide +kernel
theorem dX11_sign_34 : decode cX11_sign 34 = .ok (.bipush 24, 2) := by decide +kernel
theorem dX11_sign_36 : decode cX11_sign 36 = .ok (.bipush 8, 2) := by decide +kernel
theorem dX11_sign_38 : decode cX11_sign 38 = .ok (.iload_n 2, 1) := by decide +kernel
theorem dX11_sign_39 : decode cX11_sign 39 = .ok (.imul, 1) := by decide +kernel
theorem dX11_sign_40 : decode cX11_sign 40 = .ok (.isub, 1) := by decide +kernel
theorem dX11_sign_41 : decode cX11_sign 41 = .ok (.ishr, 1) := by decide +kernel
theorem dX11_sign_42 : decode cX11_sign 42 = .ok (.sipush 255, 3) := by decide +kernel
theorem dX11_sign_45 : decode cX11_sign 45 = .ok (.iand, 1) := by decide +kernel
theorem dX11_sign_46 : decode cX11_sign 46 = .ok (.iastore, 1) := by decide +kernel
theorem dX11_sign_47 : decode cX11_sign 47 = .ok (.iinc 2 1, 3) := by decide +kernel
theorem dX11_sign_50 : decode cX11_sign 50 = .ok (.goto (-32), 3) := by decide +kernel
theorem dX11_sign_53 : decode cX11_sign 53 = .ok (.aload_n 0, 1) := by decide +kernel
theorem dX11_sign_54 : decode cX11_sign 54 = .ok (.dup, 1) := by decide +kernel
theorem dX11_sign_55 : decode cX11_sign 55 = .ok (.getfield 141, 3) := by decide +kernel
theorem dX11_sign_58 : decode cX11_sign 58 = .ok (.iconst 4, 1) := by decide +kernel
theorem dX11_sign_59 : decode cX11_sign 59 = .ok (.iadd, 1) := by decide +kernel
theorem dX11_sign_60 : decode cX11_sign 60 = .ok (.putfield 141, 3) := by decide +kernel
theorem dX11_sign_63 : decode cX11_sign 63 = .ok (.aload_n 0, 1) := by decide +kernel
theorem dX11_sign_64 : decode cX11_sign 64 = .ok (.getfield 141, 3) := by decide +kernel
theorem dX11_sign_67 : decode cX11_sign 67 = .ok (.ireturn, 1) := by decide +kernel
theorem s_X11_sign_18 {l1_4 : Int} {q : Int × xW} {k : Int → xW → Option (Int × xW)} (hk : ∀ (l2_11 : Int) (s12 : xW), k l2_11 s12 = some q → xG 0 0 0 mX11_sign 53 [vR 121, vI l1_4, vI l2_11] [] 155 s12 (xRv (vI q.1) q.2)) : ∀ (f : Nat) (l2_5 : Int) (s6 : xW), F_X11_sign_18 l1_4 f l2_5 s6 k = some q → xG 0 0 0 mX11_sign 18 [vR 121, vI l1_4, vI l2_5] [] 155 s6 (xRv (vI q.1) q.2) := by
  intro f
  induction f with
  | zero => intro l2_5 s6 h; cases h
  | succ f ih =>
    intro l2_5 s6 h
    unfold F_X11_sign_18 at h
    refine g_iln dX11_sign_18 rfl rfl ?_
    refine g_ic dX11_sign_19 ?_
    refine g_wge dX11_sign_20 (tgt := 53) rfl rfl (xw_id (by decide)) (fun q7 => ?_) (fun q7 => ?_)
    · replace h := xif_f q7 h
      exact hk l2_5 s6 h
    · replace h := xif_t q7 h
      refine g_aln dX11_sign_23 rfl rfl (by decide) ?_
      refine g_getC 129 dX11_sign_24 fl_X11_53 rfl (by decide) ?_
      refine g_aln dX11_sign_27 rfl rfl (by decide) ?_
      refine g_getI 15 dX11_sign_28 fl_X11_141 rfl rfl ?_
      refine g_iln dX11_sign_31 rfl rfl ?_
      refine g_iadd dX11_sign_32 ?_
      refine g_iln dX11_sign_33 rfl rfl ?_
      refine g_bi dX11_sign_34 (by decide) ?_
      refine g_bi dX11_sign_36 (by decide) ?_
      refine g_iln dX11_sign_38 rfl rfl ?_
      refine g_imul dX11_sign_39 ?_
      refine g_isub dX11_sign_40 ?_
      refine g_ishr dX11_sign_41 ?_
      refine g_si dX11_sign_42 (by decide) ?_
      refine g_iand dX11_sign_45 ?_
      obtain ⟨hg8, h⟩ := xgd_e h
      obtain ⟨s9, e10, h⟩ := xlt_e h
      refine h_iast 80 dX11_sign_46 rfl hg8 (by decide) e10 ?_
      refine g_inc_2 dX11_sign_47 (by decide) rfl ?_
      refine g_goto dX11_sign_50 (tgt := 18) rfl ?_
      exact ih (l2_5 + 1) s9 h
theorem s_X11_sign {a1 : Int} {s0 : xW} {q : Int × xW} (h : F_X11_sign a1 s0 = some q) : xC 0 0 0 mX11_sign [vR 121, vI a1] 155 s0 (xRv (vI q.1) q.2) := by
  refine xC.of [vR 121, vI a1, vX] (by decide +kernel) (Nat.le_of_ble_eq_true rfl) rfl ?_
  unfold F_X11_sign at h
  refine g_aln dX11_sign_0 rfl rfl (by decide) ?_
  refine g_ic dX11_sign_1 ?_
  obtain ⟨s1, e2, h⟩ := xlt_e h
  refine h_putI 0 dX11_sign_2 fl_X11_3 rfl rfl e2 ?_
  refine g_aln dX11_sign_5 rfl rfl (by decide) ?_
  refine g_getI 15 dX11_sign_6 fl_X11_141 rfl rfl ?_
  refine g_bi dX11_sign_9 (by decide) ?_
  refine g_wle dX11_sign_11 (tgt := 16) rfl rfl (xw_id (by decide)) (fun q3 => ?_) (fun q3 => ?_)
  · replace h := xif_f q3 h
    refine g_ic dX11_sign_16 ?_
    refine g_istn_2 dX11_sign_17 (by decide) rfl ?_
    refine s_X11_sign_18 (fun l2_13 s14 h => ?_) xN _ _ h
    refine g_aln dX11_sign_53 rfl rfl (by decide) ?_
    refine g_dup dX11_sign_54 rfl ?_
    refine g_getI 15 dX11_sign_55 fl_X11_141 rfl rfl ?_
    refine g_ic dX11_sign_58 ?_
    refine g_iadd dX11_sign_59 ?_
    obtain ⟨s15, e16, h⟩ := xlt_e h
    refine h_putI 15 dX11_sign_60 fl_X11_141 rfl rfl e16 ?_
    refine g_aln dX11_sign_63 rfl rfl (by decide) ?_
    refine g_getI 15 dX11_sign_64 fl_X11_141 rfl rfl ?_
    exact g_rI rfl dX11_sign_67 h
  · replace h := xif_t q3 h
    refine g_ic dX11_sign_14 ?_
    exact g_rI rfl dX11_sign_15 h
