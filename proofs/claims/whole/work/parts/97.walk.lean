theorem dX11_houses_0 : decode cX11_houses 0 = .ok (.aload_n 0, 1) := by decide +kernel
theorem dX11_houses_1 : decode cX11_houses 1 = .ok (.iconst 0, 1) := by decide +kernel
theorem dX11_houses_2 : decode cX11_houses 2 = .ok (.putfield 3, 3) := by decide +kernel
theorem dX11_houses_5 : decode cX11_houses 5 = .ok (.aload_n 0, 1) := by decide +kernel
theorem dX11_houses_6 : decode cX11_houses 6 = .ok (.iconst 1, 1) := by decide +kernel
theorem dX11_houses_7 : decode cX11_houses 7 = .ok (.bipush 23, 2) := by decide +kernel
theorem dX11_houses_9 : decode cX11_houses 9 = .ok (.invokevirtual 224, 3) := by decide +kernel
theorem dX11_houses_12 : decode cX11_houses 12 = .ok (.istore_n 1, 1) := by decide +kernel
theorem dX11_houses_13 : decode cX11_houses 13 = .ok (.iload_n 1, 1) := by decide +kernel
theorem dX11_houses_14 : decode cX11_houses 14 = .ok (.ifCond .ge 5, 3) := by decide +kernel
theorem dX11_houses_17 : decode cX11_houses 17 = .ok (.iload_n 1, 1) := by decide +kernel
theorem dX11_houses_18 : decode cX11_houses 18 = .ok (.ireturn, 1) := by decide +kernel
theorem dX11_houses_19 : decode cX11_houses 19 = .ok (.iconst 0, 1) := by decide +kernel
theorem dX11_houses_20 : decode cX11_houses 20 = .ok (.istore_n 2, 1) := by decide +kernel
theorem dX11_houses_21 : decode cX11_houses 21 = .ok (.iload_n 2, 1) := by decide +kernel
theorem dX11_houses_22 : decode cX11_houses 22 = .ok (.aload_n 0, 1) := by decide +kernel
theorem dX11_houses_23 : decode cX11_houses 23 = .ok (.getfield 181, 3) := by decide +kernel
theorem dX11_houses_26 : decode cX11_houses 26 = .ok (.if_icmp .ge 71, 3) := by decide +kernel
theorem dX11_houses_29 : decode cX11_houses 29 = .ok (.aload_n 0, 1) := by decide +kernel
theorem dX11_houses_30 : decode cX11_houses 30 = .ok (.getfield 47, 3) := by decide +kernel
theorem dX11_houses_33 : decode cX11_houses 33 = .ok (.aload_n 0, 1) := by decide +kernel
theorem dX11_houses_34 : decode cX11_houses 34 = .ok (.getfield 129, 3) := by decide +kernel
theorem dX11_houses_37 : decode cX11_houses 37 = .ok (.aload_n 0, 1) := by decide +kernel
theorem dX11_houses_38 : decode cX11_houses 38 = .ok (.getfield 56, 3) := by decide +kernel
theorem dX11_houses_41 : decode cX11_houses 41 = .ok (.iconst 2, 1) := by decide +kernel
theorem dX11_houses_42 : decode cX11_houses 42 = .ok (.iload_n 2, 1) := by decide +kernel
theorem dX11_houses_43 : decode cX11_houses 43 = .ok (.imul, 1) := by decide +kernel
theorem dX11_houses_44 : decode cX11_houses 44 = .ok (.iaload, 1) := by decide +kernel
theorem dX11_houses_45 : decode cX11_houses 45 = .ok (.iastore, 1) := by decide +kernel
theorem dX11_houses_46 : decode cX11_houses 46 = .ok (.aload_n 0, 1) := by decide +kernel
theorem dX11_houses_47 : decode cX11_houses 47 = .ok (.getfield 47, 3) := by decide +kernel
theorem dX11_houses_50 : decode cX11_houses 50 = .ok (.bipush 8, 2) := by decide +kernel
theorem dX11_houses_52 : decode cX11_houses 52 = .ok (.aload_n 0, 1) := by decide +kernel
theorem dX11_houses_53 : decode cX11_houses 53 = .ok (.getfield 129, 3) := by decide +kernel
theorem dX11_houses_56 : decode cX11_houses 56 = .ok (.iadd, 1) := by decide +kernel
theorem dX11_houses_57 : decode cX11_houses 57 = .ok (.aload_n 0, 1) := by decide +kernel
theorem dX11_houses_58 : decode cX11_houses 58 = .ok (.getfield 56, 3) := by decide +kernel
theorem dX11_houses_61 : decode cX11_houses 61 = .ok (.iconst 2, 1) := by decide +kernel
theorem dX11_houses_62 : decode cX11_houses 62 = .ok (.iload_n 2, 1) := by decide +kernel
theorem dX11_houses_63 : decode cX11_houses 63 = .ok (.imul, 1) := by decide +kernel
theorem dX11_houses_64 : decode cX11_houses 64 = .ok (.iconst 1, 1) := by decide +kernel
theorem dX11_houses_65 : decode cX11_houses 65 = .ok (.iadd, 1) := by decide +kernel
theorem dX11_houses_66 : decode cX11_houses 66 = .ok (.iaload, 1) := by decide +kernel
theorem dX11_houses_67 : decode cX11_houses 67 = .ok (.iastore, 1) := by decide +kernel
theorem dX11_houses_68 : decode cX11_houses 68 = .ok (.aload_n 0, 1) := by decide +kernel
theorem dX11_houses_69 : decode cX11_houses 69 = .ok (.getfield 47, 3) := by decide +kernel
theorem dX11_houses_72 : decode cX11_houses 72 = .ok (.bipush 16, 2) := by decide +kernel
theorem dX11_houses_74 : decode cX11_houses 74 = .ok (.aload_n 0, 1) := by decide +kernel
theorem dX11_houses_75 : decode cX11_houses 75 = .ok (.getfield 129, 3) := by decide +kernel
theorem dX11_houses_78 : decode cX11_houses 78 = .ok (.iadd, 1) := by decide +kernel
theorem dX11_houses_79 : decode cX11_houses 79 = .ok (.iconst 0, 1) := by decide +kernel
theorem dX11_houses_80 : decode cX11_houses 80 = .ok (.iastore, 1) := by decide +kernel
theorem dX11_houses_81 : decode cX11_houses 81 = .ok (.aload_n 0, 1) := by decide +kernel
theorem dX11_houses_82 : decode cX11_houses 82 = .ok (.dup, 1) := by decide +kernel
theorem dX11_houses_83 : decode cX11_houses 83 = .ok (.getfield 129, 3) := by decide +kernel
theorem dX11_houses_86 : decode cX11_houses 86 = .ok (.iconst 1, 1) := by decide +kernel
theorem dX11_houses_87 : decode cX11_houses 87 = .ok (.iadd, 1) := by decide +kernel
theorem dX11_houses_88 : decode cX11_houses 88 = .ok (.putfield 129, 3) := by decide +kernel
theorem dX11_houses_91 : decode cX11_houses 91 = .ok (.iinc 2 1, 3) := by decide +kernel
theorem dX11_houses_94 : decode cX11_houses 94 = .ok (.goto (-73), 3) := by decide +kernel
theorem dX11_houses_97 : decode cX11_houses 97 = .ok (.aload_n 0, 1) := by decide +kernel
theorem dX11_houses_98 : decode cX11_houses 98 = .ok (.invokevirtual 228, 3) := by decide +kernel
theorem dX11_houses_101 : decode cX11_houses 101 = .ok (.ireturn, 1) := by decide +kernel
theorem s_X11_houses_21 {q : Int × xW} {k : Int → xW → Option (Int × xW)} (hk : ∀ (l2_23 : Int) (s24 : xW), k l2_23 s24 = some q → xG 11 0 0 mX11_houses 97 [vR 121, vX, vI l2_23] [] 155 s24 (xRv (vI q.1) q.2)) : ∀ (f : Nat) (l2_7 : Int) (s8 : xW), F_X11_houses_21  f l2_7 s8 k = some q → xG 11 0 0 mX11_houses 21 [vR 121, vX, vI l2_7] [] 155 s8 (xRv (vI q.1) q.2) := by
  intro f
  induction f with
  | zero => intro l2_7 s8 h; cases h
  | succ f ih =>
    intro l2_7 s8 h
    unfold F_X11_houses_21 at h
    refine g_iln dX11_houses_21 rfl rfl ?_
    refine g_aln dX11_houses_22 rfl rfl (by decide) ?_
    refine g_getI 20 dX11_houses_23 fl_X11_181 rfl rfl ?_
    refine g_wge dX11_houses_26 (tgt := 97) rfl rfl rfl (fun q9 => ?_) (fun q9 => ?_)
    · replace h := xif_f q9 h
      exact hk l2_7 s8 h
    · replace h := xif_t q9 h
      refine g_aln dX11_houses_29 rfl rfl (by decide) ?_
      refine g_getC 127 dX11_houses_30 fl_X11_47 rfl (by decide) ?_
      refine g_aln dX11_houses_33 rfl rfl (by decide) ?_
      refine g_getI 3 dX11_houses_34 fl_X11_129 rfl rfl ?_
      refine g_aln dX11_houses_37 rfl rfl (by decide) ?_
      refine g_getC 130 dX11_houses_38 fl_X11_56 rfl (by decide) ?_
      refine g_ic dX11_houses_41 ?_
      refine g_iln dX11_houses_42 rfl rfl ?_
      refine g_imul dX11_houses_43 ?_
      obtain ⟨hg10, h⟩ := xgd_e h
      refine g_iald 24 dX11_houses_44 rfl hg10 (by decide) ?_
      obtain ⟨hg11, h⟩ := xgd_e h
      obtain ⟨s12, e13, h⟩ := xlt_e h
      refine h_iast 40 dX11_houses_45 rfl hg11 (by decide) e13 ?_
      refine g_aln dX11_houses_46 rfl rfl (by decide) ?_
      refine g_getC 127 dX11_houses_47 fl_X11_47 rfl (by decide) ?_
      refine g_bi dX11_houses_50 (by decide) ?_
      refine g_aln dX11_houses_52 rfl rfl (by decide) ?_
      refine g_getI 3 dX11_houses_53 fl_X11_129 rfl rfl ?_
      refine g_iadd dX11_houses_56 ?_
      refine g_aln dX11_houses_57 rfl rfl (by decide) ?_
      refine g_getC 130 dX11_houses_58 fl_X11_56 rfl (by decide) ?_
      refine g_ic dX11_houses_61 ?_
      refine g_iln dX11_houses_62 rfl rfl ?_
      refine g_imul dX11_houses_63 ?_
      refine g_ic dX11_houses_64 ?_
      refine g_iadd dX11_houses_65 ?_
      obtain ⟨hg14, h⟩ := xgd_e h
      refine g_iald 24 dX11_houses_66 rfl hg14 (by decide) ?_
      obtain ⟨hg15, h⟩ := xgd_e h
      obtain ⟨s16, e17, h⟩ := xlt_e h
      refine h_iast 40 dX11_houses_67 rfl hg15 (by decide) e17 ?_
      refine g_aln dX11_houses_68 rfl rfl (by decide) ?_
      refine g_getC 127 dX11_houses_69 fl_X11_47 rfl (by decide) ?_
      refine g_bi dX11_houses_72 (by decide) ?_
      refine g_aln dX11_houses_74 rfl rfl (by decide) ?_
      refine g_getI 3 dX11_houses_75 fl_X11_129 rfl rfl ?_
      refine g_iadd dX11_houses_78 ?_
      refine g_ic dX11_houses_79 ?_
      obtain ⟨hg18, h⟩ := xgd_e h
      obtain ⟨s19, e20, h⟩ := xlt_e h
      refine h_iast 40 dX11_houses_80 rfl hg18 (by decide) e20 ?_
      refine g_aln dX11_houses_81 rfl rfl (by decide) ?_
      refine g_dup dX11_houses_82 rfl ?_
      refine g_getI 3 dX11_houses_83 fl_X11_129 rfl rfl ?_
      refine g_ic dX11_houses_86 ?_
      refine g_iadd dX11_houses_87 ?_
      obtain ⟨s21, e22, h⟩ := xlt_e h
      refine h_putI 3 dX11_houses_88 fl_X11_129 rfl rfl e22 ?_
      refine g_inc_2 dX11_houses_91 (by decide) rfl ?_
      refine g_goto dX11_houses_94 (tgt := 21) rfl ?_
      exact ih (l2_7 + 1) s21 h
theorem s_X11_houses {s0 : xW} {q : Int × xW} (h : F_X11_houses  s0 = some q) : xC 11 90 360 mX11_houses [vR 121] 155 s0 (xRv (vI q.1) q.2) := by
  refine xC.of [vR 121, vX, vX] (by decide +kernel) (Nat.le_of_ble_eq_true rfl) rfl ?_
  unfold F_X11_houses at h
  refine g_aln dX11_houses_0 rfl rfl (by decide) ?_
  refine g_ic dX11_houses_1 ?_
  obtain ⟨s1, e2, h⟩ := xlt_e h
  refine h_putI 0 dX11_houses_2 fl_X11_3 rfl rfl e2 ?_
  refine g_aln dX11_houses_5 rfl rfl (by decide) ?_
  refine g_ic dX11_houses_6 ?_
  refine g_bi dX11_houses_7 (by decide) ?_
  obtain ⟨r4, s5, e3, h⟩ := xbd_e h
  refine g_cB (bc := 0) (bs := 0) (as := [vI _, vI _]) dX11_houses_9 ml_X11_224 rfl (s_X11_readsLines e3) rfl (by decide) rfl ?_
  refine g_istn_1 dX11_houses_12 (by decide) rfl ?_
  refine g_iln dX11_houses_13 rfl rfl ?_
  refine g_yge dX11_houses_14 (tgt := 19) rfl rfl (fun q6 => ?_) (fun q6 => ?_)
  · replace h := xif_f q6 h
    refine g_ic dX11_houses_19 ?_
    refine g_istn_2 dX11_houses_20 (by decide) rfl ?_
    refine g_drop_1 ?_
    refine s_X11_houses_21 (fun l2_25 s26 h => ?_) xN _ _ h
    refine g_aln dX11_houses_97 rfl rfl (by decide) ?_
    obtain ⟨r28, s29, e27, h⟩ := xbd_e h
    refine g_cV0v dX11_houses_98 ml_X11_228 rfl (s_X11_isNew e27) (by decide) rfl ?_
    exact g_rI rfl dX11_houses_101 h
  · replace h := xif_t q6 h
    refine g_iln dX11_houses_17 rfl rfl ?_
    exact g_rI rfl dX11_houses_18 h
theorem dX11_isRest_0 : decode cX11_isRest 0 = .ok (.iconst 1, 1) := by decide +kernel
theorem dX11_isRest_1 : decode cX11_isRest 1 = .ok (.istore_n 3, 1) := by decide +kernel
theorem dX11_isRest_2 : decode cX11_isRest 2 = .ok (.iconst 0, 1) := by decide +kernel
theorem dX11_isRest_3 : decode cX11_isRest 3 = .ok (.istore 4, 2) := by decide +kernel
theorem dX11_isRest_5 : decode cX11_isRest 5 = .ok (.iload 4, 2) := by decide +kernel
theorem dX11_isRest_7 : decode cX11_isRest 7 = .ok (.bipush 9, 2) := by decide +kernel
theorem dX11_isRest_9 : decode cX11_isRest 9 = .ok (.if_icmp .gt 35, 3) := by decide +kernel
theorem dX11_isRest_12 : decode cX11_isRest 12 = .ok (.iload_n 3, 1) := by decide +kernel
theorem dX11_isRest_13 : decode cX11_isRest 13 = .ok (.ifCond .eq 23, 3) := by decide +kernel
theorem dX11_isRest_16 : decode cX11_isRest 16 = .ok (.iload 4, 2) := by decide +kernel
theorem dX11_isRest_18 : decode cX11_isRest 18 = .ok (.iload_n 1, 1) := by decide +kernel
theorem dX11_isRest_19 : decode cX11_isRest 19 = .ok (.iload_n 2, 1) := by decide +kernel
theorem dX11_isRest_20 : decode cX11_isRest 20 = .ok (.invokestatic 450, 3) := by decide +kernel
theorem dX11_isRest_23 : decode cX11_isRest 23 = .ok (.iload_n 0, 1) := by decide +kernel
theorem dX11_isRest_24 : decode cX11_isRest 24 = .ok (.iload_n 1, 1) := by decide +kernel
theorem dX11_isRest_25 : decode cX11_isRest 25 = .ok (.iload_n 2, 1) := by decide +kernel
theorem dX11_isRest_26 : decode cX11_isRest 26 = .ok (.invokestatic 450, 3) := by decide +kernel
theorem dX11_isRest_29 : decode cX11_isRest 29 = .ok (.if_icmp .gt 7, 3) := by decide +kernel
theorem dX11_isRest_32 : decode cX11_isRest 32 = .ok (.iconst 1, 1) := by decide +kernel
theorem dX11_isRest_33 : decode cX11_isRest 33 = .ok (.goto 4, 3) := by decide +kernel
theorem dX11_isRest_36 : decode cX11_isRest 36 = .ok (.iconst 0, 1) := by decide +kernel
theorem dX11_isRest_37 : decode cX11_isRest 37 = .ok (.istore_n 3, 1) := by decide +kernel
theorem dX11_isRest_38 : decode cX11_isRest 38 = .ok (.iinc 4 1, 3) := by decide +kernel
theorem dX11_isRest_41 : decode cX11_isRest 41 = .ok (.goto (-36), 3) := by decide +kernel
theorem dX11_isRest_44 : decode cX11_isRest 44 = .ok (.iload_n 3, 1) := by decide +kernel
theorem dX11_isRest_45 : decode cX11_isRest 45 = .ok (.ireturn, 1) := by decide +kernel
theorem s_X11_isRest_5 {s6 : xW} {l0_1 l1_2 l2_3 : Int} {q : Int} {k : Int → Int → Option (Int)} (hk : ∀ (l3_21 : Int) (l4_22 : Int), k l3_21 l4_22 = some q → xG 2 0 0 mX11_isRest 44 [vI l0_1, vI l1_2, vI l2_3, vI l3_21, vI l4_22] [] 155 s6 (xRv (vI q) s6)) : ∀ (f : Nat) (l3_4 : Int) (l4_5 : Int), F_X11_isRest_5 l0_1 l1_2 l2_3 s6 f l3_4 l4_5 k = some q → xG 2 0 0 mX11_isRest 5 [vI l0_1, vI l1_2, vI l2_3, vI l3_4, vI l4_5] [] 155 s6 (xRv (vI q) s6) := by
  intro f
  induction f with
  | zero => intro l3_4 l4_5 h; cases h
  | succ f ih =>
    intro l3_4 l4_5 h
    unfold F_X11_isRest_5 at h
    refine g_il dX11_isRest_5 rfl ?_
    refine g_bi dX11_isRest_7 (by decide) ?_
    refine g_wgt dX11_isRest_9 (tgt := 44) rfl rfl (xw_id (by decide)) (fun q7 => ?_) (fun q7 => ?_)
    · replace h := xif_f q7 h
      exact hk l3_4 l4_5 h
    · replace h := xif_t q7 h
      refine g_iln dX11_isRest_12 rfl rfl ?_
      obtain ⟨j9, ej10, h⟩ := xjn_e h
      have hj11 : ∀ (t8 : Int), j9 t8 = some q → xG 2 0 0 mX11_isRest 37 [vI l0_1, vI l1_2, vI l2_3, vX, vI l4_5] [vI t8] 155 s6 (xRv (vI q) s6) := by
        intro t8 h
        rw [ej10] at h
        refine g_istn_3 dX11_isRest_37 (by decide) rfl ?_
        refine g_inc_4 dX11_isRest_38 (by decide) rfl ?_
        refine g_goto dX11_isRest_41 (tgt := 5) rfl ?_
        exact ih t8 (l4_5 + 1) h
      clear ej10
      obtain ⟨j12, ej13, h⟩ := xjn_e h
      have hj14 : j12  = some q → xG 2 0 0 mX11_isRest 36 [vI l0_1, vI l1_2, vI l2_3, vX, vI l4_5] [] 155 s6 (xRv (vI q) s6) := by
        intro  h
        rw [ej13] at h
        refine g_ic dX11_isRest_36 ?_
        exact hj11 0 h
      clear ej13
      refine g_yeq dX11_isRest_13 (tgt := 36) rfl rfl (fun q15 => ?_) (fun q15 => ?_)
      · replace h := xif_f q15 h
        refine g_drop_3 ?_
        exact hj14  h
      · replace h := xif_t q15 h
        refine g_il dX11_isRest_16 rfl ?_
        refine g_iln dX11_isRest_18 rfl rfl ?_
        refine g_iln dX11_isRest_19 rfl rfl ?_
        obtain ⟨r17, e16, h⟩ := xbp_e h
        refine g_cS3v dX11_isRest_20 ml_X11_450 (s_X11_gets e16) (by decide) rfl ?_
        refine g_iln dX11_isRest_23 rfl rfl ?_
        refine g_iln dX11_isRest_24 rfl rfl ?_
        refine g_iln dX11_isRest_25 rfl rfl ?_
        obtain ⟨r19, e18, h⟩ := xbp_e h
        refine g_cS3v dX11_isRest_26 ml_X11_450 (s_X11_gets e18) (by decide) rfl ?_
        refine g_wgt dX11_isRest_29 (tgt := 36) rfl rfl rfl (fun q20 => ?_) (fun q20 => ?_)
        · replace h := xif_f q20 h
          refine g_drop_3 ?_
          exact hj14  h
        · replace h := xif_t q20 h
          refine g_ic dX11_isRest_32 ?_
          refine g_goto dX11_isRest_33 (tgt := 37) rfl ?_
          refine g_drop_3 ?_
          exact hj11 1 h
theorem s_X11_isRest {a0 a1 a2 : Int} {s0 : xW} {q : Int} (h : F_X11_isRest a0 a1 a2 s0 = some q) : xC 2 0 0 mX11_isRest [vI a0, vI a1, vI a2] 155 s0 (xRv (vI q) s0) := by
  refine xC.of [vI a0, vI a1, vI a2, vX, vX] (by decide +kernel) (Nat.le_of_ble_eq_true rfl) rfl ?_
  unfold F_X11_isRest at h
  refine g_ic dX11_isRest_0 ?_
  refine g_istn_3 dX11_isRest_1 (by decide) rfl ?_
  refine g_ic dX11_isRest_2 ?_
  refine g_ist_4 dX11_isRest_3 (by decide) rfl ?_
  refine s_X11_isRest_5 (fun l3_23 l4_24 h => ?_) xN _ _ h
  refine g_iln dX11_isRest_44 rfl rfl ?_
  obtain ⟨hg25, h⟩ := xgd_e h
  exact g_pZ rfl dX11_isRest_45 hg25 h
theorem dX11_keep_0 : decode cX11_keep 0 = .ok (.aload_n 0, 1) := by decide +kernel
theorem dX11_keep_1 : decode cX11_keep 1 = .ok (.iconst 0, 1) := by decide +kernel
theorem dX11_keep_2 : decode cX11_keep 2 = .ok (.putfield 3, 3) := by decide +kernel
theorem dX11_keep_5 : decode cX11_keep 5 = .ok (.iload_n 1, 1) := by decide +kernel
theorem dX11_keep_6 : decode cX11_keep 6 = .ok (.i2l, 1) := by decide +kernel
theorem dX11_keep_7 : decode cX11_keep 7 = .ok (.lconst 0, 1) := by decide +kernel
theorem dX11_keep_8 : decode cX11_keep 8 = .ok (.ldc2_w 464, 3) := by decide +kernel
theorem dX11_keep_11 : decode cX11_keep 11 = .ok (.invokestatic 132, 3) := by decide +kernel
theorem dX11_keep_14 : decode cX11_keep 14 = .ok (.ifCond .ne 5, 3) := by decide +kernel
theorem dX11_keep_17 : decode cX11_keep 17 = .ok (.iconst 0, 1) := by decide +kernel
theorem dX11_keep_18 : decode cX11_keep 18 = .ok (.ireturn, 1) := by decide +kernel
theorem dX11_keep_19 : decode cX11_keep 19 = .ok (.aload_n 0, 1) := by decide +kernel
theorem dX11_keep_20 : decode cX11_keep 20 = .ok (.getfield 120, 3) := by decide +kernel
theorem dX11_keep_23 : decode cX11_keep 23 = .ok (.iload_n 1, 1) := by decide +kernel
theorem dX11_keep_24 : decode cX11_keep 24 = .ok (.iconst 1, 1) := by decide +kernel
theorem dX11_keep_25 : decode cX11_keep 25 = .ok (.bastore, 1) := by decide +kernel
theorem dX11_keep_26 : decode cX11_keep 26 = .ok (.aload_n 0, 1) := by decide +kernel
theorem dX11_keep_27 : decode cX11_keep 27 = .ok (.getfield 123, 3) := by decide +kernel
theorem dX11_keep_30 : decode cX11_keep 30 = .ok (.iload_n 1, 1) := by decide +kernel
theorem dX11_keep_31 : decode cX11_keep 31 = .ok (.aload_n 0, 1) := by decide +kernel
theorem dX11_keep_32 : decode cX11_keep 32 = .ok (.getfield 221, 3) := by decide +kernel
theorem dX11_keep_35 : decode cX11_keep 35 = .ok (.iastore, 1) := by decide +kernel
theorem dX11_keep_36 : decode cX11_keep 36 = .ok (.iconst 0, 1) := by decide +kernel
theorem dX11_keep_37 : decode cX11_keep 37 = .ok (.istore_n 2, 1) := by decide +kernel
theorem dX11_keep_38 : decode cX11_keep 38 = .ok (.iload_n 2, 1) := by decide +kernel
theorem dX11_keep_39 : decode cX11_keep 39 = .ok (.bipush 40, 2) := by decide +kernel
theorem dX11_keep_41 : decode cX11_keep 41 = .ok (.if_icmp .ge 26, 3) := by decide +kernel
theorem dX11_keep_44 : decode cX11_keep 44 = .ok (.aload_n 0, 1) := by decide +kernel
theorem dX11_keep_45 : decode cX11_keep 45 = .ok (.getfield 126, 3) := by decide +kernel
theorem dX11_keep_48 : decode cX11_keep 48 = .ok (.bipush 40, 2) := by decide +kernel
theorem dX11_keep_50 : decode cX11_keep 50 = .ok (.iload_n 1, 1) := by decide +kernel
theorem dX11_keep_51 : decode cX11_keep 51 = .ok (.imul, 1) := by decide +kernel
theorem dX11_keep_52 : decode cX11_keep 52 = .ok (.iload_n 2, 1) := by decide +kernel
theorem dX11_keep_53 : decode cX11_keep 53 = .ok (.iadd, 1) := by decide +kernel
theorem dX11_keep_54 : decode cX11_keep 54 = .ok (.aload_n 0, 1) := by decide +kernel
theorem dX11_keep_55 : decode cX11_keep 55 = .ok (.getfield 47, 3) := by decide +kernel
theorem dX11_keep_58 : decode cX11_keep 58 = .ok (.iload_n 2, 1) := by decide +kernel
theorem dX11_keep_59 : decode cX11_keep 59 = .ok (.iaload, 1) := by decide +kernel
theorem dX11_keep_60 : decode cX11_keep 60 = .ok (.iastore, 1) := by decide +kernel
theorem dX11_keep_61 : decode cX11_keep 61 = .ok (.iinc 2 1, 3) := by decide +kernel
theorem dX11_keep_64 : decode cX11_keep 64 = .ok (.goto (-26), 3) := by decide +kernel
theorem dX11_keep_67 : decode cX11_keep 67 = .ok (.iconst 1, 1) := by decide +kernel
theorem dX11_keep_68 : decode cX11_keep 68 = .ok (.ireturn, 1) := by decide +kernel
theorem s_X11_keep_38 {l1_12 : Int} {q : Int × xW} {k : Int → xW → Option (Int × xW)} (hk : ∀ (l2_20 : Int) (s21 : xW), k l2_20 s21 = some q → xG 1 0 0 mX11_keep 67 [vR 121, vI l1_12, vI l2_20] [] 155 s21 (xRv (vI q.1) q.2)) : ∀ (f : Nat) (l2_13 : Int) (s14 : xW), F_X11_keep_38 l1_12 f l2_13 s14 k = some q → xG 1 0 0 mX11_keep 38 [vR 121, vI l1_12, vI l2_13] [] 155 s14 (xRv (vI q.1) q.2) := by
  intro f
  induction f with
  | zero => intro l2_13 s14 h; cases h
  | succ f ih =>
    intro l2_13 s14 h
    unfold F_X11_keep_38 at h
    refine g_iln dX11_keep_38 rfl rfl ?_
    refine g_bi dX11_keep_39 (by decide) ?_
    refine g_wge dX11_keep_41 (tgt := 67) rfl rfl (xw_id (by decide)) (fun q15 => ?_) (fun q15 => ?_)
    · replace h := xif_f q15 h
      exact hk l2_13 s14 h
    · replace h := xif_t q15 h
      refine g_aln dX11_keep_44 rfl rfl (by decide) ?_
      refine g_getC 153 dX11_keep_45 fl_X11_126 rfl (by decide) ?_
      refine g_bi dX11_keep_48 (by decide) ?_
      refine g_iln dX11_keep_50 rfl rfl ?_
      refine g_imul dX11_keep_51 ?_
      refine g_iln dX11_keep_52 rfl rfl ?_
      refine g_iadd dX11_keep_53 ?_
      refine g_aln dX11_keep_54 rfl rfl (by decide) ?_
      refine g_getC 127 dX11_keep_55 fl_X11_47 rfl (by decide) ?_
      refine g_iln dX11_keep_58 rfl rfl ?_
      obtain ⟨hg16, h⟩ := xgd_e h
      refine g_iald 40 dX11_keep_59 rfl hg16 (by decide) ?_
      obtain ⟨hg17, h⟩ := xgd_e h
      obtain ⟨s18, e19, h⟩ := xlt_e h
      refine h_iast 120 dX11_keep_60 rfl hg17 (by decide) e19 ?_
      refine g_inc_2 dX11_keep_61 (by decide) rfl ?_
      refine g_goto dX11_keep_64 (tgt := 38) rfl ?_
      exact ih (l2_13 + 1) s18 h
theorem s_X11_keep {a1 : Int} {s0 : xW} {q : Int × xW} (h : F_X11_keep a1 s0 = some q) : xC 1 0 0 mX11_keep [vR 121, vI a1] 155 s0 (xRv (vI q.1) q.2) := by
  refine xC.of [vR 121, vI a1, vX] (by decide +kernel) (Nat.le_of_ble_eq_true rfl) rfl ?_
  unfold F_X11_keep at h
  refine g_aln dX11_keep_0 rfl rfl (by decide) ?_
  refine g_ic dX11_keep_1 ?_
  obtain ⟨s1, e2, h⟩ := xlt_e h
  refine h_putI 0 dX11_keep_2 fl_X11_3 rfl rfl e2 ?_
  refine g_iln dX11_keep_5 rfl rfl ?_
  refine g_wi2l dX11_keep_6 rfl ?_
  refine g_lc dX11_keep_7 (w := 0) rfl ?_
  refine g_ldc2 dX11_keep_8 ct_X11_464 (w := 2) rfl ?_
  obtain ⟨r4, e3, h⟩ := xbp_e h
  refine g_cS3v dX11_keep_11 ml_X11_132 (s_X11_in e3) (by decide) rfl ?_
  refine g_yne dX11_keep_14 (tgt := 19) rfl rfl (fun q5 => ?_) (fun q5 => ?_)
  · replace h := xif_f q5 h
    refine g_aln dX11_keep_19 rfl rfl (by decide) ?_
    refine g_getC 151 dX11_keep_20 fl_X11_120 rfl (by decide) ?_
    refine g_iln dX11_keep_23 rfl rfl ?_
    refine g_ic dX11_keep_24 ?_
    obtain ⟨hg6, h⟩ := xgd_e h
    obtain ⟨s7, e8, h⟩ := xlt_e h
    refine h_zast 3 dX11_keep_25 rfl hg6 (by decide) (by decide) e8 ?_
    refine g_aln dX11_keep_26 rfl rfl (by decide) ?_
    refine g_getC 152 dX11_keep_27 fl_X11_123 rfl (by decide) ?_
    refine g_iln dX11_keep_30 rfl rfl ?_
    refine g_aln dX11_keep_31 rfl rfl (by decide) ?_
    refine g_getI 5 dX11_keep_32 fl_X11_221 rfl rfl ?_
    obtain ⟨hg9, h⟩ := xgd_e h
    obtain ⟨s10, e11, h⟩ := xlt_e h
    refine h_iast 3 dX11_keep_35 rfl hg9 (by decide) e11 ?_
    refine g_ic dX11_keep_36 ?_
    refine g_istn_2 dX11_keep_37 (by decide) rfl ?_
    refine s_X11_keep_38 (fun l2_22 s23 h => ?_) xN _ _ h
    refine g_ic dX11_keep_67 ?_
    exact g_rZ rfl dX11_keep_68 (by decide) h
  · replace h := xif_t q5 h
    refine g_ic dX11_keep_17 ?_
    exact g_rZ rfl dX11_keep_18 (by decide) h
theorem dX11_laysBusy_0 : decode cX11_laysBusy 0 = .ok (.aload_n 0, 1) := by decide +kernel
theorem dX11_laysBusy_1 : decode cX11_laysBusy 1 = .ok (.aload_n 0, 1) := by decide +kernel
theorem dX11_laysBusy_2 : decode cX11_laysBusy 2 = .ok (.getfield 47, 3) := by decide +kernel
theorem dX11_laysBusy_5 : decode cX11_laysBusy 5 = .ok (.invokevirtual 303, 3) := by decide +kernel
theorem dX11_laysBusy_8 : decode cX11_laysBusy 8 = .ok (.iconst 0, 1) := by decide +kernel
theorem dX11_laysBusy_9 : decode cX11_laysBusy 9 = .ok (.istore_n 2, 1) := by decide +kernel
theorem dX11_laysBusy_10 : decode cX11_laysBusy 10 = .ok (.iload_n 2, 1) := by decide +kernel
theorem dX11_laysBusy_11 : decode cX11_laysBusy 11 = .ok (.sipush 220, 3) := by decide +kernel
theorem dX11_laysBusy_14 : decode cX11_laysBusy 14 = .ok (.if_icmp .ge 16, 3) := by decide +kernel
theorem dX11_laysBusy_17 : decode cX11_laysBusy 17 = .ok (.aload_n 0, 1) := by decide +kernel
theorem dX11_laysBusy_18 : decode cX11_laysBusy 18 = .ok (.getfield 92, 3) := by decide +kernel
theorem dX11_laysBusy_21 : decode cX11_laysBusy 21 = .ok (.iload_n 2, 1) := by decide +kernel
theorem dX11_laysBusy_22 : decode cX11_laysBusy 22 = .ok (.iconst 0, 1) := by decide +kernel
theorem dX11_laysBusy_23 : decode cX11_laysBusy 23 = .ok (.iastore, 1) := by decide +kernel
theorem dX11_laysBusy_24 : decode cX11_laysBusy 24 = .ok (.iinc 2 1, 3) := by decide +kernel
theorem dX11_laysBusy_27 : decode cX11_laysBusy 27 = .ok (.goto (-17), 3) := by decide +kernel
theorem dX11_laysBusy_30 : decode cX11_laysBusy 30 = .ok (.iconst 0, 1) := by decide +kernel
theorem dX11_laysBusy_31 : decode cX11_laysBusy 31 = .ok (.istore_n 2, 1) := by decide +kernel
theorem dX11_laysBusy_32 : decode cX11_laysBusy 32 = .ok (.iload_n 2, 1) := by decide +kernel
theorem dX11_laysBusy_33 : decode cX11_laysBusy 33 = .ok (.aload_n 0, 1) := by decide +kernel
theorem dX11_laysBusy_34 : decode cX11_laysBusy 34 = .ok (.getfield 136, 3) := by decide +kernel
theorem dX11_laysBusy_37 : decode cX11_laysBusy 37 = .ok (.if_icmp .ge 58, 3) := by decide +kernel
theorem dX11_laysBusy_40 : decode cX11_laysBusy 40 = .ok (.iconst 0, 1) := by decide +kernel
theorem dX11_laysBusy_41 : decode cX11_laysBusy 41 = .ok (.istore_n 3, 1) := by decide +kernel
theorem dX11_laysBusy_42 : decode cX11_laysBusy 42 = .ok (.iload_n 3, 1) := by decide +kernel
theorem dX11_laysBusy_43 : decode cX11_laysBusy 43 = .ok (.aload_n 0, 1) := by decide +kernel
theorem dX11_laysBusy_44 : decode cX11_laysBusy 44 = .ok (.getfield 47, 3) := by decide +kernel
theorem dX11_laysBusy_47 : decode cX11_laysBusy 47 = .ok (.bipush 24, 2) := by decide +kernel
theorem dX11_laysBusy_49 : decode cX11_laysBusy 49 = .ok (.iload_n 2, 1) := by decide +kernel
theorem dX11_laysBusy_50 : decode cX11_laysBusy 50 = .ok (.iadd, 1) := by decide +kernel
theorem dX11_laysBusy_51 : decode cX11_laysBusy 51 = .ok (.iaload, 1) := by decide +kernel
theorem dX11_laysBusy_52 : decode cX11_laysBusy 52 = .ok (.if_icmp .ge 37, 3) := by decide +kernel
theorem dX11_laysBusy_55 : decode cX11_laysBusy 55 = .ok (.aload_n 0, 1) := by decide +kernel
theorem dX11_laysBusy_56 : decode cX11_laysBusy 56 = .ok (.getfield 44, 3) := by decide +kernel
theorem dX11_laysBusy_59 : decode cX11_laysBusy 59 = .ok (.iload_n 2, 1) := by decide +kernel
theorem dX11_laysBusy_60 : decode cX11_laysBusy 60 = .ok (.iaload, 1) := by decide +kernel
theorem dX11_laysBusy_61 : decode cX11_laysBusy 61 = .ok (.iload_n 1, 1) := by decide +kernel
theorem dX11_laysBusy_62 : decode cX11_laysBusy 62 = .ok (.iand, 1) := by decide +kernel
theorem dX11_laysBusy_63 : decode cX11_laysBusy 63 = .ok (.ifCond .eq 26, 3) := by decide +kernel
theorem dX11_laysBusy_66 : decode cX11_laysBusy 66 = .ok (.aload_n 0, 1) := by decide +kernel
theorem dX11_laysBusy_67 : decode cX11_laysBusy 67 = .ok (.getfield 92, 3) := by decide +kernel
theorem dX11_laysBusy_70 : decode cX11_laysBusy 70 = .ok (.aload_n 0, 1) := by decide +kernel
theorem dX11_laysBusy_71 : decode cX11_laysBusy 71 = .ok (.getfield 71, 3) := by decide +kernel
theorem dX11_laysBusy_74 : decode cX11_laysBusy 74 = .ok (.iload_n 2, 1) := by decide +kernel
theorem dX11_laysBusy_75 : decode cX11_laysBusy 75 = .ok (.iaload, 1) := by decide +kernel
theorem dX11_laysBusy_76 : decode cX11_laysBusy 76 = .ok (.iload_n 3, 1) := by decide +kernel
theorem dX11_laysBusy_77 : decode cX11_laysBusy 77 = .ok (.iadd, 1) := by decide +kernel
theorem dX11_laysBusy_78 : decode cX11_laysBusy 78 = .ok (.dup2, 1) := by decide +kernel
theorem dX11_laysBusy_79 : decode cX11_laysBusy 79 = .ok (.iaload, 1) := by decide +kernel
theorem dX11_laysBusy_80 : decode cX11_laysBusy 80 = .ok (.iconst 1, 1) := by decide +kernel
theorem dX11_laysBusy_81 : decode cX11_laysBusy 81 = .ok (.iadd, 1) := by decide +kernel
theorem dX11_laysBusy_82 : decode cX11_laysBusy 82 = .ok (.iastore, 1) := by decide +kernel
theorem dX11_laysBusy_83 : decode cX11_laysBusy 83 = .ok (.iinc 3 1, 3) := by decide +kernel
theorem dX11_laysBusy_86 : decode cX11_laysBusy 86 = .ok (.goto (-44), 3) := by decide +kernel
theorem dX11_laysBusy_89 : decode cX11_laysBusy 89 = .ok (.iinc 2 1, 3) := by decide +kernel
theorem dX11_laysBusy_92 : decode cX11_laysBusy 92 = .ok (.goto (-60), 3) := by decide +kernel
theorem dX11_laysBusy_95 : decode cX11_laysBusy 95 = .ok (.return_, 1) := by decide +kernel
theorem s_X11_laysBusy_10 {l1_3 : Int} {q : xW} {k : Int → xW → Option (xW)} (hk : ∀ (l2_10 : Int) (s11 : xW), k l2_10 s11 = some q → xG 6 0 0 mX11_laysBusy 30 [vR 121, vI l1_3, vI l2_10, vX] [] 155 s11 (xR0 q)) : ∀ (f : Nat) (l2_4 : Int) (s5 : xW), F_X11_laysBusy_10 l1_3 f l2_4 s5 k = some q → xG 6 0 0 mX11_laysBusy 10 [vR 121, vI l1_3, vI l2_4, vX] [] 155 s5 (xR0 q) := by
  intro f
  induction f with
  | zero => intro l2_4 s5 h; cases h
  | succ f ih =>
    intro l2_4 s5 h
    unfold F_X11_laysBusy_10 at h
    refine g_iln dX11_laysBusy_10 rfl rfl ?_
    refine g_si dX11_laysBusy_11 (by decide) ?_
    refine g_wge dX11_laysBusy_14 (tgt := 30) rfl rfl (xw_id (by decide)) (fun q6 => ?_) (fun q6 => ?_)
    · replace h := xif_f q6 h
      exact hk l2_4 s5 h
    · replace h := xif_t q6 h
      refine g_aln dX11_laysBusy_17 rfl rfl (by decide) ?_
      refine g_getC 142 dX11_laysBusy_18 fl_X11_92 rfl (by decide) ?_
      refine g_iln dX11_laysBusy_21 rfl rfl ?_
      refine g_ic dX11_laysBusy_22 ?_
      obtain ⟨hg7, h⟩ := xgd_e h
      obtain ⟨s8, e9, h⟩ := xlt_e h
      refine h_iast 220 dX11_laysBusy_23 rfl hg7 (by decide) e9 ?_
      refine g_inc_2 dX11_laysBusy_24 (by decide) rfl ?_
      refine g_goto dX11_laysBusy_27 (tgt := 10) rfl ?_
      exact ih (l2_4 + 1) s8 h
theorem s_X11_laysBusy_42 {l1_18 l2_19 : Int} {q : xW} {k : Int → xW → Option (xW)} (hk : ∀ (l3_31 : Int) (s32 : xW), k l3_31 s32 = some q → xG 6 0 0 mX11_laysBusy 89 [vR 121, vI l1_18, vI l2_19, vI l3_31] [] 155 s32 (xR0 q)) : ∀ (f : Nat) (l3_20 : Int) (s21 : xW), F_X11_laysBusy_42 l1_18 l2_19 f l3_20 s21 k = some q → xG 6 0 0 mX11_laysBusy 42 [vR 121, vI l1_18, vI l2_19, vI l3_20] [] 155 s21 (xR0 q) := by
  intro f
  induction f with
  | zero => intro l3_20 s21 h; cases h
  | succ f ih =>
    intro l3_20 s21 h
    unfold F_X11_laysBusy_42 at h
    refine g_iln dX11_laysBusy_42 rfl rfl ?_
    refine g_aln dX11_laysBusy_43 rfl rfl (by decide) ?_
    refine g_getC 127 dX11_laysBusy_44 fl_X11_47 rfl (by decide) ?_
    refine g_bi dX11_laysBusy_47 (by decide) ?_
    refine g_iln dX11_laysBusy_49 rfl rfl ?_
    refine g_iadd dX11_laysBusy_50 ?_
    obtain ⟨hg22, h⟩ := xgd_e h
    refine g_iald 40 dX11_laysBusy_51 rfl hg22 (by decide) ?_
    refine g_wge dX11_laysBusy_52 (tgt := 89) rfl rfl rfl (fun q23 => ?_) (fun q23 => ?_)
    · replace h := xif_f q23 h
      exact hk l3_20 s21 h
    · replace h := xif_t q23 h
      refine g_aln dX11_laysBusy_55 rfl rfl (by decide) ?_
      refine g_getC 126 dX11_laysBusy_56 fl_X11_44 rfl (by decide) ?_
      refine g_iln dX11_laysBusy_59 rfl rfl ?_
      obtain ⟨hg24, h⟩ := xgd_e h
      refine g_iald 8 dX11_laysBusy_60 rfl hg24 (by decide) ?_
      refine g_iln dX11_laysBusy_61 rfl rfl ?_
      refine g_iand dX11_laysBusy_62 ?_
      refine g_yeq dX11_laysBusy_63 (tgt := 89) rfl rfl (fun q25 => ?_) (fun q25 => ?_)
      · replace h := xif_f q25 h
        exact hk l3_20 s21 h
      · replace h := xif_t q25 h
        refine g_aln dX11_laysBusy_66 rfl rfl (by decide) ?_
        refine g_getC 142 dX11_laysBusy_67 fl_X11_92 rfl (by decide) ?_
        refine g_aln dX11_laysBusy_70 rfl rfl (by decide) ?_
        refine g_getC 135 dX11_laysBusy_71 fl_X11_71 rfl (by decide) ?_
        refine g_iln dX11_laysBusy_74 rfl rfl ?_
        obtain ⟨hg26, h⟩ := xgd_e h
        refine g_iald 8 dX11_laysBusy_75 rfl hg26 (by decide) ?_
        refine g_iln dX11_laysBusy_76 rfl rfl ?_
        refine g_iadd dX11_laysBusy_77 ?_
        refine g_dup2 dX11_laysBusy_78 rfl rfl ?_
        obtain ⟨hg27, h⟩ := xgd_e h
        refine g_iald 220 dX11_laysBusy_79 rfl hg27 (by decide) ?_
        refine g_ic dX11_laysBusy_80 ?_
        refine g_iadd dX11_laysBusy_81 ?_
        obtain ⟨hg28, h⟩ := xgd_e h
        obtain ⟨s29, e30, h⟩ := xlt_e h
        refine h_iast 220 dX11_laysBusy_82 rfl hg28 (by decide) e30 ?_
        refine g_inc_3 dX11_laysBusy_83 (by decide) rfl ?_
        refine g_goto dX11_laysBusy_86 (tgt := 42) rfl ?_
        exact ih (l3_20 + 1) s29 h
theorem s_X11_laysBusy_32 {l1_14 : Int} {q : xW} {k : Int → xW → Option (xW)} (hk : ∀ (l2_35 : Int) (s36 : xW), k l2_35 s36 = some q → xG 6 0 0 mX11_laysBusy 95 [vR 121, vI l1_14, vI l2_35, vX] [] 155 s36 (xR0 q)) : ∀ (f : Nat) (l2_15 : Int) (s16 : xW), F_X11_laysBusy_32 l1_14 f l2_15 s16 k = some q → xG 6 0 0 mX11_laysBusy 32 [vR 121, vI l1_14, vI l2_15, vX] [] 155 s16 (xR0 q) := by
  intro f
  induction f with
  | zero => intro l2_15 s16 h; cases h
  | succ f ih =>
    intro l2_15 s16 h
    unfold F_X11_laysBusy_32 at h
    refine g_iln dX11_laysBusy_32 rfl rfl ?_
    refine g_aln dX11_laysBusy_33 rfl rfl (by decide) ?_
    refine g_getI 4 dX11_laysBusy_34 fl_X11_136 rfl rfl ?_
    refine g_wge dX11_laysBusy_37 (tgt := 95) rfl rfl rfl (fun q17 => ?_) (fun q17 => ?_)
    · replace h := xif_f q17 h
      exact hk l2_15 s16 h
    · replace h := xif_t q17 h
      refine g_ic dX11_laysBusy_40 ?_
      refine g_istn_3 dX11_laysBusy_41 (by decide) rfl ?_
      refine s_X11_laysBusy_42 (fun l3_33 s34 h => ?_) xN _ _ h
      refine g_inc_2 dX11_laysBusy_89 (by decide) rfl ?_
      refine g_goto dX11_laysBusy_92 (tgt := 32) rfl ?_
      refine g_drop_3 ?_
      exact ih (l2_15 + 1) s34 h
theorem s_X11_laysBusy {a1 : Int} {s0 : xW} {q : xW} (h : F_X11_laysBusy a1 s0 = some q) : xC 6 0 0 mX11_laysBusy [vR 121, vI a1] 155 s0 (xR0 q) := by
  refine xC.of [vR 121, vI a1, vX, vX] (by decide +kernel) (Nat.le_of_ble_eq_true rfl) rfl ?_
  unfold F_X11_laysBusy at h
  refine g_aln dX11_laysBusy_0 rfl rfl (by decide) ?_
  refine g_aln dX11_laysBusy_1 rfl rfl (by decide) ?_
  refine g_getC 127 dX11_laysBusy_2 fl_X11_47 rfl (by decide) ?_
  obtain ⟨s2, e1, h⟩ := xbp_e h
  refine g_cV10 dX11_laysBusy_5 ml_X11_303 rfl (s_X11_laysBegins e1) (by decide) rfl ?_
  refine g_ic dX11_laysBusy_8 ?_
  refine g_istn_2 dX11_laysBusy_9 (by decide) rfl ?_
  refine s_X11_laysBusy_10 (fun l2_12 s13 h => ?_) xN _ _ h
  refine g_ic dX11_laysBusy_30 ?_
  refine g_istn_2 dX11_laysBusy_31 (by decide) rfl ?_
  refine s_X11_laysBusy_32 (fun l2_37 s38 h => ?_) xN _ _ h
  exact g_rV rfl dX11_laysBusy_95 h
theorem dX11_lane_0 : decode cX11_lane 0 = .ok (.aload_n 0, 1) := by decide +kernel
theorem dX11_lane_1 : decode cX11_lane 1 = .ok (.iconst 0, 1) := by decide +kernel
theorem dX11_lane_2 : decode cX11_lane 2 = .ok (.putfield 3, 3) := by decide +kernel
theorem dX11_lane_5 : decode cX11_lane 5 = .ok (.iload_n 1, 1) := by decide +kernel
theorem dX11_lane_6 : decode cX11_lane 6 = .ok (.i2l, 1) := by decide +kernel
theorem dX11_lane_7 : decode cX11_lane 7 = .ok (.lconst 0, 1) := by decide +kernel
theorem dX11_lane_8 : decode cX11_lane 8 = .ok (.ldc2_w 331, 3) := by decide +kernel
theorem dX11_lane_11 : decode cX11_lane 11 = .ok (.invokestatic 132, 3) := by decide +kernel
theorem dX11_lane_14 : decode cX11_lane 14 = .ok (.ifCond .ne 5, 3) := by decide +kernel
theorem dX11_lane_17 : decode cX11_lane 17 = .ok (.iconst (-1), 1) := by decide +kernel
theorem dX11_lane_18 : decode cX11_lane 18 = .ok (.ireturn, 1) := by decide +kernel
theorem dX11_lane_19 : decode cX11_lane 19 = .ok (.aload_n 0, 1) := by decide +kernel
theorem dX11_lane_20 : decode cX11_lane 20 = .ok (.iconst 1, 1) := by decide +kernel
theorem dX11_lane_21 : decode cX11_lane 21 = .ok (.iload_n 1, 1) := by decide +kernel
theorem dX11_lane_22 : decode cX11_lane 22 = .ok (.ishl, 1) := by decide +kernel
theorem dX11_lane_23 : decode cX11_lane 23 = .ok (.invokevirtual 397, 3) := by decide +kernel
theorem dX11_lane_26 : decode cX11_lane 26 = .ok (.iconst 0, 1) := by decide +kernel
theorem dX11_lane_27 : decode cX11_lane 27 = .ok (.istore_n 2, 1) := by decide +kernel
theorem dX11_lane_28 : decode cX11_lane 28 = .ok (.iconst (-1), 1) := by decide +kernel
theorem dX11_lane_29 : decode cX11_lane 29 = .ok (.istore_n 3, 1) := by decide +kernel
theorem dX11_lane_30 : decode cX11_lane 30 = .ok (.iconst 0, 1) := by decide +kernel
theorem dX11_lane_31 : decode cX11_lane 31 = .ok (.istore 4, 2) := by decide +kernel
theorem dX11_lane_33 : decode cX11_lane 33 = .ok (.iconst 0, 1) := by decide +kernel
theorem dX11_lane_34 : decode cX11_lane 34 = .ok (.istore 5, 2) := by decide +kernel
theorem dX11_lane_36 : decode cX11_lane 36 = .ok (.iload 5, 2) := by decide +kernel
theorem dX11_lane_38 : decode cX11_lane 38 = .ok (.sipush 220, 3) := by decide +kernel
theorem dX11_lane_41 : decode cX11_lane 41 = .ok (.if_icmp .ge 63, 3) := by decide +kernel
theorem dX11_lane_44 : decode cX11_lane 44 = .ok (.iload_n 2, 1) := by decide +kernel
theorem dX11_lane_45 : decode cX11_lane 45 = .ok (.aload_n 0, 1) := by decide +kernel
theorem dX11_lane_46 : decode cX11_lane 46 = .ok (.getfield 92, 3) := by decide +kernel
theorem dX11_lane_49 : decode cX11_lane 49 = .ok (.iload 5, 2) := by decide +kernel
theorem dX11_lane_51 : decode cX11_lane 51 = .ok (.iaload, 1) := by decide +kernel
theorem dX11_lane_52 : decode cX11_lane 52 = .ok (.ifCond .le 7, 3) := by decide +kernel
theorem dX11_lane_55 : decode cX11_lane 55 = .ok (.iconst 1, 1) := by decide +kernel
theorem dX11_lane_56 : decode cX11_lane 56 = .ok (.goto 4, 3) := by decide +kernel
theorem dX11_lane_59 : decode cX11_lane 59 = .ok (.iconst 0, 1) := by decide +kernel
theorem dX11_lane_60 : decode cX11_lane 60 = .ok (.invokestatic 159, 3) := by decide +kernel
theorem dX11_lane_63 : decode cX11_lane 63 = .ok (.iadd, 1) := by decide +kernel
theorem dX11_lane_64 : decode cX11_lane 64 = .ok (.istore_n 2, 1) := by decide +kernel
theorem dX11_lane_65 : decode cX11_lane 65 = .ok (.aload_n 0, 1) := by decide +kernel
theorem dX11_lane_66 : decode cX11_lane 66 = .ok (.getfield 92, 3) := by decide +kernel
theorem dX11_lane_69 : decode cX11_lane 69 = .ok (.iload 5, 2) := by decide +kernel
theorem dX11_lane_71 : decode cX11_lane 71 = .ok (.iaload, 1) := by decide +kernel
theorem dX11_lane_72 : decode cX11_lane 72 = .ok (.iload 4, 2) := by decide +kernel
theorem dX11_lane_74 : decode cX11_lane 74 = .ok (.if_icmp .le 8, 3) := by decide +kernel
theorem dX11_lane_77 : decode cX11_lane 77 = .ok (.iload 5, 2) := by decide +kernel
theorem dX11_lane_79 : decode cX11_lane 79 = .ok (.goto 4, 3) := by decide +kernel
theorem dX11_lane_82 : decode cX11_lane 82 = .ok (.iload_n 3, 1) := by decide +kernel
theorem dX11_lane_83 : decode cX11_lane 83 = .ok (.istore_n 3, 1) := by decide +kernel
theorem dX11_lane_84 : decode cX11_lane 84 = .ok (.iload 4, 2) := by decide +kernel
theorem dX11_lane_86 : decode cX11_lane 86 = .ok (.aload_n 0, 1) := by decide +kernel
theorem dX11_lane_87 : decode cX11_lane 87 = .ok (.getfield 92, 3) := by decide +kernel
theorem dX11_lane_90 : decode cX11_lane 90 = .ok (.iload 5, 2) := by decide +kernel
theorem dX11_lane_92 : decode cX11_lane 92 = .ok (.iaload, 1) := by decide +kernel
theorem dX11_lane_93 : decode cX11_lane 93 = .ok (.invokestatic 279, 3) := by decide +kernel
theorem dX11_lane_96 : decode cX11_lane 96 = .ok (.istore 4, 2) := by decide +kernel
theorem dX11_lane_98 : decode cX11_lane 98 = .ok (.iinc 5 1, 3) := by decide +kernel
theorem dX11_lane_101 : decode cX11_lane 101 = .ok (.goto (-65), 3) := by decide +kernel
theorem dX11_lane_104 : decode cX11_lane 104 = .ok (.aload_n 0, 1) := by decide +kernel
theorem dX11_lane_105 : decode cX11_lane 105 = .ok (.iconst 0, 1) := by decide +kernel
theorem dX11_lane_106 : decode cX11_lane 106 = .ok (.putfield 15, 3) := by decide +kernel
theorem dX11_lane_109 : decode cX11_lane 109 = .ok (.aload_n 0, 1) := by decide +kernel
theorem dX11_lane_110 : decode cX11_lane 110 = .ok (.iload 4, 2) := by decide +kernel
theorem dX11_lane_112 : decode cX11_lane 112 = .ok (.i2l, 1) := by decide +kernel
theorem dX11_lane_113 : decode cX11_lane 113 = .ok (.invokevirtual 18, 3) := by decide +kernel
theorem dX11_lane_116 : decode cX11_lane 116 = .ok (.aload_n 0, 1) := by decide +kernel
theorem dX11_lane_117 : decode cX11_lane 117 = .ok (.iload_n 3, 1) := by decide +kernel
theorem dX11_lane_118 : decode cX11_lane 118 = .ok (.i2l, 1) := by decide +kernel
theorem dX11_lane_119 : decode cX11_lane 119 = .ok (.invokevirtual 18, 3) := by decide +kernel
theorem dX11_lane_122 : decode cX11_lane 122 = .ok (.iload_n 2, 1) := by decide +kernel
theorem dX11_lane_123 : decode cX11_lane 123 = .ok (.ireturn, 1) := by decide +kernel
theorem s_X11_lane_36 {s12 : xW} {q : Int × xW} {k : Int → Int → Int → Int → Option (Int × xW)} (hk : ∀ (l2_27 : Int) (l3_28 : Int) (l4_29 : Int) (l5_30 : Int), k l2_27 l3_28 l4_29 l5_30 = some q → xG 7 0 0 mX11_lane 104 [vR 121, vX, vI l2_27, vI l3_28, vI l4_29, vI l5_30] [] 155 s12 (xRv (vI q.1) q.2)) : ∀ (f : Nat) (l2_8 : Int) (l3_9 : Int) (l4_10 : Int) (l5_11 : Int), F_X11_lane_36 s12 f l2_8 l3_9 l4_10 l5_11 k = some q → xG 7 0 0 mX11_lane 36 [vR 121, vX, vI l2_8, vI l3_9, vI l4_10, vI l5_11] [] 155 s12 (xRv (vI q.1) q.2) := by
  intro f
  induction f with
  | zero => intro l2_8 l3_9 l4_10 l5_11 h; cases h
  | succ f ih =>
    intro l2_8 l3_9 l4_10 l5_11 h
    unfold F_X11_lane_36 at h
    refine g_il dX11_lane_36 rfl ?_
    refine g_si dX11_lane_38 (by decide) ?_
    refine g_wge dX11_lane_41 (tgt := 104) rfl rfl (xw_id (by decide)) (fun q13 => ?_) (fun q13 => ?_)
    · replace h := xif_f q13 h
      exact hk l2_8 l3_9 l4_10 l5_11 h
    · replace h := xif_t q13 h
      refine g_iln dX11_lane_44 rfl rfl ?_
      refine g_aln dX11_lane_45 rfl rfl (by decide) ?_
      refine g_getC 142 dX11_lane_46 fl_X11_92 rfl (by decide) ?_
      refine g_il dX11_lane_49 rfl ?_
      obtain ⟨hg14, h⟩ := xgd_e h
      refine g_iald 220 dX11_lane_51 rfl hg14 (by decide) ?_
      obtain ⟨v16, e17, h⟩ := xlt_e h
      have hj18 : xG 7 0 0 mX11_lane 60 [vR 121, vX, vX, vI l3_9, vI l4_10, vI l5_11] [vI v16, vI l2_8] 155 s12 (xRv (vI q.1) q.2) := by
        obtain ⟨r20, e19, h⟩ := xbp_e h
        refine g_cS1v dX11_lane_60 ml_X11_159 (s_X11_flag e19) (by decide) rfl ?_
        refine g_iadd dX11_lane_63 ?_
        refine g_istn_2 dX11_lane_64 (by decide) rfl ?_
        refine g_aln dX11_lane_65 rfl rfl (by decide) ?_
        refine g_getC 142 dX11_lane_66 fl_X11_92 rfl (by decide) ?_
        refine g_il dX11_lane_69 rfl ?_
        obtain ⟨hg21, h⟩ := xgd_e h
        refine g_iald 220 dX11_lane_71 rfl hg21 (by decide) ?_
        refine g_il dX11_lane_72 rfl ?_
        obtain ⟨v23, e24, h⟩ := xlt_e h
        have hj25 : xG 7 0 0 mX11_lane 83 [vR 121, vX, vI (l2_8 + r20), vX, vI l4_10, vI l5_11] [vI v23] 155 s12 (xRv (vI q.1) q.2) := by
          refine g_istn_3 dX11_lane_83 (by decide) rfl ?_
          refine g_il dX11_lane_84 rfl ?_
          refine g_aln dX11_lane_86 rfl rfl (by decide) ?_
          refine g_getC 142 dX11_lane_87 fl_X11_92 rfl (by decide) ?_
          refine g_il dX11_lane_90 rfl ?_
          obtain ⟨hg26, h⟩ := xgd_e h
          refine g_iald 220 dX11_lane_92 rfl hg26 (by decide) ?_
          refine g_wmax dX11_lane_93 mx_X11_279 rfl rfl (by decide) rfl ?_
          refine g_ist_4 dX11_lane_96 (by decide) rfl ?_
          refine g_inc_5 dX11_lane_98 (by decide) rfl ?_
          refine g_goto dX11_lane_101 (tgt := 36) rfl ?_
          exact ih (l2_8 + r20) v23 (max (xw l4_10) (xw (s12 142 l5_11))) (l5_11 + 1) h
        refine g_wle dX11_lane_74 (tgt := 82) rfl rfl rfl (fun c22 => ?_) (fun c22 => ?_)
        · skip
          refine g_iln dX11_lane_82 rfl rfl ?_
          refine g_drop_3 ?_
          exact g_vq ((if_neg c22).symm.trans e24) hj25
        · skip
          refine g_il dX11_lane_77 rfl ?_
          refine g_goto dX11_lane_79 (tgt := 83) rfl ?_
          refine g_drop_3 ?_
          exact g_vq ((if_pos c22).symm.trans e24) hj25
      refine g_yle dX11_lane_52 (tgt := 59) rfl rfl (fun c15 => ?_) (fun c15 => ?_)
      · skip
        refine g_ic dX11_lane_59 ?_
        refine g_drop_2 ?_
        exact g_vq ((if_neg c15).symm.trans e17) hj18
      · skip
        refine g_ic dX11_lane_55 ?_
        refine g_goto dX11_lane_56 (tgt := 60) rfl ?_
        refine g_drop_2 ?_
        exact g_vq ((if_pos c15).symm.trans e17) hj18
theorem s_X11_lane {a1 : Int} {s0 : xW} {q : Int × xW} (h : F_X11_lane a1 s0 = some q) : xC 7 0 0 mX11_lane [vR 121, vI a1] 155 s0 (xRv (vI q.1) q.2) := by
  refine xC.of [vR 121, vI a1, vX, vX, vX, vX] (by decide +kernel) (Nat.le_of_ble_eq_true rfl) rfl ?_
  unfold F_X11_lane at h
  refine g_aln dX11_lane_0 rfl rfl (by decide) ?_
  refine g_ic dX11_lane_1 ?_
  obtain ⟨s1, e2, h⟩ := xlt_e h
  refine h_putI 0 dX11_lane_2 fl_X11_3 rfl rfl e2 ?_
  refine g_iln dX11_lane_5 rfl rfl ?_
  refine g_wi2l dX11_lane_6 rfl ?_
  refine g_lc dX11_lane_7 (w := 0) rfl ?_
  refine g_ldc2 dX11_lane_8 ct_X11_331 (w := 3) rfl ?_
  obtain ⟨r4, e3, h⟩ := xbp_e h
  refine g_cS3v dX11_lane_11 ml_X11_132 (s_X11_in e3) (by decide) rfl ?_
  refine g_yne dX11_lane_14 (tgt := 19) rfl rfl (fun q5 => ?_) (fun q5 => ?_)
  · replace h := xif_f q5 h
    refine g_aln dX11_lane_19 rfl rfl (by decide) ?_
    refine g_ic dX11_lane_20 ?_
    refine g_iln dX11_lane_21 rfl rfl ?_
    refine g_ishl dX11_lane_22 ?_
    obtain ⟨s7, e6, h⟩ := xbp_e h
    refine g_cV10 dX11_lane_23 ml_X11_397 rfl (s_X11_laysBusy e6) (by decide) rfl ?_
    refine g_ic dX11_lane_26 ?_
    refine g_istn_2 dX11_lane_27 (by decide) rfl ?_
    refine g_ic dX11_lane_28 ?_
    refine g_istn_3 dX11_lane_29 (by decide) rfl ?_
    refine g_ic dX11_lane_30 ?_
    refine g_ist_4 dX11_lane_31 (by decide) rfl ?_
    refine g_ic dX11_lane_33 ?_
    refine g_ist_5 dX11_lane_34 (by decide) rfl ?_
    refine g_drop_1 ?_
    refine s_X11_lane_36 (fun l2_31 l3_32 l4_33 l5_34 h => ?_) xN _ _ _ _ h
    refine g_aln dX11_lane_104 rfl rfl (by decide) ?_
    refine g_ic dX11_lane_105 ?_
    obtain ⟨s35, e36, h⟩ := xlt_e h
    refine h_putI 1 dX11_lane_106 fl_X11_15 rfl rfl e36 ?_
    refine g_aln dX11_lane_109 rfl rfl (by decide) ?_
    refine g_il dX11_lane_110 rfl ?_
    refine g_wi2l dX11_lane_112 rfl ?_
    obtain ⟨s38, e37, h⟩ := xbp_e h
    refine g_cV10 dX11_lane_113 ml_X11_18 rfl (s_X11_enters e37) (by decide) rfl ?_
    refine g_aln dX11_lane_116 rfl rfl (by decide) ?_
    refine g_iln dX11_lane_117 rfl rfl ?_
    refine g_wi2l dX11_lane_118 rfl ?_
    obtain ⟨s40, e39, h⟩ := xbp_e h
    refine g_cV10 dX11_lane_119 ml_X11_18 rfl (s_X11_enters e39) (by decide) rfl ?_
    refine g_iln dX11_lane_122 rfl rfl ?_
    exact g_rI rfl dX11_lane_123 h
  · replace h := xif_t q5 h
    refine g_ic dX11_lane_17 ?_
    exact g_rI rfl dX11_lane_18 h
theorem dX11_lasts_0 : decode cX11_lasts 0 = .ok (.aload_n 0, 1) := by decide +kernel
theorem dX11_lasts_1 : decode cX11_lasts 1 = .ok (.iconst 0, 1) := by decide +kernel
theorem dX11_lasts_2 : decode cX11_lasts 2 = .ok (.putfield 3, 3) := by decide +kernel
theorem dX11_lasts_5 : decode cX11_lasts 5 = .ok (.aload_n 0, 1) := by decide +kernel
theorem dX11_lasts_6 : decode cX11_lasts 6 = .ok (.invokevirtual 400, 3) := by decide +kernel
theorem dX11_lasts_9 : decode cX11_lasts 9 = .ok (.iconst 0, 1) := by decide +kernel
theorem dX11_lasts_10 : decode cX11_lasts 10 = .ok (.istore_n 1, 1) := by decide +kernel
theorem dX11_lasts_11 : decode cX11_lasts 11 = .ok (.iconst 0, 1) := by decide +kernel
theorem dX11_lasts_12 : decode cX11_lasts 12 = .ok (.istore_n 2, 1) := by decide +kernel
theorem dX11_lasts_13 : decode cX11_lasts 13 = .ok (.iload_n 2, 1) := by decide +kernel
theorem dX11_lasts_14 : decode cX11_lasts 14 = .ok (.aload_n 0, 1) := by decide +kernel
theorem dX11_lasts_15 : decode cX11_lasts 15 = .ok (.getfield 47, 3) := by decide +kernel
theorem dX11_lasts_18 : decode cX11_lasts 18 = .ok (.bipush 36, 2) := by decide +kernel
theorem dX11_lasts_20 : decode cX11_lasts 20 = .ok (.iaload, 1) := by decide +kernel
theorem dX11_lasts_21 : decode cX11_lasts 21 = .ok (.if_icmp .ge 31, 3) := by decide +kernel
theorem dX11_lasts_24 : decode cX11_lasts 24 = .ok (.iload_n 1, 1) := by decide +kernel
theorem dX11_lasts_25 : decode cX11_lasts 25 = .ok (.aload_n 0, 1) := by decide +kernel
theorem dX11_lasts_26 : decode cX11_lasts 26 = .ok (.aload_n 0, 1) := by decide +kernel
theorem dX11_lasts_27 : decode cX11_lasts 27 = .ok (.getfield 50, 3) := by decide +kernel
theorem dX11_lasts_30 : decode cX11_lasts 30 = .ok (.invokevirtual 336, 3) := by decide +kernel
theorem dX11_lasts_33 : decode cX11_lasts 33 = .ok (.iadd, 1) := by decide +kernel
theorem dX11_lasts_34 : decode cX11_lasts 34 = .ok (.istore_n 1, 1) := by decide +kernel
theorem dX11_lasts_35 : decode cX11_lasts 35 = .ok (.aload_n 0, 1) := by decide +kernel
theorem dX11_lasts_36 : decode cX11_lasts 36 = .ok (.getfield 50, 3) := by decide +kernel
theorem dX11_lasts_39 : decode cX11_lasts 39 = .ok (.bipush 39, 2) := by decide +kernel
theorem dX11_lasts_41 : decode cX11_lasts 41 = .ok (.dup2, 1) := by decide +kernel
theorem dX11_lasts_42 : decode cX11_lasts 42 = .ok (.iaload, 1) := by decide +kernel
theorem dX11_lasts_43 : decode cX11_lasts 43 = .ok (.iconst 1, 1) := by decide +kernel
theorem dX11_lasts_44 : decode cX11_lasts 44 = .ok (.iadd, 1) := by decide +kernel
theorem dX11_lasts_45 : decode cX11_lasts 45 = .ok (.iastore, 1) := by decide +kernel
theorem dX11_lasts_46 : decode cX11_lasts 46 = .ok (.iinc 2 1, 3) := by decide +kernel
theorem dX11_lasts_49 : decode cX11_lasts 49 = .ok (.goto (-36), 3) := by decide +kernel
theorem dX11_lasts_52 : decode cX11_lasts 52 = .ok (.aload_n 0, 1) := by decide +kernel
theorem dX11_lasts_53 : decode cX11_lasts 53 = .ok (.iconst 0, 1) := by decide +kernel
theorem dX11_lasts_54 : decode cX11_lasts 54 = .ok (.putfield 15, 3) := by decide +kernel
theorem dX11_lasts_57 : decode cX11_lasts 57 = .ok (.aload_n 0, 1) := by decide +kernel
theorem dX11_lasts_58 : decode cX11_lasts 58 = .ok (.iload_n 1, 1) := by decide +kernel
theorem dX11_lasts_59 : decode cX11_lasts 59 = .ok (.i2l, 1) := by decide +kernel
theorem dX11_lasts_60 : decode cX11_lasts 60 = .ok (.invokevirtual 18, 3) := by decide +kernel
theorem dX11_lasts_63 : decode cX11_lasts 63 = .ok (.aload_n 0, 1) := by decide +kernel
theorem dX11_lasts_64 : decode cX11_lasts 64 = .ok (.getfield 47, 3) := by decide +kernel
theorem dX11_lasts_67 : decode cX11_lasts 67 = .ok (.bipush 36, 2) := by decide +kernel
theorem dX11_lasts_69 : decode cX11_lasts 69 = .ok (.iaload, 1) := by decide +kernel
theorem dX11_lasts_70 : decode cX11_lasts 70 = .ok (.ireturn, 1) := by decide +kernel
theorem s_X11_lasts_13 {q : Int × xW} {k : Int → Int → xW → Option (Int × xW)} (hk : ∀ (l1_14 : Int) (l2_15 : Int) (s16 : xW), k l1_14 l2_15 s16 = some q → xG 7 0 0 mX11_lasts 52 [vR 121, vI l1_14, vI l2_15] [] 155 s16 (xRv (vI q.1) q.2)) : ∀ (f : Nat) (l1_5 : Int) (l2_6 : Int) (s7 : xW), F_X11_lasts_13  f l1_5 l2_6 s7 k = some q → xG 7 0 0 mX11_lasts 13 [vR 121, vI l1_5, vI l2_6] [] 155 s7 (xRv (vI q.1) q.2) := by
  intro f
  induction f with
  | zero => intro l1_5 l2_6 s7 h; cases h
  | succ f ih =>
    intro l1_5 l2_6 s7 h
    unfold F_X11_lasts_13 at h
    refine g_iln dX11_lasts_13 rfl rfl ?_
    refine g_aln dX11_lasts_14 rfl rfl (by decide) ?_
    refine g_getC 127 dX11_lasts_15 fl_X11_47 rfl (by decide) ?_
    refine g_bi dX11_lasts_18 (by decide) ?_
    refine g_iald 40 dX11_lasts_20 rfl (by decide) (by decide) ?_
    refine g_wge dX11_lasts_21 (tgt := 52) rfl rfl rfl (fun q8 => ?_) (fun q8 => ?_)
    · replace h := xif_f q8 h
      exact hk l1_5 l2_6 s7 h
    · replace h := xif_t q8 h
      refine g_iln dX11_lasts_24 rfl rfl ?_
      refine g_aln dX11_lasts_25 rfl rfl (by decide) ?_
      refine g_aln dX11_lasts_26 rfl rfl (by decide) ?_
      refine g_getC 128 dX11_lasts_27 fl_X11_50 rfl (by decide) ?_
      obtain ⟨r10, s11, e9, h⟩ := xbd_e h
      refine g_cV1v dX11_lasts_30 ml_X11_336 rfl (s_X11_clashesOn e9) (by decide) rfl ?_
      refine g_iadd dX11_lasts_33 ?_
      refine g_istn_1 dX11_lasts_34 (by decide) rfl ?_
      refine g_aln dX11_lasts_35 rfl rfl (by decide) ?_
      refine g_getC 128 dX11_lasts_36 fl_X11_50 rfl (by decide) ?_
      refine g_bi dX11_lasts_39 (by decide) ?_
      refine g_dup2 dX11_lasts_41 rfl rfl ?_
      refine g_iald 40 dX11_lasts_42 rfl (by decide) (by decide) ?_
      refine g_ic dX11_lasts_43 ?_
      refine g_iadd dX11_lasts_44 ?_
      obtain ⟨s12, e13, h⟩ := xlt_e h
      refine h_iast 40 dX11_lasts_45 rfl (by decide) (by decide) e13 ?_
      refine g_inc_2 dX11_lasts_46 (by decide) rfl ?_
      refine g_goto dX11_lasts_49 (tgt := 13) rfl ?_
      exact ih (l1_5 + r10) (l2_6 + 1) s12 h
theorem s_X11_lasts {s0 : xW} {q : Int × xW} (h : F_X11_lasts  s0 = some q) : xC 7 0 0 mX11_lasts [vR 121] 155 s0 (xRv (vI q.1) q.2) := by
  refine xC.of [vR 121, vX, vX] (by decide +kernel) (Nat.le_of_ble_eq_true rfl) rfl ?_
  unfold F_X11_lasts at h
  refine g_aln dX11_lasts_0 rfl rfl (by decide) ?_
  refine g_ic dX11_lasts_1 ?_
  obtain ⟨s1, e2, h⟩ := xlt_e h
  refine h_putI 0 dX11_lasts_2 fl_X11_3 rfl rfl e2 ?_
  refine g_aln dX11_lasts_5 rfl rfl (by decide) ?_
  obtain ⟨s4, e3, h⟩ := xbp_e h
  refine g_cV00 dX11_lasts_6 ml_X11_400 rfl (s_X11_copies e3) (by decide) rfl ?_
  refine g_ic dX11_lasts_9 ?_
  refine g_istn_1 dX11_lasts_10 (by decide) rfl ?_
  refine g_ic dX11_lasts_11 ?_
  refine g_istn_2 dX11_lasts_12 (by decide) rfl ?_
  refine s_X11_lasts_13 (fun l1_17 l2_18 s19 h => ?_) xN _ _ _ h
  refine g_aln dX11_lasts_52 rfl rfl (by decide) ?_
  refine g_ic dX11_lasts_53 ?_
  obtain ⟨s20, e21, h⟩ := xlt_e h
  refine h_putI 1 dX11_lasts_54 fl_X11_15 rfl rfl e21 ?_
  refine g_aln dX11_lasts_57 rfl rfl (by decide) ?_
  refine g_iln dX11_lasts_58 rfl rfl ?_
  refine g_wi2l dX11_lasts_59 rfl ?_
  obtain ⟨s23, e22, h⟩ := xbp_e h
  refine g_cV10 dX11_lasts_60 ml_X11_18 rfl (s_X11_enters e22) (by decide) rfl ?_
  refine g_aln dX11_lasts_63 rfl rfl (by decide) ?_
  refine g_getC 127 dX11_lasts_64 fl_X11_47 rfl (by decide) ?_
  refine g_bi dX11_lasts_67 (by decide) ?_
  refine g_iald 40 dX11_lasts_69 rfl (by decide) (by decide) ?_
  exact g_rI rfl dX11_lasts_70 h
theorem dX11_readsThing_0 : decode cX11_readsThing 0 = .ok (.aload_n 0, 1) := by decide +kernel
theorem dX11_readsThing_1 : decode cX11_readsThing 1 = .ok (.bipush 45, 2) := by decide +kernel
theorem dX11_readsThing_3 : decode cX11_readsThing 3 = .ok (.invokevirtual 210, 3) := by decide +kernel
theorem dX11_readsThing_6 : decode cX11_readsThing 6 = .ok (.ifCond .eq 17, 3) := by decide +kernel
theorem dX11_readsThing_9 : decode cX11_readsThing 9 = .ok (.aload_n 0, 1) := by decide +kernel
theorem dX11_readsThing_10 : decode cX11_readsThing 10 = .ok (.invokevirtual 237, 3) := by decide +kernel
theorem dX11_readsThing_13 : decode cX11_readsThing 13 = .ok (.istore_n 1, 1) := by decide +kernel
theorem dX11_readsThing_14 : decode cX11_readsThing 14 = .ok (.aload_n 0, 1) := by decide +kernel
theorem dX11_readsThing_15 : decode cX11_readsThing 15 = .ok (.sipush 3000, 3) := by decide +kernel
theorem dX11_readsThing_18 : decode cX11_readsThing 18 = .ok (.invokevirtual 240, 3) := by decide +kernel
theorem dX11_readsThing_21 : decode cX11_readsThing 21 = .ok (.iload_n 1, 1) := by decide +kernel
theorem dX11_readsThing_22 : decode cX11_readsThing 22 = .ok (.ireturn, 1) := by decide +kernel
theorem dX11_readsThing_23 : decode cX11_readsThing 23 = .ok (.aload_n 0, 1) := by decide +kernel
theorem dX11_readsThing_24 : decode cX11_readsThing 24 = .ok (.invokevirtual 177, 3) := by decide +kernel
theorem dX11_readsThing_27 : decode cX11_readsThing 27 = .ok (.ifCond .eq 14, 3) := by decide +kernel
theorem dX11_readsThing_30 : decode cX11_readsThing 30 = .ok (.aload_n 0, 1) := by decide +kernel
theorem dX11_readsThing_31 : decode cX11_readsThing 31 = .ok (.aload_n 0, 1) := by decide +kernel
theorem dX11_readsThing_32 : decode cX11_readsThing 32 = .ok (.iconst 3, 1) := by decide +kernel
theorem dX11_readsThing_33 : decode cX11_readsThing 33 = .ok (.invokevirtual 184, 3) := by decide +kernel
theorem dX11_readsThing_36 : decode cX11_readsThing 36 = .ok (.invokevirtual 240, 3) := by decide +kernel
theorem dX11_readsThing_39 : decode cX11_readsThing 39 = .ok (.iconst 1, 1) := by decide +kernel
theorem dX11_readsThing_40 : decode cX11_readsThing 40 = .ok (.ireturn, 1) := by decide +kernel
theorem dX11_readsThing_41 : decode cX11_readsThing 41 = .ok (.aload_n 0, 1) := by decide +kernel
theorem dX11_readsThing_42 : decode cX11_readsThing 42 = .ok (.ldc 244, 2) := by decide +kernel
theorem dX11_readsThing_44 : decode cX11_readsThing 44 = .ok (.invokevirtual 197, 3) := by decide +kernel
theorem dX11_readsThing_47 : decode cX11_readsThing 47 = .ok (.istore_n 1, 1) := by decide +kernel
theorem dX11_readsThing_48 : decode cX11_readsThing 48 = .ok (.iload_n 1, 1) := by decide +kernel
theorem dX11_readsThing_49 : decode cX11_readsThing 49 = .ok (.ifCond .lt 14, 3) := by decide +kernel
theorem dX11_readsThing_52 : decode cX11_readsThing 52 = .ok (.aload_n 0, 1) := by decide +kernel
theorem dX11_readsThing_53 : decode cX11_readsThing 53 = .ok (.sipush 1000, 3) := by decide +kernel
theorem dX11_readsThing_56 : decode cX11_readsThing 56 = .ok (.iload_n 1, 1) := by decide +kernel
theorem dX11_readsThing_57 : decode cX11_readsThing 57 = .ok (.iadd, 1) := by decide +kernel
theorem dX11_readsThing_58 : decode cX11_readsThing 58 = .ok (.invokevirtual 240, 3) := by decide +kernel
theorem dX11_readsThing_61 : decode cX11_readsThing 61 = .ok (.iconst 1, 1) := by decide +kernel
theorem dX11_readsThing_62 : decode cX11_readsThing 62 = .ok (.ireturn, 1) := by decide +kernel
theorem dX11_readsThing_63 : decode cX11_readsThing 63 = .ok (.aload_n 0, 1) := by decide +kernel
theorem dX11_readsThing_64 : decode cX11_readsThing 64 = .ok (.getfield 147, 3) := by decide +kernel
theorem dX11_readsThing_67 : decode cX11_readsThing 67 = .ok (.iconst 4, 1) := by decide +kernel
theorem dX11_readsThing_68 : decode cX11_readsThing 68 = .ok (.if_icmp .eq 12, 3) := by decide +kernel
theorem dX11_readsThing_71 : decode cX11_readsThing 71 = .ok (.aload_n 0, 1) := by decide +kernel
theorem dX11_readsThing_72 : decode cX11_readsThing 72 = .ok (.bipush 40, 2) := by decide +kernel
theorem dX11_readsThing_74 : decode cX11_readsThing 74 = .ok (.invokevirtual 210, 3) := by decide +kernel
theorem dX11_readsThing_77 : decode cX11_readsThing 77 = .ok (.ifCond .ne 5, 3) := by decide +kernel
theorem dX11_readsThing_80 : decode cX11_readsThing 80 = .ok (.iconst 0, 1) := by decide +kernel
theorem dX11_readsThing_81 : decode cX11_readsThing 81 = .ok (.ireturn, 1) := by decide +kernel
theorem dX11_readsThing_82 : decode cX11_readsThing 82 = .ok (.aload_n 0, 1) := by decide +kernel
theorem dX11_readsThing_83 : decode cX11_readsThing 83 = .ok (.dup, 1) := by decide +kernel
theorem dX11_readsThing_84 : decode cX11_readsThing 84 = .ok (.getfield 147, 3) := by decide +kernel
theorem dX11_readsThing_87 : decode cX11_readsThing 87 = .ok (.iconst 1, 1) := by decide +kernel
theorem dX11_readsThing_88 : decode cX11_readsThing 88 = .ok (.iadd, 1) := by decide +kernel
theorem dX11_readsThing_89 : decode cX11_readsThing 89 = .ok (.putfield 147, 3) := by decide +kernel
theorem dX11_readsThing_92 : decode cX11_readsThing 92 = .ok (.aload_n 0, 1) := by decide +kernel
theorem dX11_readsThing_93 : decode cX11_readsThing 93 = .ok (.iconst 0, 1) := by decide +kernel
theorem dX11_readsThing_94 : decode cX11_readsThing 94 = .ok (.invokevirtual 246, 3) := by decide +kernel
theorem dX11_readsThing_97 : decode cX11_readsThing 97 = .ok (.ifCond .eq 12, 3) := by decide +kernel
theorem dX11_readsThing_100 : decode cX11_readsThing 100 = .ok (.aload_n 0, 1) := by decide +kernel
theorem dX11_readsThing_101 : decode cX11_readsThing 101 = .ok (.bipush 41, 2) := by decide +kernel
theorem dX11_readsThing_103 : decode cX11_readsThing 103 = .ok (.invokevirtual 210, 3) := by decide +kernel
theorem dX11_readsThing_106 : decode cX11_readsThing 106 = .ok (.ifCond .ne 5, 3) := by decide +kernel
theorem dX11_readsThing_109 : decode cX11_readsThing 109 = .ok (.iconst 0, 1) := by decide +kernel
theorem dX11_readsThing_110 : decode cX11_readsThing 110 = .ok (.ireturn, 1) := by decide +kernel
theorem dX11_readsThing_111 : decode cX11_readsThing 111 = .ok (.aload_n 0, 1) := by decide +kernel
theorem dX11_readsThing_112 : decode cX11_readsThing 112 = .ok (.dup, 1) := by decide +kernel
theorem dX11_readsThing_113 : decode cX11_readsThing 113 = .ok (.getfield 147, 3) := by decide +kernel
theorem dX11_readsThing_116 : decode cX11_readsThing 116 = .ok (.iconst 1, 1) := by decide +kernel
theorem dX11_readsThing_117 : decode cX11_readsThing 117 = .ok (.isub, 1) := by decide +kernel
theorem dX11_readsThing_118 : decode cX11_readsThing 118 = .ok (.putfield 147, 3) := by decide +kernel
theorem dX11_readsThing_121 : decode cX11_readsThing 121 = .ok (.iconst 1, 1) := by decide +kernel
theorem dX11_readsThing_122 : decode cX11_readsThing 122 = .ok (.ireturn, 1) := by decide +kernel
theorem dX11_readsRank_0 : decode cX11_readsRank 0 = .ok (.iload_n 1, 1) := by decide +kernel
theorem dX11_readsRank_1 : decode cX11_readsRank 1 = .ok (.iconst 3, 1) := by decide +kernel
theorem dX11_readsRank_2 : decode cX11_readsRank 2 = .ok (.if_icmp .ne 8, 3) := by decide +kernel
theorem dX11_readsRank_5 : decode cX11_readsRank 5 = .ok (.aload_n 0, 1) := by decide +kernel
theorem dX11_readsRank_6 : decode cX11_readsRank 6 = .ok (.invokevirtual 237, 3) := by decide +kernel
theorem dX11_readsRank_9 : decode cX11_readsRank 9 = .ok (.ireturn, 1) := by decide +kernel
theorem dX11_readsRank_10 : decode cX11_readsRank 10 = .ok (.aload_n 0, 1) := by decide +kernel
theorem dX11_readsRank_11 : decode cX11_readsRank 11 = .ok (.iload_n 1, 1) := by decide +kernel
theorem dX11_readsRank_12 : decode cX11_readsRank 12 = .ok (.iconst 1, 1) := by decide +kernel
theorem dX11_readsRank_13 : decode cX11_readsRank 13 = .ok (.iadd, 1) := by decide +kernel
theorem dX11_readsRank_14 : decode cX11_readsRank 14 = .ok (.invokevirtual 246, 3) := by decide +kernel
theorem dX11_readsRank_17 : decode cX11_readsRank 17 = .ok (.ifCond .ne 5, 3) := by decide +kernel
theorem dX11_readsRank_20 : decode cX11_readsRank 20 = .ok (.iconst 0, 1) := by decide +kernel
theorem dX11_readsRank_21 : decode cX11_readsRank 21 = .ok (.ireturn, 1) := by decide +kernel
theorem dX11_readsRank_22 : decode cX11_readsRank 22 = .ok (.iconst 1, 1) := by decide +kernel
theorem dX11_readsRank_23 : decode cX11_readsRank 23 = .ok (.istore_n 2, 1) := by decide +kernel
theorem dX11_readsRank_24 : decode cX11_readsRank 24 = .ok (.iload_n 2, 1) := by decide +kernel
theorem dX11_readsRank_25 : decode cX11_readsRank 25 = .ok (.ifCond .eq 88, 3) := by decide +kernel
theorem dX11_readsRank_28 : decode cX11_readsRank 28 = .ok (.aload_n 0, 1) := by decide +kernel
theorem dX11_readsRank_29 : decode cX11_readsRank 29 = .ok (.iload_n 1, 1) := by decide +kernel
theorem dX11_readsRank_30 : decode cX11_readsRank 30 = .ok (.ifCond .ne 8, 3) := by decide +kernel
theorem dX11_readsRank_33 : decode cX11_readsRank 33 = .ok (.ldc 249, 2) := by decide +kernel
theorem dX11_readsRank_35 : decode cX11_readsRank 35 = .ok (.goto 15, 3) := by decide +kernel
theorem dX11_readsRank_38 : decode cX11_readsRank 38 = .ok (.iload_n 1, 1) := by decide +kernel
theorem dX11_readsRank_39 : decode cX11_readsRank 39 = .ok (.iconst 1, 1) := by decide +kernel
theorem dX11_readsRank_40 : decode cX11_readsRank 40 = .ok (.if_icmp .ne 8, 3) := by decide +kernel
theorem dX11_readsRank_43 : decode cX11_readsRank 43 = .ok (.ldc 251, 2) := by decide +kernel
theorem dX11_readsRank_45 : decode cX11_readsRank 45 = .ok (.goto 5, 3) := by decide +kernel
theorem dX11_readsRank_48 : decode cX11_readsRank 48 = .ok (.ldc 253, 2) := by decide +kernel
theorem dX11_readsRank_50 : decode cX11_readsRank 50 = .ok (.invokevirtual 197, 3) := by decide +kernel
theorem dX11_readsRank_53 : decode cX11_readsRank 53 = .ok (.istore_n 3, 1) := by decide +kernel
theorem dX11_readsRank_54 : decode cX11_readsRank 54 = .ok (.iload_n 3, 1) := by decide +kernel
theorem dX11_readsRank_55 : decode cX11_readsRank 55 = .ok (.ifCond .ge 5, 3) := by decide +kernel
theorem dX11_readsRank_58 : decode cX11_readsRank 58 = .ok (.iconst 1, 1) := by decide +kernel
theorem dX11_readsRank_59 : decode cX11_readsRank 59 = .ok (.ireturn, 1) := by decide +kernel
theorem dX11_readsRank_60 : decode cX11_readsRank 60 = .ok (.aload_n 0, 1) := by decide +kernel
theorem dX11_readsRank_61 : decode cX11_readsRank 61 = .ok (.iload_n 1, 1) := by decide +kernel
theorem dX11_readsRank_62 : decode cX11_readsRank 62 = .ok (.iconst 1, 1) := by decide +kernel
theorem dX11_readsRank_63 : decode cX11_readsRank 63 = .ok (.iadd, 1) := by decide +kernel
theorem dX11_readsRank_64 : decode cX11_readsRank 64 = .ok (.invokevirtual 246, 3) := by decide +kernel
theorem dX11_readsRank_67 : decode cX11_readsRank 67 = .ok (.ifCond .ne 5, 3) := by decide +kernel
theorem dX11_readsRank_70 : decode cX11_readsRank 70 = .ok (.iconst 0, 1) := by decide +kernel
theorem dX11_readsRank_71 : decode cX11_readsRank 71 = .ok (.ireturn, 1) := by decide +kernel
theorem dX11_readsRank_72 : decode cX11_readsRank 72 = .ok (.aload_n 0, 1) := by decide +kernel
theorem dX11_readsRank_73 : decode cX11_readsRank 73 = .ok (.sipush 2000, 3) := by decide +kernel
theorem dX11_readsRank_76 : decode cX11_readsRank 76 = .ok (.iload_n 3, 1) := by decide +kernel
theorem dX11_readsRank_77 : decode cX11_readsRank 77 = .ok (.iadd, 1) := by decide +kernel
theorem dX11_readsRank_78 : decode cX11_readsRank 78 = .ok (.iload_n 1, 1) := by decide +kernel
theorem dX11_readsRank_79 : decode cX11_readsRank 79 = .ok (.ifCond .ne 7, 3) := by decide +kernel
theorem dX11_readsRank_82 : decode cX11_readsRank 82 = .ok (.iconst 0, 1) := by decide +kernel
theorem dX11_readsRank_83 : decode cX11_readsRank 83 = .ok (.goto 13, 3) := by decide +kernel
theorem dX11_readsRank_86 : decode cX11_readsRank 86 = .ok (.iload_n 1, 1) := by decide +kernel
theorem dX11_readsRank_87 : decode cX11_readsRank 87 = .ok (.iconst 1, 1) := by decide +kernel
theorem dX11_readsRank_88 : decode cX11_readsRank 88 = .ok (.if_icmp .ne 7, 3) := by decide +kernel
theorem dX11_readsRank_91 : decode cX11_readsRank 91 = .ok (.iconst 3, 1) := by decide +kernel
theorem dX11_readsRank_92 : decode cX11_readsRank 92 = .ok (.goto 4, 3) := by decide +kernel
theorem dX11_readsRank_95 : decode cX11_readsRank 95 = .ok (.iconst 5, 1) := by decide +kernel
theorem dX11_readsRank_96 : decode cX11_readsRank 96 = .ok (.iadd, 1) := by decide +kernel
theorem dX11_readsRank_97 : decode cX11_readsRank 97 = .ok (.invokevirtual 240, 3) := by decide +kernel
theorem dX11_readsRank_100 : decode cX11_readsRank 100 = .ok (.iload_n 1, 1) := by decide +kernel
theorem dX11_readsRank_101 : decode cX11_readsRank 101 = .ok (.ifCond .le 7, 3) := by decide +kernel
theorem dX11_readsRank_104 : decode cX11_readsRank 104 = .ok (.iconst 1, 1) := by decide +kernel
theorem dX11_readsRank_105 : decode cX11_readsRank 105 = .ok (.goto 4, 3) := by decide +kernel
theorem dX11_readsRank_108 : decode cX11_readsRank 108 = .ok (.iconst 0, 1) := by decide +kernel
theorem dX11_readsRank_109 : decode cX11_readsRank 109 = .ok (.istore_n 2, 1) := by decide +kernel
theorem dX11_readsRank_110 : decode cX11_readsRank 110 = .ok (.goto (-86), 3) := by decide +kernel
theorem dX11_readsRank_113 : decode cX11_readsRank 113 = .ok (.iconst 1, 1) := by decide +kernel
theorem dX11_readsRank_114 : decode cX11_readsRank 114 = .ok (.ireturn, 1) := by decide +kernel
theorem s_readsThing_b {D : Nat} (hD : 15 ≤ D) {rc : Int → xW → Option (Int × xW)} (hT : ∀ {s0 : xW} {q : Int × xW}, rc (-1) s0 = some q → xC D 0 0 mX11_readsThing [vR 121] 155 s0 (xRv (vI q.1) q.2)) (hR : ∀ {a1 : Int} {s0 : xW} {q : Int × xW}, 0 ≤ a1 → rc a1 s0 = some q → xC D 0 0 mX11_readsRank [vR 121, vI a1] 155 s0 (xRv (vI q.1) q.2)) {s0 : xW} {q : Int × xW} (h : F_X11_readsThing_b rc s0 = some q) : xC (D + 1) 0 0 mX11_readsThing [vR 121] 155 s0 (xRv (vI q.1) q.2) := by
  refine xC.of [vR 121, vX] (by decide +kernel) (Nat.le_of_ble_eq_true rfl) rfl ?_
  unfold F_X11_readsThing_b at h
  refine g_aln dX11_readsThing_0 rfl rfl (by decide) ?_
  refine g_bi dX11_readsThing_1 (by decide) ?_
  obtain ⟨r2, s3, e1, h⟩ := xbd_e h
  refine g_cV1v dX11_readsThing_3 ml_X11_210 rfl (s_X11_takesSign e1) (by omega) rfl ?_
  refine g_yeq dX11_readsThing_6 (tgt := 23) rfl rfl (fun q4 => ?_) (fun q4 => ?_)
  · replace h := xif_f q4 h
    refine g_aln dX11_readsThing_23 rfl rfl (by decide) ?_
    obtain ⟨r6, e5, h⟩ := xbp_e h
    refine g_cV0v dX11_readsThing_24 ml_X11_177 rfl (s_X11_isDigit e5) (by omega) rfl ?_
    refine g_yeq dX11_readsThing_27 (tgt := 41) rfl rfl (fun q7 => ?_) (fun q7 => ?_)
    · replace h := xif_f q7 h
      refine g_aln dX11_readsThing_41 rfl rfl (by decide) ?_
      refine g_ldcS 7 dX11_readsThing_42 rfl rfl rfl ?_
      obtain ⟨r9, s10, e8, h⟩ := xbd_e h
      refine g_litT 7 dX11_readsThing_44 ml_X11_197 rfl (s_X11_takesOf ⟨by decide, by decide⟩ e8) (by omega) rfl ?_
      refine g_istn_1 dX11_readsThing_47 (by decide) rfl ?_
      refine g_iln dX11_readsThing_48 rfl rfl ?_
      refine g_ylt dX11_readsThing_49 (tgt := 63) rfl rfl (fun q11 => ?_) (fun q11 => ?_)
      · replace h := xif_f q11 h
        refine g_aln dX11_readsThing_63 rfl rfl (by decide) ?_
        refine g_getI 18 dX11_readsThing_64 fl_X11_147 rfl rfl ?_
        refine g_ic dX11_readsThing_67 ?_
        obtain ⟨j13, ej14, h⟩ := xjn_e h
        have hj15 : ∀ (s12 : xW), j13 s12 = some q → xG (D + 1) 0 0 mX11_readsThing 80 [vX, vX] [] 155 s12 (xRv (vI q.1) q.2) := by
          intro s12 h
          rw [ej14] at h
          refine g_ic dX11_readsThing_80 ?_
          exact g_rZ rfl dX11_readsThing_81 (by decide) h
        clear ej14
        refine g_weq dX11_readsThing_68 (tgt := 80) rfl rfl (xw_id (by decide)) (fun q16 => ?_) (fun q16 => ?_)
        · replace h := xif_f q16 h
          refine g_drop_0 ?_
          refine g_drop_1 ?_
          exact hj15 s10 h
        · replace h := xif_t q16 h
          refine g_aln dX11_readsThing_71 rfl rfl (by decide) ?_
          refine g_bi dX11_readsThing_72 (by decide) ?_
          obtain ⟨r18, s19, e17, h⟩ := xbd_e h
          refine g_cV1v dX11_readsThing_74 ml_X11_210 rfl (s_X11_takesSign e17) (by omega) rfl ?_
          refine g_yne dX11_readsThing_77 (tgt := 82) rfl rfl (fun q20 => ?_) (fun q20 => ?_)
          · replace h := xif_f q20 h
            refine g_aln dX11_readsThing_82 rfl rfl (by decide) ?_
            refine g_dup dX11_readsThing_83 rfl ?_
            refine g_getI 18 dX11_readsThing_84 fl_X11_147 rfl rfl ?_
            refine g_ic dX11_readsThing_87 ?_
            refine g_iadd dX11_readsThing_88 ?_
            obtain ⟨s21, e22, h⟩ := xlt_e h
            refine h_putI 18 dX11_readsThing_89 fl_X11_147 rfl rfl e22 ?_
            refine g_aln dX11_readsThing_92 rfl rfl (by decide) ?_
            refine g_ic dX11_readsThing_93 ?_
            obtain ⟨r24, s25, e23, h⟩ := xbd_e h
            refine g_cV1v dX11_readsThing_94 ml_X11_246 rfl (hR (by omega) e23) (by omega) rfl ?_
            obtain ⟨j27, ej28, h⟩ := xjn_e h
            have hj29 : ∀ (s26 : xW), j27 s26 = some q → xG (D + 1) 0 0 mX11_readsThing 109 [vX, vX] [] 155 s26 (xRv (vI q.1) q.2) := by
              intro s26 h
              rw [ej28] at h
              refine g_ic dX11_readsThing_109 ?_
              exact g_rZ rfl dX11_readsThing_110 (by decide) h
            clear ej28
            refine g_yeq dX11_readsThing_97 (tgt := 109) rfl rfl (fun q30 => ?_) (fun q30 => ?_)
            · replace h := xif_f q30 h
              refine g_drop_0 ?_
              refine g_drop_1 ?_
              exact hj29 s25 h
            · replace h := xif_t q30 h
              refine g_aln dX11_readsThing_100 rfl rfl (by decide) ?_
              refine g_bi dX11_readsThing_101 (by decide) ?_
              obtain ⟨r32, s33, e31, h⟩ := xbd_e h
              refine g_cV1v dX11_readsThing_103 ml_X11_210 rfl (s_X11_takesSign e31) (by omega) rfl ?_
              refine g_yne dX11_readsThing_106 (tgt := 111) rfl rfl (fun q34 => ?_) (fun q34 => ?_)
              · replace h := xif_f q34 h
                refine g_aln dX11_readsThing_111 rfl rfl (by decide) ?_
                refine g_dup dX11_readsThing_112 rfl ?_
                refine g_getI 18 dX11_readsThing_113 fl_X11_147 rfl rfl ?_
                refine g_ic dX11_readsThing_116 ?_
                refine g_isub dX11_readsThing_117 ?_
                obtain ⟨s35, e36, h⟩ := xlt_e h
                refine h_putI 18 dX11_readsThing_118 fl_X11_147 rfl rfl e36 ?_
                refine g_ic dX11_readsThing_121 ?_
                exact g_rZ rfl dX11_readsThing_122 (by decide) h
              · replace h := xif_t q34 h
                refine g_drop_0 ?_
                refine g_drop_1 ?_
                exact hj29 s33 h
          · replace h := xif_t q20 h
            refine g_drop_0 ?_
            refine g_drop_1 ?_
            exact hj15 s19 h
      · replace h := xif_t q11 h
        refine g_aln dX11_readsThing_52 rfl rfl (by decide) ?_
        refine g_si dX11_readsThing_53 (by decide) ?_
        refine g_iln dX11_readsThing_56 rfl rfl ?_
        refine g_iadd dX11_readsThing_57 ?_
        obtain ⟨s38, e37, h⟩ := xbp_e h
        refine g_cV10 dX11_readsThing_58 ml_X11_240 rfl (s_X11_codes e37) (by omega) rfl ?_
        refine g_ic dX11_readsThing_61 ?_
        exact g_rZ rfl dX11_readsThing_62 (by decide) h
    · replace h := xif_t q7 h
      refine g_aln dX11_readsThing_30 rfl rfl (by decide) ?_
      refine g_aln dX11_readsThing_31 rfl rfl (by decide) ?_
      refine g_ic dX11_readsThing_32 ?_
      obtain ⟨r40, s41, e39, h⟩ := xbd_e h
      refine g_cV1v dX11_readsThing_33 ml_X11_184 rfl (s_X11_number e39) (by omega) rfl ?_
      obtain ⟨s43, e42, h⟩ := xbp_e h
      refine g_cV10 dX11_readsThing_36 ml_X11_240 rfl (s_X11_codes e42) (by omega) rfl ?_
      refine g_ic dX11_readsThing_39 ?_
      exact g_rZ rfl dX11_readsThing_40 (by decide) h
  · replace h := xif_t q4 h
    refine g_aln dX11_readsThing_9 rfl rfl (by decide) ?_
    obtain ⟨r45, s46, e44, h⟩ := xbd_e h
    refine g_cV0v dX11_readsThing_10 ml_X11_237 rfl (hT e44) (by omega) rfl ?_
    refine g_istn_1 dX11_readsThing_13 (by decide) rfl ?_
    refine g_aln dX11_readsThing_14 rfl rfl (by decide) ?_
    refine g_si dX11_readsThing_15 (by decide) ?_
    obtain ⟨s48, e47, h⟩ := xbp_e h
    refine g_cV10 dX11_readsThing_18 ml_X11_240 rfl (s_X11_codes e47) (by omega) rfl ?_
    refine g_iln dX11_readsThing_21 rfl rfl ?_
    obtain ⟨hg49, h⟩ := xgd_e h
    exact g_rZ rfl dX11_readsThing_22 hg49 h
theorem s_X11_readsRank_24 {D : Nat} (hD : 15 ≤ D) {rc : Int → xW → Option (Int × xW)} (hT : ∀ {s0 : xW} {q : Int × xW}, rc (-1) s0 = some q → xC D 0 0 mX11_readsThing [vR 121] 155 s0 (xRv (vI q.1) q.2)) (hR : ∀ {a1 : Int} {s0 : xW} {q : Int × xW}, 0 ≤ a1 → rc a1 s0 = some q → xC D 0 0 mX11_readsRank [vR 121, vI a1] 155 s0 (xRv (vI q.1) q.2)) {l1_6 : Int} (h0 : 0 ≤ l1_6) {q : Int × xW} {k : Int → xW → Option (Int × xW)} (hk : ∀ (l2_35 : Int) (s36 : xW), k l2_35 s36 = some q → xG (D + 1) 0 0 mX11_readsRank 113 [vR 121, vI l1_6, vI l2_35, vX] [] 155 s36 (xRv (vI q.1) q.2)) : ∀ (f : Nat) (l2_7 : Int) (s8 : xW), F_X11_readsRank_24 rc l1_6 f l2_7 s8 k = some q → xG (D + 1) 0 0 mX11_readsRank 24 [vR 121, vI l1_6, vI l2_7, vX] [] 155 s8 (xRv (vI q.1) q.2) := by
  intro f
  induction f with
  | zero => intro l2_7 s8 h; cases h
  | succ f ih =>
    intro l2_7 s8 h
    unfold F_X11_readsRank_24 at h
    refine g_iln dX11_readsRank_24 rfl rfl ?_
    refine g_yeq dX11_readsRank_25 (tgt := 113) rfl rfl (fun q9 => ?_) (fun q9 => ?_)
    · replace h := xif_f q9 h
      exact hk l2_7 s8 h
    · replace h := xif_t q9 h
      refine g_aln dX11_readsRank_28 rfl rfl (by decide) ?_
      refine g_iln dX11_readsRank_29 rfl rfl ?_
      obtain ⟨j11, ej12, h⟩ := xjn_e h
      have hj13 : ∀ (t10 : List Int) (i10 : Nat) (q10 : String × Nat × String × List Int), xLits[i10]? = some q10 → q10.2.2.2 = t10 → xB7 t10 → j11 t10 = some q → xG (D + 1) 0 0 mX11_readsRank 50 [vR 121, vI l1_6, vX, vX] [vT (i10 : Int), vR 121] 155 s8 (xRv (vI q.1) q.2) := by
        intro t10 i10 q10 hq10 hw10 hb10 h
        rw [ej12] at h
        obtain ⟨r15, s16, e14, h⟩ := xbd_e h
        refine g_litT i10 dX11_readsRank_50 ml_X11_197 hq10 (by rw [hw10]; exact s_X11_takesOf hb10 e14) (by omega) rfl ?_
        refine g_istn_3 dX11_readsRank_53 (by decide) rfl ?_
        refine g_iln dX11_readsRank_54 rfl rfl ?_
        refine g_yge dX11_readsRank_55 (tgt := 60) rfl rfl (fun q17 => ?_) (fun q17 => ?_)
        · replace h := xif_f q17 h
          refine g_aln dX11_readsRank_60 rfl rfl (by decide) ?_
          refine g_iln dX11_readsRank_61 rfl rfl ?_
          refine g_ic dX11_readsRank_62 ?_
          refine g_iadd dX11_readsRank_63 ?_
          obtain ⟨r19, s20, e18, h⟩ := xbd_e h
          refine g_cV1v dX11_readsRank_64 ml_X11_246 rfl (hR (by omega) e18) (by omega) rfl ?_
          refine g_yne dX11_readsRank_67 (tgt := 72) rfl rfl (fun q21 => ?_) (fun q21 => ?_)
          · replace h := xif_f q21 h
            refine g_aln dX11_readsRank_72 rfl rfl (by decide) ?_
            refine g_si dX11_readsRank_73 (by decide) ?_
            refine g_iln dX11_readsRank_76 rfl rfl ?_
            refine g_iadd dX11_readsRank_77 ?_
            refine g_iln dX11_readsRank_78 rfl rfl ?_
            obtain ⟨v24, e25, h⟩ := xlt_e h
            have hj26 : xG (D + 1) 0 0 mX11_readsRank 96 [vR 121, vI l1_6, vX, vX] [vI v24, vI (2000 + r15), vR 121] 155 s20 (xRv (vI q.1) q.2) := by
              refine g_iadd dX11_readsRank_96 ?_
              obtain ⟨s28, e27, h⟩ := xbp_e h
              refine g_cV10 dX11_readsRank_97 ml_X11_240 rfl (s_X11_codes e27) (by omega) rfl ?_
              refine g_iln dX11_readsRank_100 rfl rfl ?_
              obtain ⟨v30, e31, h⟩ := xlt_e h
              have hj32 : xG (D + 1) 0 0 mX11_readsRank 109 [vR 121, vI l1_6, vX, vX] [vI v30] 155 s28 (xRv (vI q.1) q.2) := by
                refine g_istn_2 dX11_readsRank_109 (by decide) rfl ?_
                refine g_goto dX11_readsRank_110 (tgt := 24) rfl ?_
                exact ih v30 s28 h
              refine g_yle dX11_readsRank_101 (tgt := 108) rfl rfl (fun c29 => ?_) (fun c29 => ?_)
              · skip
                refine g_ic dX11_readsRank_108 ?_
                exact g_vq ((if_neg c29).symm.trans e31) hj32
              · skip
                refine g_ic dX11_readsRank_104 ?_
                refine g_goto dX11_readsRank_105 (tgt := 109) rfl ?_
                exact g_vq ((if_pos c29).symm.trans e31) hj32
            refine g_yne dX11_readsRank_79 (tgt := 86) rfl rfl (fun c22 => ?_) (fun c22 => ?_)
            · skip
              refine g_iln dX11_readsRank_86 rfl rfl ?_
              refine g_ic dX11_readsRank_87 ?_
              refine g_wne dX11_readsRank_88 (tgt := 95) rfl rfl (xw_id (by decide)) (fun c23 => ?_) (fun c23 => ?_)
              · skip
                refine g_ic dX11_readsRank_95 ?_
                refine g_drop_3 ?_
                exact g_vq (((if_neg c22).trans (if_neg c23)).symm.trans e25) hj26
              · skip
                refine g_ic dX11_readsRank_91 ?_
                refine g_goto dX11_readsRank_92 (tgt := 96) rfl ?_
                refine g_drop_3 ?_
                exact g_vq (((if_neg c22).trans (if_pos c23)).symm.trans e25) hj26
            · skip
              refine g_ic dX11_readsRank_82 ?_
              refine g_goto dX11_readsRank_83 (tgt := 96) rfl ?_
              refine g_drop_3 ?_
              exact g_vq ((if_pos c22).symm.trans e25) hj26
          · replace h := xif_t q21 h
            refine g_ic dX11_readsRank_70 ?_
            exact g_rZ rfl dX11_readsRank_71 (by decide) h
        · replace h := xif_t q17 h
          refine g_ic dX11_readsRank_58 ?_
          exact g_rZ rfl dX11_readsRank_59 (by decide) h
      clear ej12
      refine g_yne dX11_readsRank_30 (tgt := 38) rfl rfl (fun q33 => ?_) (fun q33 => ?_)
      · replace h := xif_f q33 h
        refine g_iln dX11_readsRank_38 rfl rfl ?_
        refine g_ic dX11_readsRank_39 ?_
        refine g_wne dX11_readsRank_40 (tgt := 48) rfl rfl (xw_id (by decide)) (fun q34 => ?_) (fun q34 => ?_)
        · replace h := xif_f q34 h
          refine g_ldcS 10 dX11_readsRank_48 rfl rfl rfl ?_
          refine g_drop_2 ?_
          exact hj13 ([42, 47] : List Int) 10 _ rfl rfl ⟨by decide, by decide⟩ h
        · replace h := xif_t q34 h
          refine g_ldcS 9 dX11_readsRank_43 rfl rfl rfl ?_
          refine g_goto dX11_readsRank_45 (tgt := 50) rfl ?_
          refine g_drop_2 ?_
          exact hj13 ([43, 45] : List Int) 9 _ rfl rfl ⟨by decide, by decide⟩ h
      · replace h := xif_t q33 h
        refine g_ldcS 8 dX11_readsRank_33 rfl rfl rfl ?_
        refine g_goto dX11_readsRank_35 (tgt := 50) rfl ?_
        refine g_drop_2 ?_
        exact hj13 ([60, 62, 61] : List Int) 8 _ rfl rfl ⟨by decide, by decide⟩ h
theorem s_readsRank_b {D : Nat} (hD : 15 ≤ D) {rc : Int → xW → Option (Int × xW)} (hT : ∀ {s0 : xW} {q : Int × xW}, rc (-1) s0 = some q → xC D 0 0 mX11_readsThing [vR 121] 155 s0 (xRv (vI q.1) q.2)) (hR : ∀ {a1 : Int} {s0 : xW} {q : Int × xW}, 0 ≤ a1 → rc a1 s0 = some q → xC D 0 0 mX11_readsRank [vR 121, vI a1] 155 s0 (xRv (vI q.1) q.2)) {a1 : Int} (h0 : 0 ≤ a1) {s0 : xW} {q : Int × xW} (h : F_X11_readsRank_b rc a1 s0 = some q) : xC (D + 1) 0 0 mX11_readsRank [vR 121, vI a1] 155 s0 (xRv (vI q.1) q.2) := by
  refine xC.of [vR 121, vI a1, vX, vX] (by decide +kernel) (Nat.le_of_ble_eq_true rfl) rfl ?_
  unfold F_X11_readsRank_b at h
  refine g_iln dX11_readsRank_0 rfl rfl ?_
  refine g_ic dX11_readsRank_1 ?_
  refine g_wne dX11_readsRank_2 (tgt := 10) rfl rfl (xw_id (by decide)) (fun q1 => ?_) (fun q1 => ?_)
  · replace h := xif_f q1 h
    refine g_aln dX11_readsRank_10 rfl rfl (by decide) ?_
    refine g_iln dX11_readsRank_11 rfl rfl ?_
    refine g_ic dX11_readsRank_12 ?_
    refine g_iadd dX11_readsRank_13 ?_
    obtain ⟨r3, s4, e2, h⟩ := xbd_e h
    refine g_cV1v dX11_readsRank_14 ml_X11_246 rfl (hR (by omega) e2) (by omega) rfl ?_
    refine g_yne dX11_readsRank_17 (tgt := 22) rfl rfl (fun q5 => ?_) (fun q5 => ?_)
    · replace h := xif_f q5 h
      refine g_ic dX11_readsRank_22 ?_
      refine g_istn_2 dX11_readsRank_23 (by decide) rfl ?_
      refine s_X11_readsRank_24 hD hT hR h0 (fun l2_37 s38 h => ?_) xN _ _ h
      refine g_ic dX11_readsRank_113 ?_
      exact g_rZ rfl dX11_readsRank_114 (by decide) h
    · replace h := xif_t q5 h
      refine g_ic dX11_readsRank_20 ?_
      exact g_rZ rfl dX11_readsRank_21 (by decide) h
  · replace h := xif_t q1 h
    refine g_aln dX11_readsRank_5 rfl rfl (by decide) ?_
    obtain ⟨r40, s41, e39, h⟩ := xbd_e h
    refine g_cV0v dX11_readsRank_6 ml_X11_237 rfl (hT e39) (by omega) rfl ?_
    obtain ⟨hg42, h⟩ := xgd_e h
    exact g_rZ rfl dX11_readsRank_9 hg42 h
theorem s_rd : ∀ (f : Nat), (∀ {s0 : xW} {q : Int × xW}, F_rd f (-1) s0 = some q → xC (f + 19) 0 0 mX11_readsThing [vR 121] 155 s0 (xRv (vI q.1) q.2)) ∧ (∀ {a1 : Int} {s0 : xW} {q : Int × xW}, 0 ≤ a1 → F_rd f a1 s0 = some q → xC (f + 19) 0 0 mX11_readsRank [vR 121, vI a1] 155 s0 (xRv (vI q.1) q.2))
  | 0 => ⟨fun h => (by cases h), fun _ h => (by cases h)⟩
  | f + 1 => by
    obtain ⟨i1, i2⟩ := s_rd f
    refine ⟨fun h => ?_, fun h0 h => ?_⟩
    · unfold F_rd at h
      rw [if_pos rfl] at h
      have := s_readsThing_b (D := f + 19) (by omega) i1 i2 h
      rw [show f + 19 + 1 = f + 1 + 19 by omega] at this
      exact this
    · unfold F_rd at h
      rw [if_neg (by omega)] at h
      have := s_readsRank_b (D := f + 19) (by omega) i1 i2 h0 h
      rw [show f + 19 + 1 = f + 1 + 19 by omega] at this
      exact this
theorem s_X11_readsRank {a1 : Int} {s0 : xW} {q : Int × xW} (h : F_X11_readsRank a1 s0 = some q) (h0 : 0 ≤ a1 := by decide) : xC 319 0 0 mX11_readsRank [vR 121, vI a1] 155 s0 (xRv (vI q.1) q.2) := (s_rd 300).2 h0 h
theorem s_X11_readsThing {s0 : xW} {q : Int × xW} (h : F_X11_readsThing s0 = some q) : xC 319 0 0 mX11_readsThing [vR 121] 155 s0 (xRv (vI q.1) q.2) := (s_rd 300).1 h
theorem dX11_readsRule_0 : decode cX11_readsRule 0 = .ok (.aload_n 0, 1) := by decide +kernel
theorem dX11_readsRule_1 : decode cX11_readsRule 1 = .ok (.bipush 40, 2) := by decide +kernel
theorem dX11_readsRule_3 : decode cX11_readsRule 3 = .ok (.invokevirtual 201, 3) := by decide +kernel
theorem dX11_readsRule_6 : decode cX11_readsRule 6 = .ok (.istore_n 1, 1) := by decide +kernel
theorem dX11_readsRule_7 : decode cX11_readsRule 7 = .ok (.aload_n 0, 1) := by decide +kernel
theorem dX11_readsRule_8 : decode cX11_readsRule 8 = .ok (.iconst 0, 1) := by decide +kernel
theorem dX11_readsRule_9 : decode cX11_readsRule 9 = .ok (.putfield 234, 3) := by decide +kernel
theorem dX11_readsRule_12 : decode cX11_readsRule 12 = .ok (.iload_n 1, 1) := by decide +kernel
theorem dX11_readsRule_13 : decode cX11_readsRule 13 = .ok (.ifCond .eq 11, 3) := by decide +kernel
theorem dX11_readsRule_16 : decode cX11_readsRule 16 = .ok (.aload_n 0, 1) := by decide +kernel
theorem dX11_readsRule_17 : decode cX11_readsRule 17 = .ok (.iconst 0, 1) := by decide +kernel
theorem dX11_readsRule_18 : decode cX11_readsRule 18 = .ok (.invokevirtual 246, 3) := by decide +kernel
theorem dX11_readsRule_21 : decode cX11_readsRule 21 = .ok (.ifCond .eq 7, 3) := by decide +kernel
theorem dX11_readsRule_24 : decode cX11_readsRule 24 = .ok (.iconst 1, 1) := by decide +kernel
theorem dX11_readsRule_25 : decode cX11_readsRule 25 = .ok (.goto 4, 3) := by decide +kernel
theorem dX11_readsRule_28 : decode cX11_readsRule 28 = .ok (.iconst 0, 1) := by decide +kernel
theorem dX11_readsRule_29 : decode cX11_readsRule 29 = .ok (.istore_n 2, 1) := by decide +kernel
theorem dX11_readsRule_30 : decode cX11_readsRule 30 = .ok (.aload_n 0, 1) := by decide +kernel
theorem dX11_readsRule_31 : decode cX11_readsRule 31 = .ok (.iload_n 1, 1) := by decide +kernel
theorem dX11_readsRule_32 : decode cX11_readsRule 32 = .ok (.bipush 40, 2) := by decide +kernel
theorem dX11_readsRule_34 : decode cX11_readsRule 34 = .ok (.iload_n 2, 1) := by decide +kernel
theorem dX11_readsRule_35 : decode cX11_readsRule 35 = .ok (.invokevirtual 214, 3) := by decide +kernel
theorem dX11_readsRule_38 : decode cX11_readsRule 38 = .ok (.ireturn, 1) := by decide +kernel
theorem s_X11_readsRule {s0 : xW} {q : Int × xW} (h : F_X11_readsRule  s0 = some q) : xC 320 0 0 mX11_readsRule [vR 121] 155 s0 (xRv (vI q.1) q.2) := by
  refine xC.of [vR 121, vX, vX] (by decide +kernel) (Nat.le_of_ble_eq_true rfl) rfl ?_
  unfold F_X11_readsRule at h
  refine g_aln dX11_readsRule_0 rfl rfl (by decide) ?_
  refine g_bi dX11_readsRule_1 (by decide) ?_
  obtain ⟨r2, s3, e1, h⟩ := xbd_e h
  refine g_cV1v dX11_readsRule_3 ml_X11_201 rfl (s_X11_begins e1) (by decide) rfl ?_
  refine g_istn_1 dX11_readsRule_6 (by decide) rfl ?_
  refine g_aln dX11_readsRule_7 rfl rfl (by decide) ?_
  refine g_ic dX11_readsRule_8 ?_
  obtain ⟨s4, e5, h⟩ := xlt_e h
  refine h_putI 24 dX11_readsRule_9 fl_X11_234 rfl rfl e5 ?_
  refine g_iln dX11_readsRule_12 rfl rfl ?_
  obtain ⟨j8, ej9, h⟩ := xjn_e h
  have hj10 : ∀ (t6 : Int) (s7 : xW), j8 t6 s7 = some q → xG 320 0 0 mX11_readsRule 29 [vR 121, vI r2, vX] [vI t6] 155 s7 (xRv (vI q.1) q.2) := by
    intro t6 s7 h
    rw [ej9] at h
    refine g_istn_2 dX11_readsRule_29 (by decide) rfl ?_
    refine g_aln dX11_readsRule_30 rfl rfl (by decide) ?_
    refine g_iln dX11_readsRule_31 rfl rfl ?_
    refine g_bi dX11_readsRule_32 (by decide) ?_
    refine g_iln dX11_readsRule_34 rfl rfl ?_
    obtain ⟨r12, e11, h⟩ := xbp_e h
    refine g_cV3v dX11_readsRule_35 ml_X11_214 rfl (s_X11_faultOf e11) (by decide) rfl ?_
    exact g_rI rfl dX11_readsRule_38 h
  clear ej9
  obtain ⟨j14, ej15, h⟩ := xjn_e h
  have hj16 : ∀ (s13 : xW), j14 s13 = some q → xG 320 0 0 mX11_readsRule 24 [vR 121, vI r2, vX] [] 155 s13 (xRv (vI q.1) q.2) := by
    intro s13 h
    rw [ej15] at h
    refine g_ic dX11_readsRule_24 ?_
    refine g_goto dX11_readsRule_25 (tgt := 29) rfl ?_
    exact hj10 1 s13 h
  clear ej15
  refine g_yeq dX11_readsRule_13 (tgt := 24) rfl rfl (fun q17 => ?_) (fun q17 => ?_)
  · replace h := xif_f q17 h
    exact hj16 s4 h
  · replace h := xif_t q17 h
    refine g_aln dX11_readsRule_16 rfl rfl (by decide) ?_
    refine g_ic dX11_readsRule_17 ?_
    obtain ⟨r19, s20, e18, h⟩ := xbd_e h
    refine g_cV1v dX11_readsRule_18 ml_X11_246 rfl (s_X11_readsRank e18) (by decide) rfl ?_
    refine g_yeq dX11_readsRule_21 (tgt := 28) rfl rfl (fun q21 => ?_) (fun q21 => ?_)
    · replace h := xif_f q21 h
      refine g_ic dX11_readsRule_28 ?_
      exact hj10 0 s20 h
    · replace h := xif_t q21 h
      exact hj16 s20 h
theorem dX11_laysCode_0 : decode cX11_laysCode 0 = .ok (.aload_n 0, 1) := by decide +kernel
theorem dX11_laysCode_1 : decode cX11_laysCode 1 = .ok (.iload_n 2, 1) := by decide +kernel
theorem dX11_laysCode_2 : decode cX11_laysCode 2 = .ok (.putfield 255, 3) := by decide +kernel
theorem dX11_laysCode_5 : decode cX11_laysCode 5 = .ok (.iconst 0, 1) := by decide +kernel
theorem dX11_laysCode_6 : decode cX11_laysCode 6 = .ok (.istore_n 3, 1) := by decide +kernel
theorem dX11_laysCode_7 : decode cX11_laysCode 7 = .ok (.iload_n 3, 1) := by decide +kernel
theorem dX11_laysCode_8 : decode cX11_laysCode 8 = .ok (.iload_n 2, 1) := by decide +kernel
theorem dX11_laysCode_9 : decode cX11_laysCode 9 = .ok (.if_icmp .ge 18, 3) := by decide +kernel
theorem dX11_laysCode_12 : decode cX11_laysCode 12 = .ok (.aload_n 0, 1) := by decide +kernel
theorem dX11_laysCode_13 : decode cX11_laysCode 13 = .ok (.getfield 59, 3) := by decide +kernel
theorem dX11_laysCode_16 : decode cX11_laysCode 16 = .ok (.iload_n 3, 1) := by decide +kernel
theorem dX11_laysCode_17 : decode cX11_laysCode 17 = .ok (.aload_n 1, 1) := by decide +kernel
theorem dX11_laysCode_18 : decode cX11_laysCode 18 = .ok (.iload_n 3, 1) := by decide +kernel
theorem dX11_laysCode_19 : decode cX11_laysCode 19 = .ok (.iaload, 1) := by decide +kernel
theorem dX11_laysCode_20 : decode cX11_laysCode 20 = .ok (.iastore, 1) := by decide +kernel
theorem dX11_laysCode_21 : decode cX11_laysCode 21 = .ok (.iinc 3 1, 3) := by decide +kernel
theorem dX11_laysCode_24 : decode cX11_laysCode 24 = .ok (.goto (-17), 3) := by decide +kernel
theorem dX11_laysCode_27 : decode cX11_laysCode 27 = .ok (.return_, 1) := by decide +kernel
theorem s_X11_laysCode_7 {l1_3 l2_5 : Int} (hm4 : l1_3 ∈ xCodes) {q : xW} {k : Int → xW → Option (xW)} (hk : ∀ (l3_13 : Int) (s14 : xW), k l3_13 s14 = some q → xG 0 0 0 mX11_laysCode 27 [vR 121, vR l1_3, vI l2_5, vI l3_13] [] 155 s14 (xR0 q)) : ∀ (f : Nat) (l3_6 : Int) (s7 : xW), F_X11_laysCode_7 l1_3 l2_5 f l3_6 s7 k = some q → xG 0 0 0 mX11_laysCode 7 [vR 121, vR l1_3, vI l2_5, vI l3_6] [] 155 s7 (xR0 q) := by
  intro f
  induction f with
  | zero => intro l3_6 s7 h; cases h
  | succ f ih =>
    intro l3_6 s7 h
    unfold F_X11_laysCode_7 at h
    refine g_iln dX11_laysCode_7 rfl rfl ?_
    refine g_iln dX11_laysCode_8 rfl rfl ?_
    refine g_wge dX11_laysCode_9 (tgt := 27) rfl rfl rfl (fun q8 => ?_) (fun q8 => ?_)
    · replace h := xif_f q8 h
      exact hk l3_6 s7 h
    · replace h := xif_t q8 h
      refine g_aln dX11_laysCode_12 rfl rfl (by decide) ?_
      refine g_getC 131 dX11_laysCode_13 fl_X11_59 rfl (by decide) ?_
      refine g_iln dX11_laysCode_16 rfl rfl ?_
      refine g_aln dX11_laysCode_17 rfl rfl (xf_code_41 _ hm4) ?_
      refine g_iln dX11_laysCode_18 rfl rfl ?_
      obtain ⟨hg9, h⟩ := xgd_e h
      refine g_iald 80 dX11_laysCode_19 (xf_code_42 _ hm4) hg9 (by decide) ?_
      obtain ⟨hg10, h⟩ := xgd_e h
      obtain ⟨s11, e12, h⟩ := xlt_e h
      refine h_iast 80 dX11_laysCode_20 rfl hg10 (by decide) e12 ?_
      refine g_inc_3 dX11_laysCode_21 (by decide) rfl ?_
      refine g_goto dX11_laysCode_24 (tgt := 7) rfl ?_
      exact ih (l3_6 + 1) s11 h
theorem s_X11_laysCode {a1 a2 : Int} {s0 : xW} {q : xW} (h : F_X11_laysCode a1 a2 s0 = some q) : xC 0 0 0 mX11_laysCode [vR 121, vR a1, vI a2] 155 s0 (xR0 q) := by
  refine xC.of [vR 121, vR a1, vI a2, vX] (by decide +kernel) (Nat.le_of_ble_eq_true rfl) rfl ?_
  unfold F_X11_laysCode at h
  obtain ⟨hm1, h⟩ := xgd_e h
  refine g_aln dX11_laysCode_0 rfl rfl (by decide) ?_
  refine g_iln dX11_laysCode_1 rfl rfl ?_
  obtain ⟨s1, e2, h⟩ := xlt_e h
  refine h_putI 23 dX11_laysCode_2 fl_X11_255 rfl rfl e2 ?_
  refine g_ic dX11_laysCode_5 ?_
  refine g_istn_3 dX11_laysCode_6 (by decide) rfl ?_
  refine s_X11_laysCode_7 hm1 (fun l3_15 s16 h => ?_) xN _ _ h
  exact g_rV rfl dX11_laysCode_27 h
theorem dX11_law_0 : decode cX11_law 0 = .ok (.aload_n 0, 1) := by decide +kernel
theorem dX11_law_1 : decode cX11_law 1 = .ok (.iconst 0, 1) := by decide +kernel
theorem dX11_law_2 : decode cX11_law 2 = .ok (.putfield 3, 3) := by decide +kernel
theorem dX11_law_5 : decode cX11_law 5 = .ok (.aload_n 0, 1) := by decide +kernel
theorem dX11_law_6 : decode cX11_law 6 = .ok (.invokevirtual 258, 3) := by decide +kernel
theorem dX11_law_9 : decode cX11_law 9 = .ok (.istore_n 1, 1) := by decide +kernel
theorem dX11_law_10 : decode cX11_law 10 = .ok (.iload_n 1, 1) := by decide +kernel
theorem dX11_law_11 : decode cX11_law 11 = .ok (.ifCond .ge 11, 3) := by decide +kernel
theorem dX11_law_14 : decode cX11_law 14 = .ok (.iload_n 1, 1) := by decide +kernel
theorem dX11_law_15 : decode cX11_law 15 = .ok (.iconst 1, 1) := by decide +kernel
theorem dX11_law_16 : decode cX11_law 16 = .ok (.iadd, 1) := by decide +kernel
theorem dX11_law_17 : decode cX11_law 17 = .ok (.sipush 10000, 3) := by decide +kernel
theorem dX11_law_20 : decode cX11_law 20 = .ok (.isub, 1) := by decide +kernel
theorem dX11_law_21 : decode cX11_law 21 = .ok (.ireturn, 1) := by decide +kernel
theorem dX11_law_22 : decode cX11_law 22 = .ok (.aload_n 0, 1) := by decide +kernel
theorem dX11_law_23 : decode cX11_law 23 = .ok (.aload_n 0, 1) := by decide +kernel
theorem dX11_law_24 : decode cX11_law 24 = .ok (.getfield 47, 3) := by decide +kernel
theorem dX11_law_27 : decode cX11_law 27 = .ok (.invokevirtual 336, 3) := by decide +kernel
theorem dX11_law_30 : decode cX11_law 30 = .ok (.istore_n 2, 1) := by decide +kernel
theorem dX11_law_31 : decode cX11_law 31 = .ok (.aload_n 0, 1) := by decide +kernel
theorem dX11_law_32 : decode cX11_law 32 = .ok (.getfield 255, 3) := by decide +kernel
theorem dX11_law_35 : decode cX11_law 35 = .ok (.istore_n 3, 1) := by decide +kernel
theorem dX11_law_36 : decode cX11_law 36 = .ok (.iconst 0, 1) := by decide +kernel
theorem dX11_law_37 : decode cX11_law 37 = .ok (.istore 4, 2) := by decide +kernel
theorem dX11_law_39 : decode cX11_law 39 = .ok (.iload 4, 2) := by decide +kernel
theorem dX11_law_41 : decode cX11_law 41 = .ok (.aload_n 0, 1) := by decide +kernel
theorem dX11_law_42 : decode cX11_law 42 = .ok (.getfield 255, 3) := by decide +kernel
theorem dX11_law_45 : decode cX11_law 45 = .ok (.if_icmp .ge 23, 3) := by decide +kernel
theorem dX11_law_48 : decode cX11_law 48 = .ok (.aload_n 0, 1) := by decide +kernel
theorem dX11_law_49 : decode cX11_law 49 = .ok (.getfield 117, 3) := by decide +kernel
theorem dX11_law_52 : decode cX11_law 52 = .ok (.iload 4, 2) := by decide +kernel
theorem dX11_law_54 : decode cX11_law 54 = .ok (.aload_n 0, 1) := by decide +kernel
theorem dX11_law_55 : decode cX11_law 55 = .ok (.getfield 59, 3) := by decide +kernel
theorem dX11_law_58 : decode cX11_law 58 = .ok (.iload 4, 2) := by decide +kernel
theorem dX11_law_60 : decode cX11_law 60 = .ok (.iaload, 1) := by decide +kernel
theorem dX11_law_61 : decode cX11_law 61 = .ok (.iastore, 1) := by decide +kernel
theorem dX11_law_62 : decode cX11_law 62 = .ok (.iinc 4 1, 3) := by decide +kernel
theorem dX11_law_65 : decode cX11_law 65 = .ok (.goto (-26), 3) := by decide +kernel
theorem dX11_law_68 : decode cX11_law 68 = .ok (.aload_n 0, 1) := by decide +kernel
theorem dX11_law_69 : decode cX11_law 69 = .ok (.aload_n 0, 1) := by decide +kernel
theorem dX11_law_70 : decode cX11_law 70 = .ok (.getfield 62, 3) := by decide +kernel
theorem dX11_law_73 : decode cX11_law 73 = .ok (.aload_n 0, 1) := by decide +kernel
theorem dX11_law_74 : decode cX11_law 74 = .ok (.getfield 234, 3) := by decide +kernel
theorem dX11_law_77 : decode cX11_law 77 = .ok (.invokevirtual 261, 3) := by decide +kernel
theorem dX11_law_80 : decode cX11_law 80 = .ok (.aload_n 0, 1) := by decide +kernel
theorem dX11_law_81 : decode cX11_law 81 = .ok (.aload_n 0, 1) := by decide +kernel
theorem dX11_law_82 : decode cX11_law 82 = .ok (.getfield 47, 3) := by decide +kernel
theorem dX11_law_85 : decode cX11_law 85 = .ok (.invokevirtual 336, 3) := by decide +kernel
theorem dX11_law_88 : decode cX11_law 88 = .ok (.istore 4, 2) := by decide +kernel
theorem dX11_law_90 : decode cX11_law 90 = .ok (.aload_n 0, 1) := by decide +kernel
theorem dX11_law_91 : decode cX11_law 91 = .ok (.iconst 0, 1) := by decide +kernel
theorem dX11_law_92 : decode cX11_law 92 = .ok (.putfield 15, 3) := by decide +kernel
theorem dX11_law_95 : decode cX11_law 95 = .ok (.aload_n 0, 1) := by decide +kernel
theorem dX11_law_96 : decode cX11_law 96 = .ok (.iload 4, 2) := by decide +kernel
theorem dX11_law_98 : decode cX11_law 98 = .ok (.i2l, 1) := by decide +kernel
theorem dX11_law_99 : decode cX11_law 99 = .ok (.invokevirtual 18, 3) := by decide +kernel
theorem dX11_law_102 : decode cX11_law 102 = .ok (.aload_n 0, 1) := by decide +kernel
theorem dX11_law_103 : decode cX11_law 103 = .ok (.iload_n 2, 1) := by decide +kernel
theorem dX11_law_104 : decode cX11_law 104 = .ok (.i2l, 1) := by decide +kernel
theorem dX11_law_105 : decode cX11_law 105 = .ok (.invokevirtual 18, 3) := by decide +kernel
theorem dX11_law_108 : decode cX11_law 108 = .ok (.iconst 0, 1) := by decide +kernel
theorem dX11_law_109 : decode cX11_law 109 = .ok (.istore 5, 2) := by decide +kernel
theorem dX11_law_111 : decode cX11_law 111 = .ok (.iload 5, 2) := by decide +kernel
theorem dX11_law_113 : decode cX11_law 113 = .ok (.aload_n 0, 1) := by decide +kernel
theorem dX11_law_114 : decode cX11_law 114 = .ok (.getfield 129, 3) := by decide +kernel
theorem dX11_law_117 : decode cX11_law 117 = .ok (.if_icmp .ge 24, 3) := by decide +kernel
theorem dX11_law_120 : decode cX11_law 120 = .ok (.aload_n 0, 1) := by decide +kernel
theorem dX11_law_121 : decode cX11_law 121 = .ok (.aload_n 0, 1) := by decide +kernel
theorem dX11_law_122 : decode cX11_law 122 = .ok (.aload_n 0, 1) := by decide +kernel
theorem dX11_law_123 : decode cX11_law 123 = .ok (.getfield 47, 3) := by decide +kernel
theorem dX11_law_126 : decode cX11_law 126 = .ok (.iload 5, 2) := by decide +kernel
theorem dX11_law_128 : decode cX11_law 128 = .ok (.invokevirtual 292, 3) := by decide +kernel
theorem dX11_law_131 : decode cX11_law 131 = .ok (.i2l, 1) := by decide +kernel
theorem dX11_law_132 : decode cX11_law 132 = .ok (.invokevirtual 18, 3) := by decide +kernel
theorem dX11_law_135 : decode cX11_law 135 = .ok (.iinc 5 1, 3) := by decide +kernel
theorem dX11_law_138 : decode cX11_law 138 = .ok (.goto (-27), 3) := by decide +kernel
theorem dX11_law_141 : decode cX11_law 141 = .ok (.aload_n 0, 1) := by decide +kernel
theorem dX11_law_142 : decode cX11_law 142 = .ok (.aload_n 0, 1) := by decide +kernel
theorem dX11_law_143 : decode cX11_law 143 = .ok (.getfield 117, 3) := by decide +kernel
theorem dX11_law_146 : decode cX11_law 146 = .ok (.iload_n 3, 1) := by decide +kernel
theorem dX11_law_147 : decode cX11_law 147 = .ok (.invokevirtual 261, 3) := by decide +kernel
theorem dX11_law_150 : decode cX11_law 150 = .ok (.iload 4, 2) := by decide +kernel
theorem dX11_law_152 : decode cX11_law 152 = .ok (.iload_n 2, 1) := by decide +kernel
theorem dX11_law_153 : decode cX11_law 153 = .ok (.isub, 1) := by decide +kernel
theorem dX11_law_154 : decode cX11_law 154 = .ok (.ireturn, 1) := by decide +kernel
theorem s_X11_law_39 {l2_10 l3_11 : Int} {q : Int × xW} {k : Int → xW → Option (Int × xW)} (hk : ∀ (l4_19 : Int) (s20 : xW), k l4_19 s20 = some q → xG 321 0 0 mX11_law 68 [vR 121, vX, vI l2_10, vI l3_11, vI l4_19, vX] [] 155 s20 (xRv (vI q.1) q.2)) : ∀ (f : Nat) (l4_12 : Int) (s13 : xW), F_X11_law_39 l2_10 l3_11 f l4_12 s13 k = some q → xG 321 0 0 mX11_law 39 [vR 121, vX, vI l2_10, vI l3_11, vI l4_12, vX] [] 155 s13 (xRv (vI q.1) q.2) := by
  intro f
  induction f with
  | zero => intro l4_12 s13 h; cases h
  | succ f ih =>
    intro l4_12 s13 h
    unfold F_X11_law_39 at h
    refine g_il dX11_law_39 rfl ?_
    refine g_aln dX11_law_41 rfl rfl (by decide) ?_
    refine g_getI 23 dX11_law_42 fl_X11_255 rfl rfl ?_
    refine g_wge dX11_law_45 (tgt := 68) rfl rfl rfl (fun q14 => ?_) (fun q14 => ?_)
    · replace h := xif_f q14 h
      exact hk l4_12 s13 h
    · replace h := xif_t q14 h
      refine g_aln dX11_law_48 rfl rfl (by decide) ?_
      refine g_getC 150 dX11_law_49 fl_X11_117 rfl (by decide) ?_
      refine g_il dX11_law_52 rfl ?_
      refine g_aln dX11_law_54 rfl rfl (by decide) ?_
      refine g_getC 131 dX11_law_55 fl_X11_59 rfl (by decide) ?_
      refine g_il dX11_law_58 rfl ?_
      obtain ⟨hg15, h⟩ := xgd_e h
      refine g_iald 80 dX11_law_60 rfl hg15 (by decide) ?_
      obtain ⟨hg16, h⟩ := xgd_e h
      obtain ⟨s17, e18, h⟩ := xlt_e h
      refine h_iast 80 dX11_law_61 rfl hg16 (by decide) e18 ?_
      refine g_inc_4 dX11_law_62 (by decide) rfl ?_
      refine g_goto dX11_law_65 (tgt := 39) rfl ?_
      exact ih (l4_12 + 1) s17 h
theorem s_X11_law_111 {l2_34 l3_35 l4_36 : Int} {q : Int × xW} {k : Int → xW → Option (Int × xW)} (hk : ∀ (l5_45 : Int) (s46 : xW), k l5_45 s46 = some q → xG 321 0 0 mX11_law 141 [vR 121, vX, vI l2_34, vI l3_35, vI l4_36, vI l5_45] [] 155 s46 (xRv (vI q.1) q.2)) : ∀ (f : Nat) (l5_37 : Int) (s38 : xW), F_X11_law_111 l2_34 l3_35 l4_36 f l5_37 s38 k = some q → xG 321 0 0 mX11_law 111 [vR 121, vX, vI l2_34, vI l3_35, vI l4_36, vI l5_37] [] 155 s38 (xRv (vI q.1) q.2) := by
  intro f
  induction f with
  | zero => intro l5_37 s38 h; cases h
  | succ f ih =>
    intro l5_37 s38 h
    unfold F_X11_law_111 at h
    refine g_il dX11_law_111 rfl ?_
    refine g_aln dX11_law_113 rfl rfl (by decide) ?_
    refine g_getI 3 dX11_law_114 fl_X11_129 rfl rfl ?_
    refine g_wge dX11_law_117 (tgt := 141) rfl rfl rfl (fun q39 => ?_) (fun q39 => ?_)
    · replace h := xif_f q39 h
      exact hk l5_37 s38 h
    · replace h := xif_t q39 h
      refine g_aln dX11_law_120 rfl rfl (by decide) ?_
      refine g_aln dX11_law_121 rfl rfl (by decide) ?_
      refine g_aln dX11_law_122 rfl rfl (by decide) ?_
      refine g_getC 127 dX11_law_123 fl_X11_47 rfl (by decide) ?_
      refine g_il dX11_law_126 rfl ?_
      obtain ⟨r41, s42, e40, h⟩ := xbd_e h
      refine g_cV2v dX11_law_128 ml_X11_292 rfl (s_X11_hears e40) (by decide) rfl ?_
      refine g_wi2l dX11_law_131 rfl ?_
      obtain ⟨s44, e43, h⟩ := xbp_e h
      refine g_cV10 dX11_law_132 ml_X11_18 rfl (s_X11_enters e43) (by decide) rfl ?_
      refine g_inc_5 dX11_law_135 (by decide) rfl ?_
      refine g_goto dX11_law_138 (tgt := 111) rfl ?_
      exact ih (l5_37 + 1) s44 h
theorem s_X11_law {s0 : xW} {q : Int × xW} (h : F_X11_law  s0 = some q) : xC 321 0 0 mX11_law [vR 121] 155 s0 (xRv (vI q.1) q.2) := by
  refine xC.of [vR 121, vX, vX, vX, vX, vX] (by decide +kernel) (Nat.le_of_ble_eq_true rfl) rfl ?_
  unfold F_X11_law at h
  refine g_aln dX11_law_0 rfl rfl (by decide) ?_
  refine g_ic dX11_law_1 ?_
  obtain ⟨s1, e2, h⟩ := xlt_e h
  refine h_putI 0 dX11_law_2 fl_X11_3 rfl rfl e2 ?_
  refine g_aln dX11_law_5 rfl rfl (by decide) ?_
  obtain ⟨r4, s5, e3, h⟩ := xbd_e h
  refine g_cV0v dX11_law_6 ml_X11_258 rfl (s_X11_readsRule e3) (by decide) rfl ?_
  refine g_istn_1 dX11_law_9 (by decide) rfl ?_
  refine g_iln dX11_law_10 rfl rfl ?_
  refine g_yge dX11_law_11 (tgt := 22) rfl rfl (fun q6 => ?_) (fun q6 => ?_)
  · replace h := xif_f q6 h
    refine g_aln dX11_law_22 rfl rfl (by decide) ?_
    refine g_aln dX11_law_23 rfl rfl (by decide) ?_
    refine g_getC 127 dX11_law_24 fl_X11_47 rfl (by decide) ?_
    obtain ⟨r8, s9, e7, h⟩ := xbd_e h
    refine g_cV1v dX11_law_27 ml_X11_336 rfl (s_X11_clashesOn e7) (by decide) rfl ?_
    refine g_istn_2 dX11_law_30 (by decide) rfl ?_
    refine g_aln dX11_law_31 rfl rfl (by decide) ?_
    refine g_getI 23 dX11_law_32 fl_X11_255 rfl rfl ?_
    refine g_istn_3 dX11_law_35 (by decide) rfl ?_
    refine g_ic dX11_law_36 ?_
    refine g_ist_4 dX11_law_37 (by decide) rfl ?_
    refine g_drop_1 ?_
    refine s_X11_law_39 (fun l4_21 s22 h => ?_) xN _ _ h
    refine g_aln dX11_law_68 rfl rfl (by decide) ?_
    refine g_aln dX11_law_69 rfl rfl (by decide) ?_
    refine g_getC 132 dX11_law_70 fl_X11_62 rfl (by decide) ?_
    refine g_aln dX11_law_73 rfl rfl (by decide) ?_
    refine g_getI 24 dX11_law_74 fl_X11_234 rfl rfl ?_
    obtain ⟨s24, e23, h⟩ := xbp_e h
    refine g_cV20 dX11_law_77 ml_X11_261 rfl (s_X11_laysCode e23) (by decide) rfl ?_
    refine g_aln dX11_law_80 rfl rfl (by decide) ?_
    refine g_aln dX11_law_81 rfl rfl (by decide) ?_
    refine g_getC 127 dX11_law_82 fl_X11_47 rfl (by decide) ?_
    obtain ⟨r26, s27, e25, h⟩ := xbd_e h
    refine g_cV1v dX11_law_85 ml_X11_336 rfl (s_X11_clashesOn e25) (by decide) rfl ?_
    refine g_ist_4 dX11_law_88 (by decide) rfl ?_
    refine g_aln dX11_law_90 rfl rfl (by decide) ?_
    refine g_ic dX11_law_91 ?_
    obtain ⟨s28, e29, h⟩ := xlt_e h
    refine h_putI 1 dX11_law_92 fl_X11_15 rfl rfl e29 ?_
    refine g_aln dX11_law_95 rfl rfl (by decide) ?_
    refine g_il dX11_law_96 rfl ?_
    refine g_wi2l dX11_law_98 rfl ?_
    obtain ⟨s31, e30, h⟩ := xbp_e h
    refine g_cV10 dX11_law_99 ml_X11_18 rfl (s_X11_enters e30) (by decide) rfl ?_
    refine g_aln dX11_law_102 rfl rfl (by decide) ?_
    refine g_iln dX11_law_103 rfl rfl ?_
    refine g_wi2l dX11_law_104 rfl ?_
    obtain ⟨s33, e32, h⟩ := xbp_e h
    refine g_cV10 dX11_law_105 ml_X11_18 rfl (s_X11_enters e32) (by decide) rfl ?_
    refine g_ic dX11_law_108 ?_
    refine g_ist_5 dX11_law_109 (by decide) rfl ?_
    refine s_X11_law_111 (fun l5_47 s48 h => ?_) xN _ _ h
    refine g_aln dX11_law_141 rfl rfl (by decide) ?_
    refine g_aln dX11_law_142 rfl rfl (by decide) ?_
    refine g_getC 150 dX11_law_143 fl_X11_117 rfl (by decide) ?_
    refine g_iln dX11_law_146 rfl rfl ?_
    obtain ⟨s50, e49, h⟩ := xbp_e h
    refine g_cV20 dX11_law_147 ml_X11_261 rfl (s_X11_laysCode e49) (by decide) rfl ?_
    refine g_il dX11_law_150 rfl ?_
    refine g_iln dX11_law_152 rfl rfl ?_
    refine g_isub dX11_law_153 ?_
    exact g_rI rfl dX11_law_154 h
  · replace h := xif_t q6 h
    refine g_iln dX11_law_14 rfl rfl ?_
    refine g_ic dX11_law_15 ?_
    refine g_iadd dX11_law_16 ?_
    refine g_si dX11_law_17 (by decide) ?_
    refine g_isub dX11_law_20 ?_
    exact g_rI rfl dX11_law_21 h
theorem dX11_lengthOf_0 : decode cX11_lengthOf 0 = .ok (.iconst 0, 1) := by decide +kernel
theorem dX11_lengthOf_1 : decode cX11_lengthOf 1 = .ok (.istore_n 2, 1) := by decide +kernel
theorem dX11_lengthOf_2 : decode cX11_lengthOf 2 = .ok (.iconst 0, 1) := by decide +kernel
theorem dX11_lengthOf_3 : decode cX11_lengthOf 3 = .ok (.istore_n 3, 1) := by decide +kernel
theorem dX11_lengthOf_4 : decode cX11_lengthOf 4 = .ok (.iload_n 3, 1) := by decide +kernel
theorem dX11_lengthOf_5 : decode cX11_lengthOf 5 = .ok (.aload_n 0, 1) := by decide +kernel
theorem dX11_lengthOf_6 : decode cX11_lengthOf 6 = .ok (.getfield 136, 3) := by decide +kernel
theorem dX11_lengthOf_9 : decode cX11_lengthOf 9 = .ok (.if_icmp .ge 34, 3) := by decide +kernel
theorem dX11_lengthOf_12 : decode cX11_lengthOf 12 = .ok (.iload_n 2, 1) := by decide +kernel
theorem dX11_lengthOf_13 : decode cX11_lengthOf 13 = .ok (.iload_n 1, 1) := by decide +kernel
theorem dX11_lengthOf_14 : decode cX11_lengthOf 14 = .ok (.i2l, 1) := by decide +kernel
theorem dX11_lengthOf_15 : decode cX11_lengthOf 15 = .ok (.iload_n 3, 1) := by decide +kernel
theorem dX11_lengthOf_16 : decode cX11_lengthOf 16 = .ok (.invokestatic 403, 3) := by decide +kernel
theorem dX11_lengthOf_19 : decode cX11_lengthOf 19 = .ok (.ifCond .eq 15, 3) := by decide +kernel
theorem dX11_lengthOf_22 : decode cX11_lengthOf 22 = .ok (.aload_n 0, 1) := by decide +kernel
theorem dX11_lengthOf_23 : decode cX11_lengthOf 23 = .ok (.getfield 47, 3) := by decide +kernel
theorem dX11_lengthOf_26 : decode cX11_lengthOf 26 = .ok (.bipush 24, 2) := by decide +kernel
theorem dX11_lengthOf_28 : decode cX11_lengthOf 28 = .ok (.iload_n 3, 1) := by decide +kernel
theorem dX11_lengthOf_29 : decode cX11_lengthOf 29 = .ok (.iadd, 1) := by decide +kernel
theorem dX11_lengthOf_30 : decode cX11_lengthOf 30 = .ok (.iaload, 1) := by decide +kernel
theorem dX11_lengthOf_31 : decode cX11_lengthOf 31 = .ok (.goto 4, 3) := by decide +kernel
theorem dX11_lengthOf_34 : decode cX11_lengthOf 34 = .ok (.iconst 0, 1) := by decide +kernel
theorem dX11_lengthOf_35 : decode cX11_lengthOf 35 = .ok (.iadd, 1) := by decide +kernel
theorem dX11_lengthOf_36 : decode cX11_lengthOf 36 = .ok (.istore_n 2, 1) := by decide +kernel
theorem dX11_lengthOf_37 : decode cX11_lengthOf 37 = .ok (.iinc 3 1, 3) := by decide +kernel
theorem dX11_lengthOf_40 : decode cX11_lengthOf 40 = .ok (.goto (-36), 3) := by decide +kernel
theorem dX11_lengthOf_43 : decode cX11_lengthOf 43 = .ok (.iload_n 2, 1) := by decide +kernel
theorem dX11_lengthOf_44 : decode cX11_lengthOf 44 = .ok (.ireturn, 1) := by decide +kernel
theorem s_X11_lengthOf_4 {s4 : xW} {l1_1 : Int} {q : Int} {k : Int → Int → Option (Int)} (hk : ∀ (l2_14 : Int) (l3_15 : Int), k l2_14 l3_15 = some q → xG 1 0 0 mX11_lengthOf 43 [vR 121, vI l1_1, vI l2_14, vI l3_15] [] 155 s4 (xRv (vI q) s4)) : ∀ (f : Nat) (l2_2 : Int) (l3_3 : Int), F_X11_lengthOf_4 l1_1 s4 f l2_2 l3_3 k = some q → xG 1 0 0 mX11_lengthOf 4 [vR 121, vI l1_1, vI l2_2, vI l3_3] [] 155 s4 (xRv (vI q) s4) := by
  intro f
  induction f with
  | zero => intro l2_2 l3_3 h; cases h
  | succ f ih =>
    intro l2_2 l3_3 h
    unfold F_X11_lengthOf_4 at h
    refine g_iln dX11_lengthOf_4 rfl rfl ?_
    refine g_aln dX11_lengthOf_5 rfl rfl (by decide) ?_
    refine g_getI 4 dX11_lengthOf_6 fl_X11_136 rfl rfl ?_
    refine g_wge dX11_lengthOf_9 (tgt := 43) rfl rfl rfl (fun q5 => ?_) (fun q5 => ?_)
    · replace h := xif_f q5 h
      exact hk l2_2 l3_3 h
    · replace h := xif_t q5 h
      refine g_iln dX11_lengthOf_12 rfl rfl ?_
      refine g_iln dX11_lengthOf_13 rfl rfl ?_
      refine g_wi2l dX11_lengthOf_14 rfl ?_
      refine g_iln dX11_lengthOf_15 rfl rfl ?_
      obtain ⟨r7, e6, h⟩ := xbp_e h
      refine g_cS2v dX11_lengthOf_16 ml_X11_403 (s_X11_has e6) (by decide) rfl ?_
      obtain ⟨j9, ej10, h⟩ := xjn_e h
      have hj11 : ∀ (t8 : Int), j9 t8 = some q → xG 1 0 0 mX11_lengthOf 35 [vR 121, vI l1_1, vX, vI l3_3] [vI t8, vI l2_2] 155 s4 (xRv (vI q) s4) := by
        intro t8 h
        rw [ej10] at h
        refine g_iadd dX11_lengthOf_35 ?_
        refine g_istn_2 dX11_lengthOf_36 (by decide) rfl ?_
        refine g_inc_3 dX11_lengthOf_37 (by decide) rfl ?_
        refine g_goto dX11_lengthOf_40 (tgt := 4) rfl ?_
        exact ih (l2_2 + t8) (l3_3 + 1) h
      clear ej10
      refine g_yeq dX11_lengthOf_19 (tgt := 34) rfl rfl (fun q12 => ?_) (fun q12 => ?_)
      · replace h := xif_f q12 h
        refine g_ic dX11_lengthOf_34 ?_
        refine g_drop_2 ?_
        exact hj11 0 h
      · replace h := xif_t q12 h
        refine g_aln dX11_lengthOf_22 rfl rfl (by decide) ?_
        refine g_getC 127 dX11_lengthOf_23 fl_X11_47 rfl (by decide) ?_
        refine g_bi dX11_lengthOf_26 (by decide) ?_
        refine g_iln dX11_lengthOf_28 rfl rfl ?_
        refine g_iadd dX11_lengthOf_29 ?_
        obtain ⟨hg13, h⟩ := xgd_e h
        refine g_iald 40 dX11_lengthOf_30 rfl hg13 (by decide) ?_
        refine g_goto dX11_lengthOf_31 (tgt := 35) rfl ?_
        refine g_drop_2 ?_
        exact hj11 (s4 127 (24 + l3_3)) h
theorem s_X11_lengthOf {a1 : Int} {s0 : xW} {q : Int} (h : F_X11_lengthOf a1 s0 = some q) : xC 1 0 0 mX11_lengthOf [vR 121, vI a1] 155 s0 (xRv (vI q) s0) := by
  refine xC.of [vR 121, vI a1, vX, vX] (by decide +kernel) (Nat.le_of_ble_eq_true rfl) rfl ?_
  unfold F_X11_lengthOf at h
  refine g_ic dX11_lengthOf_0 ?_
  refine g_istn_2 dX11_lengthOf_1 (by decide) rfl ?_
  refine g_ic dX11_lengthOf_2 ?_
  refine g_istn_3 dX11_lengthOf_3 (by decide) rfl ?_
  refine s_X11_lengthOf_4 (fun l2_16 l3_17 h => ?_) xN _ _ h
  refine g_iln dX11_lengthOf_43 rfl rfl ?_
  exact g_pI rfl dX11_lengthOf_44 h
theorem dX11_longest_0 : decode cX11_longest 0 = .ok (.aload_n 0, 1) := by decide +kernel
theorem dX11_longest_1 : decode cX11_longest 1 = .ok (.iconst 0, 1) := by decide +kernel
theorem dX11_longest_2 : decode cX11_longest 2 = .ok (.putfield 3, 3) := by decide +kernel
theorem dX11_longest_5 : decode cX11_longest 5 = .ok (.aload_n 0, 1) := by decide +kernel
theorem dX11_longest_6 : decode cX11_longest 6 = .ok (.invokevirtual 407, 3) := by decide +kernel
theorem dX11_longest_9 : decode cX11_longest 9 = .ok (.iconst 0, 1) := by decide +kernel
theorem dX11_longest_10 : decode cX11_longest 10 = .ok (.istore_n 1, 1) := by decide +kernel
theorem dX11_longest_11 : decode cX11_longest 11 = .ok (.iconst 1, 1) := by decide +kernel
theorem dX11_longest_12 : decode cX11_longest 12 = .ok (.istore_n 2, 1) := by decide +kernel
theorem dX11_longest_13 : decode cX11_longest 13 = .ok (.iload_n 2, 1) := by decide +kernel
theorem dX11_longest_14 : decode cX11_longest 14 = .ok (.iconst 1, 1) := by decide +kernel
theorem dX11_longest_15 : decode cX11_longest 15 = .ok (.aload_n 0, 1) := by decide +kernel
theorem dX11_longest_16 : decode cX11_longest 16 = .ok (.getfield 136, 3) := by decide +kernel
theorem dX11_longest_19 : decode cX11_longest 19 = .ok (.ishl, 1) := by decide +kernel
theorem dX11_longest_20 : decode cX11_longest 20 = .ok (.if_icmp .ge 66, 3) := by decide +kernel
theorem dX11_longest_23 : decode cX11_longest 23 = .ok (.aload_n 0, 1) := by decide +kernel
theorem dX11_longest_24 : decode cX11_longest 24 = .ok (.iload_n 2, 1) := by decide +kernel
theorem dX11_longest_25 : decode cX11_longest 25 = .ok (.invokevirtual 416, 3) := by decide +kernel
theorem dX11_longest_28 : decode cX11_longest 28 = .ok (.aload_n 0, 1) := by decide +kernel
theorem dX11_longest_29 : decode cX11_longest 29 = .ok (.iload_n 1, 1) := by decide +kernel
theorem dX11_longest_30 : decode cX11_longest 30 = .ok (.invokevirtual 416, 3) := by decide +kernel
theorem dX11_longest_33 : decode cX11_longest 33 = .ok (.isub, 1) := by decide +kernel
theorem dX11_longest_34 : decode cX11_longest 34 = .ok (.istore_n 3, 1) := by decide +kernel
theorem dX11_longest_35 : decode cX11_longest 35 = .ok (.iload_n 3, 1) := by decide +kernel
theorem dX11_longest_36 : decode cX11_longest 36 = .ok (.ifCond .gt 18, 3) := by decide +kernel
theorem dX11_longest_39 : decode cX11_longest 39 = .ok (.iload_n 3, 1) := by decide +kernel
theorem dX11_longest_40 : decode cX11_longest 40 = .ok (.ifCond .ne 18, 3) := by decide +kernel
theorem dX11_longest_43 : decode cX11_longest 43 = .ok (.iload_n 2, 1) := by decide +kernel
theorem dX11_longest_44 : decode cX11_longest 44 = .ok (.invokestatic 310, 3) := by decide +kernel
theorem dX11_longest_47 : decode cX11_longest 47 = .ok (.iload_n 1, 1) := by decide +kernel
theorem dX11_longest_48 : decode cX11_longest 48 = .ok (.invokestatic 310, 3) := by decide +kernel
theorem dX11_longest_51 : decode cX11_longest 51 = .ok (.if_icmp .le 7, 3) := by decide +kernel
theorem dX11_longest_54 : decode cX11_longest 54 = .ok (.iconst 1, 1) := by decide +kernel
theorem dX11_longest_55 : decode cX11_longest 55 = .ok (.goto 4, 3) := by decide +kernel
theorem dX11_longest_58 : decode cX11_longest 58 = .ok (.iconst 0, 1) := by decide +kernel
theorem dX11_longest_59 : decode cX11_longest 59 = .ok (.istore 4, 2) := by decide +kernel
theorem dX11_longest_61 : decode cX11_longest 61 = .ok (.iload 4, 2) := by decide +kernel
theorem dX11_longest_63 : decode cX11_longest 63 = .ok (.ifCond .eq 15, 3) := by decide +kernel
theorem dX11_longest_66 : decode cX11_longest 66 = .ok (.aload_n 0, 1) := by decide +kernel
theorem dX11_longest_67 : decode cX11_longest 67 = .ok (.iload_n 2, 1) := by decide +kernel
theorem dX11_longest_68 : decode cX11_longest 68 = .ok (.invokevirtual 413, 3) := by decide +kernel
theorem dX11_longest_71 : decode cX11_longest 71 = .ok (.ifCond .eq 7, 3) := by decide +kernel
theorem dX11_longest_74 : decode cX11_longest 74 = .ok (.iload_n 2, 1) := by decide +kernel
theorem dX11_longest_75 : decode cX11_longest 75 = .ok (.goto 4, 3) := by decide +kernel
theorem dX11_longest_78 : decode cX11_longest 78 = .ok (.iload_n 1, 1) := by decide +kernel
theorem dX11_longest_79 : decode cX11_longest 79 = .ok (.istore_n 1, 1) := by decide +kernel
theorem dX11_longest_80 : decode cX11_longest 80 = .ok (.iinc 2 1, 3) := by decide +kernel
theorem dX11_longest_83 : decode cX11_longest 83 = .ok (.goto (-70), 3) := by decide +kernel
theorem dX11_longest_86 : decode cX11_longest 86 = .ok (.aload_n 0, 1) := by decide +kernel
theorem dX11_longest_87 : decode cX11_longest 87 = .ok (.iconst 0, 1) := by decide +kernel
theorem dX11_longest_88 : decode cX11_longest 88 = .ok (.putfield 15, 3) := by decide +kernel
theorem dX11_longest_91 : decode cX11_longest 91 = .ok (.aload_n 0, 1) := by decide +kernel
theorem dX11_longest_92 : decode cX11_longest 92 = .ok (.iload_n 1, 1) := by decide +kernel
theorem dX11_longest_93 : decode cX11_longest 93 = .ok (.i2l, 1) := by decide +kernel
theorem dX11_longest_94 : decode cX11_longest 94 = .ok (.invokevirtual 18, 3) := by decide +kernel
theorem dX11_longest_97 : decode cX11_longest 97 = .ok (.aload_n 0, 1) := by decide +kernel
theorem dX11_longest_98 : decode cX11_longest 98 = .ok (.iload_n 1, 1) := by decide +kernel
theorem dX11_longest_99 : decode cX11_longest 99 = .ok (.invokevirtual 416, 3) := by decide +kernel
theorem dX11_longest_102 : decode cX11_longest 102 = .ok (.ireturn, 1) := by decide +kernel
theorem s_X11_longest_13 {s7 : xW} {q : Int × xW} {k : Int → Int → Option (Int × xW)} (hk : ∀ (l1_37 : Int) (l2_38 : Int), k l1_37 l2_38 = some q → xG 7 0 0 mX11_longest 86 [vR 121, vI l1_37, vI l2_38, vX, vX] [] 155 s7 (xRv (vI q.1) q.2)) : ∀ (f : Nat) (l1_5 : Int) (l2_6 : Int), F_X11_longest_13 s7 f l1_5 l2_6 k = some q → xG 7 0 0 mX11_longest 13 [vR 121, vI l1_5, vI l2_6, vX, vX] [] 155 s7 (xRv (vI q.1) q.2) := by
  intro f
  induction f with
  | zero => intro l1_5 l2_6 h; cases h
  | succ f ih =>
    intro l1_5 l2_6 h
    unfold F_X11_longest_13 at h
    refine g_iln dX11_longest_13 rfl rfl ?_
    refine g_ic dX11_longest_14 ?_
    refine g_aln dX11_longest_15 rfl rfl (by decide) ?_
    refine g_getI 4 dX11_longest_16 fl_X11_136 rfl rfl ?_
    refine g_ishl dX11_longest_19 ?_
    refine g_wge dX11_longest_20 (tgt := 86) rfl rfl rfl (fun q8 => ?_) (fun q8 => ?_)
    · replace h := xif_f q8 h
      exact hk l1_5 l2_6 h
    · replace h := xif_t q8 h
      refine g_aln dX11_longest_23 rfl rfl (by decide) ?_
      refine g_iln dX11_longest_24 rfl rfl ?_
      obtain ⟨r10, e9, h⟩ := xbp_e h
      refine g_cV1v dX11_longest_25 ml_X11_416 rfl (s_X11_lengthOf e9) (by decide) rfl ?_
      refine g_aln dX11_longest_28 rfl rfl (by decide) ?_
      refine g_iln dX11_longest_29 rfl rfl ?_
      obtain ⟨r12, e11, h⟩ := xbp_e h
      refine g_cV1v dX11_longest_30 ml_X11_416 rfl (s_X11_lengthOf e11) (by decide) rfl ?_
      refine g_isub dX11_longest_33 ?_
      refine g_istn_3 dX11_longest_34 (by decide) rfl ?_
      refine g_iln dX11_longest_35 rfl rfl ?_
      obtain ⟨j14, ej15, h⟩ := xjn_e h
      have hj16 : ∀ (t13 : Int), j14 t13 = some q → xG 7 0 0 mX11_longest 59 [vR 121, vI l1_5, vI l2_6, vX, vX] [vI t13] 155 s7 (xRv (vI q.1) q.2) := by
        intro t13 h
        rw [ej15] at h
        refine g_ist_4 dX11_longest_59 (by decide) rfl ?_
        refine g_il dX11_longest_61 rfl ?_
        obtain ⟨j18, ej19, h⟩ := xjn_e h
        have hj20 : ∀ (t17 : Int), j18 t17 = some q → xG 7 0 0 mX11_longest 79 [vR 121, vX, vI l2_6, vX, vX] [vI t17] 155 s7 (xRv (vI q.1) q.2) := by
          intro t17 h
          rw [ej19] at h
          refine g_istn_1 dX11_longest_79 (by decide) rfl ?_
          refine g_inc_2 dX11_longest_80 (by decide) rfl ?_
          refine g_goto dX11_longest_83 (tgt := 13) rfl ?_
          exact ih t17 (l2_6 + 1) h
        clear ej19
        obtain ⟨j21, ej22, h⟩ := xjn_e h
        have hj23 : j21  = some q → xG 7 0 0 mX11_longest 78 [vR 121, vI l1_5, vI l2_6, vX, vX] [] 155 s7 (xRv (vI q.1) q.2) := by
          intro  h
          rw [ej22] at h
          refine g_iln dX11_longest_78 rfl rfl ?_
          refine g_drop_1 ?_
          exact hj20 l1_5 h
        clear ej22
        refine g_yeq dX11_longest_63 (tgt := 78) rfl rfl (fun q24 => ?_) (fun q24 => ?_)
        · replace h := xif_f q24 h
          refine g_drop_4 ?_
          exact hj23  h
        · replace h := xif_t q24 h
          refine g_aln dX11_longest_66 rfl rfl (by decide) ?_
          refine g_iln dX11_longest_67 rfl rfl ?_
          obtain ⟨r26, e25, h⟩ := xbp_e h
          refine g_cV1v dX11_longest_68 ml_X11_413 rfl (s_X11_isPeace e25) (by decide) rfl ?_
          refine g_yeq dX11_longest_71 (tgt := 78) rfl rfl (fun q27 => ?_) (fun q27 => ?_)
          · replace h := xif_f q27 h
            refine g_drop_4 ?_
            exact hj23  h
          · replace h := xif_t q27 h
            refine g_iln dX11_longest_74 rfl rfl ?_
            refine g_goto dX11_longest_75 (tgt := 79) rfl ?_
            refine g_drop_1 ?_
            refine g_drop_4 ?_
            exact hj20 l2_6 h
      clear ej15
      obtain ⟨j28, ej29, h⟩ := xjn_e h
      have hj30 : j28  = some q → xG 7 0 0 mX11_longest 54 [vR 121, vI l1_5, vI l2_6, vX, vX] [] 155 s7 (xRv (vI q.1) q.2) := by
        intro  h
        rw [ej29] at h
        refine g_ic dX11_longest_54 ?_
        refine g_goto dX11_longest_55 (tgt := 59) rfl ?_
        exact hj16 1 h
      clear ej29
      refine g_ygt dX11_longest_36 (tgt := 54) rfl rfl (fun q31 => ?_) (fun q31 => ?_)
      · replace h := xif_f q31 h
        refine g_drop_3 ?_
        exact hj30  h
      · replace h := xif_t q31 h
        refine g_iln dX11_longest_39 rfl rfl ?_
        obtain ⟨j32, ej33, h⟩ := xjn_e h
        have hj34 : j32  = some q → xG 7 0 0 mX11_longest 58 [vR 121, vI l1_5, vI l2_6, vX, vX] [] 155 s7 (xRv (vI q.1) q.2) := by
          intro  h
          rw [ej33] at h
          refine g_ic dX11_longest_58 ?_
          exact hj16 0 h
        clear ej33
        refine g_yne dX11_longest_40 (tgt := 58) rfl rfl (fun q35 => ?_) (fun q35 => ?_)
        · replace h := xif_f q35 h
          refine g_drop_3 ?_
          exact hj34  h
        · replace h := xif_t q35 h
          refine g_iln dX11_longest_43 rfl rfl ?_
          refine g_bitc dX11_longest_44 bc_X11_310 (by decide) rfl ?_
          refine g_iln dX11_longest_47 rfl rfl ?_
          refine g_bitc dX11_longest_48 bc_X11_310 (by decide) rfl ?_
          refine g_wle dX11_longest_51 (tgt := 58) rfl rfl rfl (fun q36 => ?_) (fun q36 => ?_)
          · replace h := xif_f q36 h
            refine g_drop_3 ?_
            exact hj34  h
          · replace h := xif_t q36 h
            refine g_drop_3 ?_
            exact hj30  h
theorem s_X11_longest {s0 : xW} {q : Int × xW} (h : F_X11_longest  s0 = some q) : xC 7 0 0 mX11_longest [vR 121] 155 s0 (xRv (vI q.1) q.2) := by
  refine xC.of [vR 121, vX, vX, vX, vX] (by decide +kernel) (Nat.le_of_ble_eq_true rfl) rfl ?_
  unfold F_X11_longest at h
  refine g_aln dX11_longest_0 rfl rfl (by decide) ?_
  refine g_ic dX11_longest_1 ?_
  obtain ⟨s1, e2, h⟩ := xlt_e h
  refine h_putI 0 dX11_longest_2 fl_X11_3 rfl rfl e2 ?_
  refine g_aln dX11_longest_5 rfl rfl (by decide) ?_
  obtain ⟨s4, e3, h⟩ := xbp_e h
  refine g_cV00 dX11_longest_6 ml_X11_407 rfl (s_X11_laysFoes e3) (by decide) rfl ?_
  refine g_ic dX11_longest_9 ?_
  refine g_istn_1 dX11_longest_10 (by decide) rfl ?_
  refine g_ic dX11_longest_11 ?_
  refine g_istn_2 dX11_longest_12 (by decide) rfl ?_
  refine s_X11_longest_13 (fun l1_39 l2_40 h => ?_) xN _ _ h
  refine g_aln dX11_longest_86 rfl rfl (by decide) ?_
  refine g_ic dX11_longest_87 ?_
  obtain ⟨s41, e42, h⟩ := xlt_e h
  refine h_putI 1 dX11_longest_88 fl_X11_15 rfl rfl e42 ?_
  refine g_aln dX11_longest_91 rfl rfl (by decide) ?_
  refine g_iln dX11_longest_92 rfl rfl ?_
  refine g_wi2l dX11_longest_93 rfl ?_
  obtain ⟨s44, e43, h⟩ := xbp_e h
  refine g_cV10 dX11_longest_94 ml_X11_18 rfl (s_X11_enters e43) (by decide) rfl ?_
  refine g_aln dX11_longest_97 rfl rfl (by decide) ?_
  refine g_iln dX11_longest_98 rfl rfl ?_
  obtain ⟨r46, e45, h⟩ := xbp_e h
  refine g_cV1v dX11_longest_99 ml_X11_416 rfl (s_X11_lengthOf e45) (by decide) rfl ?_
  exact g_rI rfl dX11_longest_102 h
theorem dX11_menders_0 : decode cX11_menders 0 = .ok (.aload_n 0, 1) := by decide +kernel
theorem dX11_menders_1 : decode cX11_menders 1 = .ok (.iconst 0, 1) := by decide +kernel
theorem dX11_menders_2 : decode cX11_menders 2 = .ok (.putfield 3, 3) := by decide +kernel
theorem dX11_menders_5 : decode cX11_menders 5 = .ok (.iload_n 1, 1) := by decide +kernel
theorem dX11_menders_6 : decode cX11_menders 6 = .ok (.i2l, 1) := by decide +kernel
theorem dX11_menders_7 : decode cX11_menders 7 = .ok (.lconst 0, 1) := by decide +kernel
theorem dX11_menders_8 : decode cX11_menders 8 = .ok (.ldc2_w 431, 3) := by decide +kernel
theorem dX11_menders_11 : decode cX11_menders 11 = .ok (.invokestatic 132, 3) := by decide +kernel
theorem dX11_menders_14 : decode cX11_menders 14 = .ok (.ifCond .ne 5, 3) := by decide +kernel
theorem dX11_menders_17 : decode cX11_menders 17 = .ok (.iconst (-1), 1) := by decide +kernel
theorem dX11_menders_18 : decode cX11_menders 18 = .ok (.ireturn, 1) := by decide +kernel
theorem dX11_menders_19 : decode cX11_menders 19 = .ok (.iconst (-1), 1) := by decide +kernel
theorem dX11_menders_20 : decode cX11_menders 20 = .ok (.istore_n 2, 1) := by decide +kernel
theorem dX11_menders_21 : decode cX11_menders 21 = .ok (.iconst 0, 1) := by decide +kernel
theorem dX11_menders_22 : decode cX11_menders 22 = .ok (.istore_n 3, 1) := by decide +kernel
theorem dX11_menders_23 : decode cX11_menders 23 = .ok (.iload_n 3, 1) := by decide +kernel
theorem dX11_menders_24 : decode cX11_menders 24 = .ok (.iconst 1, 1) := by decide +kernel
theorem dX11_menders_25 : decode cX11_menders 25 = .ok (.aload_n 0, 1) := by decide +kernel
theorem dX11_menders_26 : decode cX11_menders 26 = .ok (.getfield 129, 3) := by decide +kernel
theorem dX11_menders_29 : decode cX11_menders 29 = .ok (.ishl, 1) := by decide +kernel
theorem dX11_menders_30 : decode cX11_menders 30 = .ok (.if_icmp .ge 138, 3) := by decide +kernel
theorem dX11_menders_33 : decode cX11_menders 33 = .ok (.iload_n 3, 1) := by decide +kernel
theorem dX11_menders_34 : decode cX11_menders 34 = .ok (.iload_n 2, 1) := by decide +kernel
theorem dX11_menders_35 : decode cX11_menders 35 = .ok (.invokestatic 410, 3) := by decide +kernel
theorem dX11_menders_38 : decode cX11_menders 38 = .ok (.istore 4, 2) := by decide +kernel
theorem dX11_menders_40 : decode cX11_menders 40 = .ok (.iconst 0, 1) := by decide +kernel
theorem dX11_menders_41 : decode cX11_menders 41 = .ok (.istore 5, 2) := by decide +kernel
theorem dX11_menders_43 : decode cX11_menders 43 = .ok (.iload 5, 2) := by decide +kernel
theorem dX11_menders_45 : decode cX11_menders 45 = .ok (.aload_n 0, 1) := by decide +kernel
theorem dX11_menders_46 : decode cX11_menders 46 = .ok (.getfield 129, 3) := by decide +kernel
theorem dX11_menders_49 : decode cX11_menders 49 = .ok (.if_icmp .ge 102, 3) := by decide +kernel
theorem dX11_menders_52 : decode cX11_menders 52 = .ok (.iload 4, 2) := by decide +kernel
theorem dX11_menders_54 : decode cX11_menders 54 = .ok (.ifCond .eq 97, 3) := by decide +kernel
theorem dX11_menders_57 : decode cX11_menders 57 = .ok (.iconst 0, 1) := by decide +kernel
theorem dX11_menders_58 : decode cX11_menders 58 = .ok (.istore 6, 2) := by decide +kernel
theorem dX11_menders_60 : decode cX11_menders 60 = .ok (.iconst 0, 1) := by decide +kernel
theorem dX11_menders_61 : decode cX11_menders 61 = .ok (.istore 7, 2) := by decide +kernel
theorem dX11_menders_63 : decode cX11_menders 63 = .ok (.iload 7, 2) := by decide +kernel
theorem dX11_menders_65 : decode cX11_menders 65 = .ok (.aload_n 0, 1) := by decide +kernel
theorem dX11_menders_66 : decode cX11_menders 66 = .ok (.getfield 129, 3) := by decide +kernel
theorem dX11_menders_69 : decode cX11_menders 69 = .ok (.if_icmp .ge 72, 3) := by decide +kernel
theorem dX11_menders_72 : decode cX11_menders 72 = .ok (.iload 6, 2) := by decide +kernel
theorem dX11_menders_74 : decode cX11_menders 74 = .ok (.ifCond .ne 54, 3) := by decide +kernel
theorem dX11_menders_77 : decode cX11_menders 77 = .ok (.iload_n 3, 1) := by decide +kernel
theorem dX11_menders_78 : decode cX11_menders 78 = .ok (.i2l, 1) := by decide +kernel
theorem dX11_menders_79 : decode cX11_menders 79 = .ok (.iload 7, 2) := by decide +kernel
theorem dX11_menders_81 : decode cX11_menders 81 = .ok (.invokestatic 403, 3) := by decide +kernel
theorem dX11_menders_84 : decode cX11_menders 84 = .ok (.ifCond .eq 48, 3) := by decide +kernel
theorem dX11_menders_87 : decode cX11_menders 87 = .ok (.aload_n 0, 1) := by decide +kernel
theorem dX11_menders_88 : decode cX11_menders 88 = .ok (.getfield 47, 3) := by decide +kernel
theorem dX11_menders_91 : decode cX11_menders 91 = .ok (.iload 5, 2) := by decide +kernel
theorem dX11_menders_93 : decode cX11_menders 93 = .ok (.iaload, 1) := by decide +kernel
theorem dX11_menders_94 : decode cX11_menders 94 = .ok (.aload_n 0, 1) := by decide +kernel
theorem dX11_menders_95 : decode cX11_menders 95 = .ok (.getfield 47, 3) := by decide +kernel
theorem dX11_menders_98 : decode cX11_menders 98 = .ok (.bipush 8, 2) := by decide +kernel
theorem dX11_menders_100 : decode cX11_menders 100 = .ok (.iload 5, 2) := by decide +kernel
theorem dX11_menders_102 : decode cX11_menders 102 = .ok (.iadd, 1) := by decide +kernel
theorem dX11_menders_103 : decode cX11_menders 103 = .ok (.iaload, 1) := by decide +kernel
theorem dX11_menders_104 : decode cX11_menders 104 = .ok (.aload_n 0, 1) := by decide +kernel
theorem dX11_menders_105 : decode cX11_menders 105 = .ok (.getfield 47, 3) := by decide +kernel
theorem dX11_menders_108 : decode cX11_menders 108 = .ok (.iload 7, 2) := by decide +kernel
theorem dX11_menders_110 : decode cX11_menders 110 = .ok (.iaload, 1) := by decide +kernel
theorem dX11_menders_111 : decode cX11_menders 111 = .ok (.aload_n 0, 1) := by decide +kernel
theorem dX11_menders_112 : decode cX11_menders 112 = .ok (.getfield 47, 3) := by decide +kernel
theorem dX11_menders_115 : decode cX11_menders 115 = .ok (.bipush 8, 2) := by decide +kernel
theorem dX11_menders_117 : decode cX11_menders 117 = .ok (.iload 7, 2) := by decide +kernel
theorem dX11_menders_119 : decode cX11_menders 119 = .ok (.iadd, 1) := by decide +kernel
theorem dX11_menders_120 : decode cX11_menders 120 = .ok (.iaload, 1) := by decide +kernel
theorem dX11_menders_121 : decode cX11_menders 121 = .ok (.invokestatic 272, 3) := by decide +kernel
theorem dX11_menders_124 : decode cX11_menders 124 = .ok (.iload_n 1, 1) := by decide +kernel
theorem dX11_menders_125 : decode cX11_menders 125 = .ok (.if_icmp .gt 7, 3) := by decide +kernel
theorem dX11_menders_128 : decode cX11_menders 128 = .ok (.iconst 1, 1) := by decide +kernel
theorem dX11_menders_129 : decode cX11_menders 129 = .ok (.goto 4, 3) := by decide +kernel
theorem dX11_menders_132 : decode cX11_menders 132 = .ok (.iconst 0, 1) := by decide +kernel
theorem dX11_menders_133 : decode cX11_menders 133 = .ok (.istore 6, 2) := by decide +kernel
theorem dX11_menders_135 : decode cX11_menders 135 = .ok (.iinc 7 1, 3) := by decide +kernel
theorem dX11_menders_138 : decode cX11_menders 138 = .ok (.goto (-75), 3) := by decide +kernel
theorem dX11_menders_141 : decode cX11_menders 141 = .ok (.iload 6, 2) := by decide +kernel
theorem dX11_menders_143 : decode cX11_menders 143 = .ok (.istore 4, 2) := by decide +kernel
theorem dX11_menders_145 : decode cX11_menders 145 = .ok (.iinc 5 1, 3) := by decide +kernel
theorem dX11_menders_148 : decode cX11_menders 148 = .ok (.goto (-105), 3) := by decide +kernel
theorem dX11_menders_151 : decode cX11_menders 151 = .ok (.iload 4, 2) := by decide +kernel
theorem dX11_menders_153 : decode cX11_menders 153 = .ok (.ifCond .eq 7, 3) := by decide +kernel
theorem dX11_menders_156 : decode cX11_menders 156 = .ok (.iload_n 3, 1) := by decide +kernel
theorem dX11_menders_157 : decode cX11_menders 157 = .ok (.goto 4, 3) := by decide +kernel
theorem dX11_menders_160 : decode cX11_menders 160 = .ok (.iload_n 2, 1) := by decide +kernel
theorem dX11_menders_161 : decode cX11_menders 161 = .ok (.istore_n 2, 1) := by decide +kernel
theorem dX11_menders_162 : decode cX11_menders 162 = .ok (.iinc 3 1, 3) := by decide +kernel
theorem dX11_menders_165 : decode cX11_menders 165 = .ok (.goto (-142), 3) := by decide +kernel
theorem dX11_menders_168 : decode cX11_menders 168 = .ok (.aload_n 0, 1) := by decide +kernel
theorem dX11_menders_169 : decode cX11_menders 169 = .ok (.iconst 0, 1) := by decide +kernel
theorem dX11_menders_170 : decode cX11_menders 170 = .ok (.putfield 15, 3) := by decide +kernel
theorem dX11_menders_173 : decode cX11_menders 173 = .ok (.aload_n 0, 1) := by decide +kernel
theorem dX11_menders_174 : decode cX11_menders 174 = .ok (.iload_n 2, 1) := by decide +kernel
theorem dX11_menders_175 : decode cX11_menders 175 = .ok (.i2l, 1) := by decide +kernel
theorem dX11_menders_176 : decode cX11_menders 176 = .ok (.invokevirtual 18, 3) := by decide +kernel
theorem dX11_menders_179 : decode cX11_menders 179 = .ok (.iload_n 2, 1) := by decide +kernel
theorem dX11_menders_180 : decode cX11_menders 180 = .ok (.invokestatic 310, 3) := by decide +kernel
theorem dX11_menders_183 : decode cX11_menders 183 = .ok (.ireturn, 1) := by decide +kernel
theorem s_X11_menders_63 {s27 : xW} {l1_21 l2_22 l3_23 l5_24 : Int} {q : Int × xW} {k : Int → Int → Option (Int × xW)} (hk : ∀ (l6_50 : Int) (l7_51 : Int), k l6_50 l7_51 = some q → xG 2 0 0 mX11_menders 141 [vR 121, vI l1_21, vI l2_22, vI l3_23, vX, vI l5_24, vI l6_50, vI l7_51] [] 155 s27 (xRv (vI q.1) q.2)) : ∀ (f : Nat) (l6_25 : Int) (l7_26 : Int), F_X11_menders_63 l1_21 l2_22 l3_23 l5_24 s27 f l6_25 l7_26 k = some q → xG 2 0 0 mX11_menders 63 [vR 121, vI l1_21, vI l2_22, vI l3_23, vX, vI l5_24, vI l6_25, vI l7_26] [] 155 s27 (xRv (vI q.1) q.2) := by
  intro f
  induction f with
  | zero => intro l6_25 l7_26 h; cases h
  | succ f ih =>
    intro l6_25 l7_26 h
    unfold F_X11_menders_63 at h
    refine g_il dX11_menders_63 rfl ?_
    refine g_aln dX11_menders_65 rfl rfl (by decide) ?_
    refine g_getI 3 dX11_menders_66 fl_X11_129 rfl rfl ?_
    refine g_wge dX11_menders_69 (tgt := 141) rfl rfl rfl (fun q28 => ?_) (fun q28 => ?_)
    · replace h := xif_f q28 h
      exact hk l6_25 l7_26 h
    · replace h := xif_t q28 h
      refine g_il dX11_menders_72 rfl ?_
      obtain ⟨j30, ej31, h⟩ := xjn_e h
      have hj32 : ∀ (t29 : Int), j30 t29 = some q → xG 2 0 0 mX11_menders 133 [vR 121, vI l1_21, vI l2_22, vI l3_23, vX, vI l5_24, vX, vI l7_26] [vI t29] 155 s27 (xRv (vI q.1) q.2) := by
        intro t29 h
        rw [ej31] at h
        refine g_ist_6 dX11_menders_133 (by decide) rfl ?_
        refine g_inc_7 dX11_menders_135 (by decide) rfl ?_
        refine g_goto dX11_menders_138 (tgt := 63) rfl ?_
        exact ih t29 (l7_26 + 1) h
      clear ej31
      obtain ⟨j33, ej34, h⟩ := xjn_e h
      have hj35 : j33  = some q → xG 2 0 0 mX11_menders 128 [vR 121, vI l1_21, vI l2_22, vI l3_23, vX, vI l5_24, vX, vI l7_26] [] 155 s27 (xRv (vI q.1) q.2) := by
        intro  h
        rw [ej34] at h
        refine g_ic dX11_menders_128 ?_
        refine g_goto dX11_menders_129 (tgt := 133) rfl ?_
        exact hj32 1 h
      clear ej34
      refine g_yne dX11_menders_74 (tgt := 128) rfl rfl (fun q36 => ?_) (fun q36 => ?_)
      · replace h := xif_f q36 h
        refine g_drop_6 ?_
        exact hj35  h
      · replace h := xif_t q36 h
        refine g_iln dX11_menders_77 rfl rfl ?_
        refine g_wi2l dX11_menders_78 rfl ?_
        refine g_il dX11_menders_79 rfl ?_
        obtain ⟨r38, e37, h⟩ := xbp_e h
        refine g_cS2v dX11_menders_81 ml_X11_403 (s_X11_has e37) (by decide) rfl ?_
        obtain ⟨j39, ej40, h⟩ := xjn_e h
        have hj41 : j39  = some q → xG 2 0 0 mX11_menders 132 [vR 121, vI l1_21, vI l2_22, vI l3_23, vX, vI l5_24, vX, vI l7_26] [] 155 s27 (xRv (vI q.1) q.2) := by
          intro  h
          rw [ej40] at h
          refine g_ic dX11_menders_132 ?_
          exact hj32 0 h
        clear ej40
        refine g_yeq dX11_menders_84 (tgt := 132) rfl rfl (fun q42 => ?_) (fun q42 => ?_)
        · replace h := xif_f q42 h
          refine g_drop_6 ?_
          exact hj41  h
        · replace h := xif_t q42 h
          refine g_aln dX11_menders_87 rfl rfl (by decide) ?_
          refine g_getC 127 dX11_menders_88 fl_X11_47 rfl (by decide) ?_
          refine g_il dX11_menders_91 rfl ?_
          obtain ⟨hg43, h⟩ := xgd_e h
          refine g_iald 40 dX11_menders_93 rfl hg43 (by decide) ?_
          refine g_aln dX11_menders_94 rfl rfl (by decide) ?_
          refine g_getC 127 dX11_menders_95 fl_X11_47 rfl (by decide) ?_
          refine g_bi dX11_menders_98 (by decide) ?_
          refine g_il dX11_menders_100 rfl ?_
          refine g_iadd dX11_menders_102 ?_
          obtain ⟨hg44, h⟩ := xgd_e h
          refine g_iald 40 dX11_menders_103 rfl hg44 (by decide) ?_
          refine g_aln dX11_menders_104 rfl rfl (by decide) ?_
          refine g_getC 127 dX11_menders_105 fl_X11_47 rfl (by decide) ?_
          refine g_il dX11_menders_108 rfl ?_
          obtain ⟨hg45, h⟩ := xgd_e h
          refine g_iald 40 dX11_menders_110 rfl hg45 (by decide) ?_
          refine g_aln dX11_menders_111 rfl rfl (by decide) ?_
          refine g_getC 127 dX11_menders_112 fl_X11_47 rfl (by decide) ?_
          refine g_bi dX11_menders_115 (by decide) ?_
          refine g_il dX11_menders_117 rfl ?_
          refine g_iadd dX11_menders_119 ?_
          obtain ⟨hg46, h⟩ := xgd_e h
          refine g_iald 40 dX11_menders_120 rfl hg46 (by decide) ?_
          obtain ⟨r48, e47, h⟩ := xbp_e h
          refine g_cS4v dX11_menders_121 ml_X11_272 (s_X11_far e47) (by decide) rfl ?_
          refine g_iln dX11_menders_124 rfl rfl ?_
          refine g_wgt dX11_menders_125 (tgt := 132) rfl rfl rfl (fun q49 => ?_) (fun q49 => ?_)
          · replace h := xif_f q49 h
            refine g_drop_6 ?_
            exact hj41  h
          · replace h := xif_t q49 h
            refine g_drop_6 ?_
            exact hj35  h
theorem s_X11_menders_43 {s18 : xW} {l1_13 l2_14 l3_15 : Int} {q : Int × xW} {k : Int → Int → Option (Int × xW)} (hk : ∀ (l4_54 : Int) (l5_55 : Int), k l4_54 l5_55 = some q → xG 2 0 0 mX11_menders 151 [vR 121, vI l1_13, vI l2_14, vI l3_15, vI l4_54, vI l5_55, vX, vX] [] 155 s18 (xRv (vI q.1) q.2)) : ∀ (f : Nat) (l4_16 : Int) (l5_17 : Int), F_X11_menders_43 l1_13 l2_14 l3_15 s18 f l4_16 l5_17 k = some q → xG 2 0 0 mX11_menders 43 [vR 121, vI l1_13, vI l2_14, vI l3_15, vI l4_16, vI l5_17, vX, vX] [] 155 s18 (xRv (vI q.1) q.2) := by
  intro f
  induction f with
  | zero => intro l4_16 l5_17 h; cases h
  | succ f ih =>
    intro l4_16 l5_17 h
    unfold F_X11_menders_43 at h
    refine g_il dX11_menders_43 rfl ?_
    refine g_aln dX11_menders_45 rfl rfl (by decide) ?_
    refine g_getI 3 dX11_menders_46 fl_X11_129 rfl rfl ?_
    refine g_wge dX11_menders_49 (tgt := 151) rfl rfl rfl (fun q19 => ?_) (fun q19 => ?_)
    · replace h := xif_f q19 h
      exact hk l4_16 l5_17 h
    · replace h := xif_t q19 h
      refine g_il dX11_menders_52 rfl ?_
      refine g_yeq dX11_menders_54 (tgt := 151) rfl rfl (fun q20 => ?_) (fun q20 => ?_)
      · replace h := xif_f q20 h
        exact hk l4_16 l5_17 h
      · replace h := xif_t q20 h
        refine g_ic dX11_menders_57 ?_
        refine g_ist_6 dX11_menders_58 (by decide) rfl ?_
        refine g_ic dX11_menders_60 ?_
        refine g_ist_7 dX11_menders_61 (by decide) rfl ?_
        refine g_drop_4 ?_
        refine s_X11_menders_63 (fun l6_52 l7_53 h => ?_) xN _ _ h
        refine g_il dX11_menders_141 rfl ?_
        refine g_ist_4 dX11_menders_143 (by decide) rfl ?_
        refine g_inc_5 dX11_menders_145 (by decide) rfl ?_
        refine g_goto dX11_menders_148 (tgt := 43) rfl ?_
        refine g_drop_6 ?_
        refine g_drop_7 ?_
        exact ih l6_52 (l5_17 + 1) h
theorem s_X11_menders_23 {s9 : xW} {l1_6 : Int} {q : Int × xW} {k : Int → Int → Option (Int × xW)} (hk : ∀ (l2_62 : Int) (l3_63 : Int), k l2_62 l3_63 = some q → xG 2 0 0 mX11_menders 168 [vR 121, vI l1_6, vI l2_62, vI l3_63, vX, vX, vX, vX] [] 155 s9 (xRv (vI q.1) q.2)) : ∀ (f : Nat) (l2_7 : Int) (l3_8 : Int), F_X11_menders_23 l1_6 s9 f l2_7 l3_8 k = some q → xG 2 0 0 mX11_menders 23 [vR 121, vI l1_6, vI l2_7, vI l3_8, vX, vX, vX, vX] [] 155 s9 (xRv (vI q.1) q.2) := by
  intro f
  induction f with
  | zero => intro l2_7 l3_8 h; cases h
  | succ f ih =>
    intro l2_7 l3_8 h
    unfold F_X11_menders_23 at h
    refine g_iln dX11_menders_23 rfl rfl ?_
    refine g_ic dX11_menders_24 ?_
    refine g_aln dX11_menders_25 rfl rfl (by decide) ?_
    refine g_getI 3 dX11_menders_26 fl_X11_129 rfl rfl ?_
    refine g_ishl dX11_menders_29 ?_
    refine g_wge dX11_menders_30 (tgt := 168) rfl rfl rfl (fun q10 => ?_) (fun q10 => ?_)
    · replace h := xif_f q10 h
      exact hk l2_7 l3_8 h
    · replace h := xif_t q10 h
      refine g_iln dX11_menders_33 rfl rfl ?_
      refine g_iln dX11_menders_34 rfl rfl ?_
      obtain ⟨r12, e11, h⟩ := xbp_e h
      refine g_cS2v dX11_menders_35 ml_X11_410 (s_X11_isFewer e11) (by decide) rfl ?_
      refine g_ist_4 dX11_menders_38 (by decide) rfl ?_
      refine g_ic dX11_menders_40 ?_
      refine g_ist_5 dX11_menders_41 (by decide) rfl ?_
      refine s_X11_menders_43 (fun l4_56 l5_57 h => ?_) xN _ _ h
      refine g_il dX11_menders_151 rfl ?_
      obtain ⟨v59, e60, h⟩ := xlt_e h
      have hj61 : xG 2 0 0 mX11_menders 161 [vR 121, vI l1_6, vX, vI l3_8, vX, vX, vX, vX] [vI v59] 155 s9 (xRv (vI q.1) q.2) := by
        refine g_istn_2 dX11_menders_161 (by decide) rfl ?_
        refine g_inc_3 dX11_menders_162 (by decide) rfl ?_
        refine g_goto dX11_menders_165 (tgt := 23) rfl ?_
        exact ih v59 (l3_8 + 1) h
      refine g_yeq dX11_menders_153 (tgt := 160) rfl rfl (fun c58 => ?_) (fun c58 => ?_)
      · skip
        refine g_iln dX11_menders_160 rfl rfl ?_
        refine g_drop_2 ?_
        refine g_drop_4 ?_
        refine g_drop_5 ?_
        exact g_vq ((if_neg c58).symm.trans e60) hj61
      · skip
        refine g_iln dX11_menders_156 rfl rfl ?_
        refine g_goto dX11_menders_157 (tgt := 161) rfl ?_
        refine g_drop_2 ?_
        refine g_drop_4 ?_
        refine g_drop_5 ?_
        exact g_vq ((if_pos c58).symm.trans e60) hj61
theorem s_X11_menders {a1 : Int} {s0 : xW} {q : Int × xW} (h : F_X11_menders a1 s0 = some q) : xC 2 0 0 mX11_menders [vR 121, vI a1] 155 s0 (xRv (vI q.1) q.2) := by
  refine xC.of [vR 121, vI a1, vX, vX, vX, vX, vX, vX] (by decide +kernel) (Nat.le_of_ble_eq_true rfl) rfl ?_
  unfold F_X11_menders at h
  refine g_aln dX11_menders_0 rfl rfl (by decide) ?_
  refine g_ic dX11_menders_1 ?_
  obtain ⟨s1, e2, h⟩ := xlt_e h
  refine h_putI 0 dX11_menders_2 fl_X11_3 rfl rfl e2 ?_
  refine g_iln dX11_menders_5 rfl rfl ?_
  refine g_wi2l dX11_menders_6 rfl ?_
  refine g_lc dX11_menders_7 (w := 0) rfl ?_
  refine g_ldc2 dX11_menders_8 ct_X11_431 (w := 18) rfl ?_
  obtain ⟨r4, e3, h⟩ := xbp_e h
  refine g_cS3v dX11_menders_11 ml_X11_132 (s_X11_in e3) (by decide) rfl ?_
  refine g_yne dX11_menders_14 (tgt := 19) rfl rfl (fun q5 => ?_) (fun q5 => ?_)
  · replace h := xif_f q5 h
    refine g_ic dX11_menders_19 ?_
    refine g_istn_2 dX11_menders_20 (by decide) rfl ?_
    refine g_ic dX11_menders_21 ?_
    refine g_istn_3 dX11_menders_22 (by decide) rfl ?_
    refine s_X11_menders_23 (fun l2_64 l3_65 h => ?_) xN _ _ h
    refine g_aln dX11_menders_168 rfl rfl (by decide) ?_
    refine g_ic dX11_menders_169 ?_
    obtain ⟨s66, e67, h⟩ := xlt_e h
    refine h_putI 1 dX11_menders_170 fl_X11_15 rfl rfl e67 ?_
    refine g_aln dX11_menders_173 rfl rfl (by decide) ?_
    refine g_iln dX11_menders_174 rfl rfl ?_
    refine g_wi2l dX11_menders_175 rfl ?_
    obtain ⟨s69, e68, h⟩ := xbp_e h
    refine g_cV10 dX11_menders_176 ml_X11_18 rfl (s_X11_enters e68) (by decide) rfl ?_
    refine g_iln dX11_menders_179 rfl rfl ?_
    refine g_bitc dX11_menders_180 bc_X11_310 (by decide) rfl ?_
    exact g_rI rfl dX11_menders_183 h
  · replace h := xif_t q5 h
    refine g_ic dX11_menders_17 ?_
    exact g_rI rfl dX11_menders_18 h
