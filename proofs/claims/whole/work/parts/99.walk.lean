theorem dX11_span_0 : decode cX11_span 0 = .ok (.aload_n 0, 1) := by decide +kernel
theorem dX11_span_1 : decode cX11_span 1 = .ok (.iconst 0, 1) := by decide +kernel
theorem dX11_span_2 : decode cX11_span 2 = .ok (.putfield 3, 3) := by decide +kernel
theorem dX11_span_5 : decode cX11_span 5 = .ok (.aload_n 0, 1) := by decide +kernel
theorem dX11_span_6 : decode cX11_span 6 = .ok (.getfield 136, 3) := by decide +kernel
theorem dX11_span_9 : decode cX11_span 9 = .ok (.ifCond .ne 6, 3) := by decide +kernel
theorem dX11_span_12 : decode cX11_span 12 = .ok (.bipush (-2), 2) := by decide +kernel
theorem dX11_span_14 : decode cX11_span 14 = .ok (.ireturn, 1) := by decide +kernel
theorem dX11_span_15 : decode cX11_span 15 = .ok (.aload_n 0, 1) := by decide +kernel
theorem dX11_span_16 : decode cX11_span 16 = .ok (.bipush 15, 2) := by decide +kernel
theorem dX11_span_18 : decode cX11_span 18 = .ok (.invokevirtual 397, 3) := by decide +kernel
theorem dX11_span_21 : decode cX11_span 21 = .ok (.sipush 220, 3) := by decide +kernel
theorem dX11_span_24 : decode cX11_span 24 = .ok (.istore_n 1, 1) := by decide +kernel
theorem dX11_span_25 : decode cX11_span 25 = .ok (.iconst 0, 1) := by decide +kernel
theorem dX11_span_26 : decode cX11_span 26 = .ok (.istore_n 2, 1) := by decide +kernel
theorem dX11_span_27 : decode cX11_span 27 = .ok (.iconst 0, 1) := by decide +kernel
theorem dX11_span_28 : decode cX11_span 28 = .ok (.istore_n 3, 1) := by decide +kernel
theorem dX11_span_29 : decode cX11_span 29 = .ok (.iconst 0, 1) := by decide +kernel
theorem dX11_span_30 : decode cX11_span 30 = .ok (.istore 4, 2) := by decide +kernel
theorem dX11_span_32 : decode cX11_span 32 = .ok (.iload 4, 2) := by decide +kernel
theorem dX11_span_34 : decode cX11_span 34 = .ok (.sipush 220, 3) := by decide +kernel
theorem dX11_span_37 : decode cX11_span 37 = .ok (.if_icmp .ge 34, 3) := by decide +kernel
theorem dX11_span_40 : decode cX11_span 40 = .ok (.aload_n 0, 1) := by decide +kernel
theorem dX11_span_41 : decode cX11_span 41 = .ok (.getfield 92, 3) := by decide +kernel
theorem dX11_span_44 : decode cX11_span 44 = .ok (.iload 4, 2) := by decide +kernel
theorem dX11_span_46 : decode cX11_span 46 = .ok (.iaload, 1) := by decide +kernel
theorem dX11_span_47 : decode cX11_span 47 = .ok (.ifCond .le 18, 3) := by decide +kernel
theorem dX11_span_50 : decode cX11_span 50 = .ok (.iload_n 1, 1) := by decide +kernel
theorem dX11_span_51 : decode cX11_span 51 = .ok (.iload 4, 2) := by decide +kernel
theorem dX11_span_53 : decode cX11_span 53 = .ok (.invokestatic 150, 3) := by decide +kernel
theorem dX11_span_56 : decode cX11_span 56 = .ok (.istore_n 1, 1) := by decide +kernel
theorem dX11_span_57 : decode cX11_span 57 = .ok (.iload 4, 2) := by decide +kernel
theorem dX11_span_59 : decode cX11_span 59 = .ok (.iconst 1, 1) := by decide +kernel
theorem dX11_span_60 : decode cX11_span 60 = .ok (.iadd, 1) := by decide +kernel
theorem dX11_span_61 : decode cX11_span 61 = .ok (.istore_n 2, 1) := by decide +kernel
theorem dX11_span_62 : decode cX11_span 62 = .ok (.iinc 3 1, 3) := by decide +kernel
theorem dX11_span_65 : decode cX11_span 65 = .ok (.iinc 4 1, 3) := by decide +kernel
theorem dX11_span_68 : decode cX11_span 68 = .ok (.goto (-36), 3) := by decide +kernel
theorem dX11_span_71 : decode cX11_span 71 = .ok (.aload_n 0, 1) := by decide +kernel
theorem dX11_span_72 : decode cX11_span 72 = .ok (.iconst 0, 1) := by decide +kernel
theorem dX11_span_73 : decode cX11_span 73 = .ok (.putfield 15, 3) := by decide +kernel
theorem dX11_span_76 : decode cX11_span 76 = .ok (.aload_n 0, 1) := by decide +kernel
theorem dX11_span_77 : decode cX11_span 77 = .ok (.iload_n 1, 1) := by decide +kernel
theorem dX11_span_78 : decode cX11_span 78 = .ok (.i2l, 1) := by decide +kernel
theorem dX11_span_79 : decode cX11_span 79 = .ok (.invokevirtual 18, 3) := by decide +kernel
theorem dX11_span_82 : decode cX11_span 82 = .ok (.aload_n 0, 1) := by decide +kernel
theorem dX11_span_83 : decode cX11_span 83 = .ok (.iload_n 2, 1) := by decide +kernel
theorem dX11_span_84 : decode cX11_span 84 = .ok (.i2l, 1) := by decide +kernel
theorem dX11_span_85 : decode cX11_span 85 = .ok (.invokevirtual 18, 3) := by decide +kernel
theorem dX11_span_88 : decode cX11_span 88 = .ok (.aload_n 0, 1) := by decide +kernel
theorem dX11_span_89 : decode cX11_span 89 = .ok (.iload_n 2, 1) := by decide +kernel
theorem dX11_span_90 : decode cX11_span 90 = .ok (.iload_n 1, 1) := by decide +kernel
theorem dX11_span_91 : decode cX11_span 91 = .ok (.isub, 1) := by decide +kernel
theorem dX11_span_92 : decode cX11_span 92 = .ok (.iload_n 3, 1) := by decide +kernel
theorem dX11_span_93 : decode cX11_span 93 = .ok (.isub, 1) := by decide +kernel
theorem dX11_span_94 : decode cX11_span 94 = .ok (.i2l, 1) := by decide +kernel
theorem dX11_span_95 : decode cX11_span 95 = .ok (.invokevirtual 18, 3) := by decide +kernel
theorem dX11_span_98 : decode cX11_span 98 = .ok (.iload_n 3, 1) := by decide +kernel
theorem dX11_span_99 : decode cX11_span 99 = .ok (.ireturn, 1) := by decide +kernel
theorem s_X11_span_32 {s10 : xW} {q : Int × xW} {k : Int → Int → Int → Int → Option (Int × xW)} (hk : ∀ (l1_20 : Int) (l2_21 : Int) (l3_22 : Int) (l4_23 : Int), k l1_20 l2_21 l3_22 l4_23 = some q → xG 7 0 0 mX11_span 71 [vR 121, vI l1_20, vI l2_21, vI l3_22, vI l4_23] [] 155 s10 (xRv (vI q.1) q.2)) : ∀ (f : Nat) (l1_6 : Int) (l2_7 : Int) (l3_8 : Int) (l4_9 : Int), F_X11_span_32 s10 f l1_6 l2_7 l3_8 l4_9 k = some q → xG 7 0 0 mX11_span 32 [vR 121, vI l1_6, vI l2_7, vI l3_8, vI l4_9] [] 155 s10 (xRv (vI q.1) q.2) := by
  intro f
  induction f with
  | zero => intro l1_6 l2_7 l3_8 l4_9 h; cases h
  | succ f ih =>
    intro l1_6 l2_7 l3_8 l4_9 h
    unfold F_X11_span_32 at h
    refine g_il dX11_span_32 rfl ?_
    refine g_si dX11_span_34 (by decide) ?_
    refine g_wge dX11_span_37 (tgt := 71) rfl rfl (xw_id (by decide)) (fun q11 => ?_) (fun q11 => ?_)
    · replace h := xif_f q11 h
      exact hk l1_6 l2_7 l3_8 l4_9 h
    · replace h := xif_t q11 h
      refine g_aln dX11_span_40 rfl rfl (by decide) ?_
      refine g_getC 142 dX11_span_41 fl_X11_92 rfl (by decide) ?_
      refine g_il dX11_span_44 rfl ?_
      obtain ⟨hg12, h⟩ := xgd_e h
      refine g_iald 220 dX11_span_46 rfl hg12 (by decide) ?_
      obtain ⟨j16, ej17, h⟩ := xjn_e h
      have hj18 : ∀ (l1_13 : Int) (l2_14 : Int) (l3_15 : Int), j16 l1_13 l2_14 l3_15 = some q → xG 7 0 0 mX11_span 65 [vR 121, vI l1_13, vI l2_14, vI l3_15, vI l4_9] [] 155 s10 (xRv (vI q.1) q.2) := by
        intro l1_13 l2_14 l3_15 h
        rw [ej17] at h
        refine g_inc_4 dX11_span_65 (by decide) rfl ?_
        refine g_goto dX11_span_68 (tgt := 32) rfl ?_
        exact ih l1_13 l2_14 l3_15 (l4_9 + 1) h
      clear ej17
      refine g_yle dX11_span_47 (tgt := 65) rfl rfl (fun q19 => ?_) (fun q19 => ?_)
      · replace h := xif_f q19 h
        exact hj18 l1_6 l2_7 l3_8 h
      · replace h := xif_t q19 h
        refine g_iln dX11_span_50 rfl rfl ?_
        refine g_il dX11_span_51 rfl ?_
        refine g_wmin dX11_span_53 mx_X11_150 rfl rfl (by decide) rfl ?_
        refine g_istn_1 dX11_span_56 (by decide) rfl ?_
        refine g_il dX11_span_57 rfl ?_
        refine g_ic dX11_span_59 ?_
        refine g_iadd dX11_span_60 ?_
        refine g_istn_2 dX11_span_61 (by decide) rfl ?_
        refine g_inc_3 dX11_span_62 (by decide) rfl ?_
        exact hj18 (min (xw l1_6) (xw l4_9)) (l4_9 + 1) (l3_8 + 1) h
theorem s_X11_span {s0 : xW} {q : Int × xW} (h : F_X11_span  s0 = some q) : xC 7 0 0 mX11_span [vR 121] 155 s0 (xRv (vI q.1) q.2) := by
  refine xC.of [vR 121, vX, vX, vX, vX] (by decide +kernel) (Nat.le_of_ble_eq_true rfl) rfl ?_
  unfold F_X11_span at h
  refine g_aln dX11_span_0 rfl rfl (by decide) ?_
  refine g_ic dX11_span_1 ?_
  obtain ⟨s1, e2, h⟩ := xlt_e h
  refine h_putI 0 dX11_span_2 fl_X11_3 rfl rfl e2 ?_
  refine g_aln dX11_span_5 rfl rfl (by decide) ?_
  refine g_getI 4 dX11_span_6 fl_X11_136 rfl rfl ?_
  refine g_yne dX11_span_9 (tgt := 15) rfl rfl (fun q3 => ?_) (fun q3 => ?_)
  · replace h := xif_f q3 h
    refine g_aln dX11_span_15 rfl rfl (by decide) ?_
    refine g_bi dX11_span_16 (by decide) ?_
    obtain ⟨s5, e4, h⟩ := xbp_e h
    refine g_cV10 dX11_span_18 ml_X11_397 rfl (s_X11_laysBusy e4) (by decide) rfl ?_
    refine g_si dX11_span_21 (by decide) ?_
    refine g_istn_1 dX11_span_24 (by decide) rfl ?_
    refine g_ic dX11_span_25 ?_
    refine g_istn_2 dX11_span_26 (by decide) rfl ?_
    refine g_ic dX11_span_27 ?_
    refine g_istn_3 dX11_span_28 (by decide) rfl ?_
    refine g_ic dX11_span_29 ?_
    refine g_ist_4 dX11_span_30 (by decide) rfl ?_
    refine s_X11_span_32 (fun l1_24 l2_25 l3_26 l4_27 h => ?_) xN _ _ _ _ h
    refine g_aln dX11_span_71 rfl rfl (by decide) ?_
    refine g_ic dX11_span_72 ?_
    obtain ⟨s28, e29, h⟩ := xlt_e h
    refine h_putI 1 dX11_span_73 fl_X11_15 rfl rfl e29 ?_
    refine g_aln dX11_span_76 rfl rfl (by decide) ?_
    refine g_iln dX11_span_77 rfl rfl ?_
    refine g_wi2l dX11_span_78 rfl ?_
    obtain ⟨s31, e30, h⟩ := xbp_e h
    refine g_cV10 dX11_span_79 ml_X11_18 rfl (s_X11_enters e30) (by decide) rfl ?_
    refine g_aln dX11_span_82 rfl rfl (by decide) ?_
    refine g_iln dX11_span_83 rfl rfl ?_
    refine g_wi2l dX11_span_84 rfl ?_
    obtain ⟨s33, e32, h⟩ := xbp_e h
    refine g_cV10 dX11_span_85 ml_X11_18 rfl (s_X11_enters e32) (by decide) rfl ?_
    refine g_aln dX11_span_88 rfl rfl (by decide) ?_
    refine g_iln dX11_span_89 rfl rfl ?_
    refine g_iln dX11_span_90 rfl rfl ?_
    refine g_isub dX11_span_91 ?_
    refine g_iln dX11_span_92 rfl rfl ?_
    refine g_isub dX11_span_93 ?_
    refine g_wi2l dX11_span_94 rfl ?_
    obtain ⟨s35, e34, h⟩ := xbp_e h
    refine g_cV10 dX11_span_95 ml_X11_18 rfl (s_X11_enters e34) (by decide) rfl ?_
    refine g_iln dX11_span_98 rfl rfl ?_
    exact g_rI rfl dX11_span_99 h
  · replace h := xif_t q3 h
    refine g_bi dX11_span_12 (by decide) ?_
    exact g_rI rfl dX11_span_14 h
theorem dX11_takes_0 : decode cX11_takes 0 = .ok (.aload_n 0, 1) := by decide +kernel
theorem dX11_takes_1 : decode cX11_takes 1 = .ok (.iconst 0, 1) := by decide +kernel
theorem dX11_takes_2 : decode cX11_takes 2 = .ok (.putfield 3, 3) := by decide +kernel
theorem dX11_takes_5 : decode cX11_takes 5 = .ok (.aload_n 0, 1) := by decide +kernel
theorem dX11_takes_6 : decode cX11_takes 6 = .ok (.invokevirtual 361, 3) := by decide +kernel
theorem dX11_takes_9 : decode cX11_takes 9 = .ok (.aload_n 0, 1) := by decide +kernel
theorem dX11_takes_10 : decode cX11_takes 10 = .ok (.aload_n 0, 1) := by decide +kernel
theorem dX11_takes_11 : decode cX11_takes 11 = .ok (.iload_n 1, 1) := by decide +kernel
theorem dX11_takes_12 : decode cX11_takes 12 = .ok (.iload_n 2, 1) := by decide +kernel
theorem dX11_takes_13 : decode cX11_takes 13 = .ok (.invokevirtual 381, 3) := by decide +kernel
theorem dX11_takes_16 : decode cX11_takes 16 = .ok (.invokevirtual 370, 3) := by decide +kernel
theorem dX11_takes_19 : decode cX11_takes 19 = .ok (.ireturn, 1) := by decide +kernel
theorem s_X11_takes {a1 a2 : Int} {s0 : xW} {q : Int × xW} (h : F_X11_takes a1 a2 s0 = some q) : xC 3 0 0 mX11_takes [vR 121, vI a1, vI a2] 155 s0 (xRv (vI q.1) q.2) := by
  refine xC.of [vR 121, vI a1, vI a2] (by decide +kernel) (Nat.le_of_ble_eq_true rfl) rfl ?_
  unfold F_X11_takes at h
  refine g_aln dX11_takes_0 rfl rfl (by decide) ?_
  refine g_ic dX11_takes_1 ?_
  obtain ⟨s1, e2, h⟩ := xlt_e h
  refine h_putI 0 dX11_takes_2 fl_X11_3 rfl rfl e2 ?_
  refine g_aln dX11_takes_5 rfl rfl (by decide) ?_
  obtain ⟨s4, e3, h⟩ := xbp_e h
  refine g_cV00 dX11_takes_6 ml_X11_361 rfl (s_X11_putsBy e3) (by decide) rfl ?_
  refine g_aln dX11_takes_9 rfl rfl (by decide) ?_
  refine g_aln dX11_takes_10 rfl rfl (by decide) ?_
  refine g_iln dX11_takes_11 rfl rfl ?_
  refine g_iln dX11_takes_12 rfl rfl ?_
  obtain ⟨r6, s7, e5, h⟩ := xbd_e h
  refine g_cV2v dX11_takes_13 ml_X11_381 rfl (s_X11_takesSome e5) (by decide) rfl ?_
  obtain ⟨r9, s10, e8, h⟩ := xbd_e h
  refine g_cV1v dX11_takes_16 ml_X11_370 rfl (s_X11_counted e8) (by decide) rfl ?_
  exact g_rI rfl dX11_takes_19 h
theorem dX11_thrown_0 : decode cX11_thrown 0 = .ok (.aload_n 0, 1) := by decide +kernel
theorem dX11_thrown_1 : decode cX11_thrown 1 = .ok (.getfield 3, 3) := by decide +kernel
theorem dX11_thrown_4 : decode cX11_thrown 4 = .ok (.ireturn, 1) := by decide +kernel
theorem s_X11_thrown {s0 : xW} {q : Int} (h : F_X11_thrown  s0 = some q) : xC 0 0 0 mX11_thrown [vR 121] 155 s0 (xRv (vI q) s0) := by
  refine xC.of [vR 121] (by decide +kernel) (Nat.le_of_ble_eq_true rfl) rfl ?_
  unfold F_X11_thrown at h
  refine g_aln dX11_thrown_0 rfl rfl (by decide) ?_
  refine g_getI 0 dX11_thrown_1 fl_X11_3 rfl rfl ?_
  exact g_pI rfl dX11_thrown_4 h
theorem dX11_together_0 : decode cX11_together 0 = .ok (.aload_n 0, 1) := by decide +kernel
theorem dX11_together_1 : decode cX11_together 1 = .ok (.iconst 0, 1) := by decide +kernel
theorem dX11_together_2 : decode cX11_together 2 = .ok (.putfield 3, 3) := by decide +kernel
theorem dX11_together_5 : decode cX11_together 5 = .ok (.iconst 0, 1) := by decide +kernel
theorem dX11_together_6 : decode cX11_together 6 = .ok (.istore_n 1, 1) := by decide +kernel
theorem dX11_together_7 : decode cX11_together 7 = .ok (.iconst 0, 1) := by decide +kernel
theorem dX11_together_8 : decode cX11_together 8 = .ok (.istore_n 2, 1) := by decide +kernel
theorem dX11_together_9 : decode cX11_together 9 = .ok (.iconst 0, 1) := by decide +kernel
theorem dX11_together_10 : decode cX11_together 10 = .ok (.istore_n 3, 1) := by decide +kernel
theorem dX11_together_11 : decode cX11_together 11 = .ok (.iload_n 3, 1) := by decide +kernel
theorem dX11_together_12 : decode cX11_together 12 = .ok (.aload_n 0, 1) := by decide +kernel
theorem dX11_together_13 : decode cX11_together 13 = .ok (.getfield 129, 3) := by decide +kernel
theorem dX11_together_16 : decode cX11_together 16 = .ok (.if_icmp .ge 111, 3) := by decide +kernel
theorem dX11_together_19 : decode cX11_together 19 = .ok (.iconst 1, 1) := by decide +kernel
theorem dX11_together_20 : decode cX11_together 20 = .ok (.istore 4, 2) := by decide +kernel
theorem dX11_together_22 : decode cX11_together 22 = .ok (.iconst 0, 1) := by decide +kernel
theorem dX11_together_23 : decode cX11_together 23 = .ok (.istore 5, 2) := by decide +kernel
theorem dX11_together_25 : decode cX11_together 25 = .ok (.iload 5, 2) := by decide +kernel
theorem dX11_together_27 : decode cX11_together 27 = .ok (.aload_n 0, 1) := by decide +kernel
theorem dX11_together_28 : decode cX11_together 28 = .ok (.getfield 129, 3) := by decide +kernel
theorem dX11_together_31 : decode cX11_together 31 = .ok (.if_icmp .ge 82, 3) := by decide +kernel
theorem dX11_together_34 : decode cX11_together 34 = .ok (.iload 5, 2) := by decide +kernel
theorem dX11_together_36 : decode cX11_together 36 = .ok (.iload_n 3, 1) := by decide +kernel
theorem dX11_together_37 : decode cX11_together 37 = .ok (.if_icmp .eq 29, 3) := by decide +kernel
theorem dX11_together_40 : decode cX11_together 40 = .ok (.aload_n 0, 1) := by decide +kernel
theorem dX11_together_41 : decode cX11_together 41 = .ok (.aload_n 0, 1) := by decide +kernel
theorem dX11_together_42 : decode cX11_together 42 = .ok (.getfield 47, 3) := by decide +kernel
theorem dX11_together_45 : decode cX11_together 45 = .ok (.iload 5, 2) := by decide +kernel
theorem dX11_together_47 : decode cX11_together 47 = .ok (.invokevirtual 292, 3) := by decide +kernel
theorem dX11_together_50 : decode cX11_together 50 = .ok (.aload_n 0, 1) := by decide +kernel
theorem dX11_together_51 : decode cX11_together 51 = .ok (.aload_n 0, 1) := by decide +kernel
theorem dX11_together_52 : decode cX11_together 52 = .ok (.getfield 47, 3) := by decide +kernel
theorem dX11_together_55 : decode cX11_together 55 = .ok (.iload_n 3, 1) := by decide +kernel
theorem dX11_together_56 : decode cX11_together 56 = .ok (.invokevirtual 292, 3) := by decide +kernel
theorem dX11_together_59 : decode cX11_together 59 = .ok (.if_icmp .ne 7, 3) := by decide +kernel
theorem dX11_together_62 : decode cX11_together 62 = .ok (.iconst 1, 1) := by decide +kernel
theorem dX11_together_63 : decode cX11_together 63 = .ok (.goto 4, 3) := by decide +kernel
theorem dX11_together_66 : decode cX11_together 66 = .ok (.iconst 0, 1) := by decide +kernel
theorem dX11_together_67 : decode cX11_together 67 = .ok (.istore 6, 2) := by decide +kernel
theorem dX11_together_69 : decode cX11_together 69 = .ok (.iload_n 1, 1) := by decide +kernel
theorem dX11_together_70 : decode cX11_together 70 = .ok (.iload 6, 2) := by decide +kernel
theorem dX11_together_72 : decode cX11_together 72 = .ok (.ifCond .eq 9, 3) := by decide +kernel
theorem dX11_together_75 : decode cX11_together 75 = .ok (.iconst 1, 1) := by decide +kernel
theorem dX11_together_76 : decode cX11_together 76 = .ok (.iload_n 3, 1) := by decide +kernel
theorem dX11_together_77 : decode cX11_together 77 = .ok (.ishl, 1) := by decide +kernel
theorem dX11_together_78 : decode cX11_together 78 = .ok (.goto 4, 3) := by decide +kernel
theorem dX11_together_81 : decode cX11_together 81 = .ok (.iconst 0, 1) := by decide +kernel
theorem dX11_together_82 : decode cX11_together 82 = .ok (.ior, 1) := by decide +kernel
theorem dX11_together_83 : decode cX11_together 83 = .ok (.istore_n 1, 1) := by decide +kernel
theorem dX11_together_84 : decode cX11_together 84 = .ok (.iload 4, 2) := by decide +kernel
theorem dX11_together_86 : decode cX11_together 86 = .ok (.ifCond .eq 18, 3) := by decide +kernel
theorem dX11_together_89 : decode cX11_together 89 = .ok (.iload 6, 2) := by decide +kernel
theorem dX11_together_91 : decode cX11_together 91 = .ok (.ifCond .eq 9, 3) := by decide +kernel
theorem dX11_together_94 : decode cX11_together 94 = .ok (.iload 5, 2) := by decide +kernel
theorem dX11_together_96 : decode cX11_together 96 = .ok (.iload_n 3, 1) := by decide +kernel
theorem dX11_together_97 : decode cX11_together 97 = .ok (.if_icmp .le 7, 3) := by decide +kernel
theorem dX11_together_100 : decode cX11_together 100 = .ok (.iconst 1, 1) := by decide +kernel
theorem dX11_together_101 : decode cX11_together 101 = .ok (.goto 4, 3) := by decide +kernel
theorem dX11_together_104 : decode cX11_together 104 = .ok (.iconst 0, 1) := by decide +kernel
theorem dX11_together_105 : decode cX11_together 105 = .ok (.istore 4, 2) := by decide +kernel
theorem dX11_together_107 : decode cX11_together 107 = .ok (.iinc 5 1, 3) := by decide +kernel
theorem dX11_together_110 : decode cX11_together 110 = .ok (.goto (-85), 3) := by decide +kernel
theorem dX11_together_113 : decode cX11_together 113 = .ok (.iload_n 2, 1) := by decide +kernel
theorem dX11_together_114 : decode cX11_together 114 = .ok (.iload 4, 2) := by decide +kernel
theorem dX11_together_116 : decode cX11_together 116 = .ok (.invokestatic 159, 3) := by decide +kernel
theorem dX11_together_119 : decode cX11_together 119 = .ok (.iadd, 1) := by decide +kernel
theorem dX11_together_120 : decode cX11_together 120 = .ok (.istore_n 2, 1) := by decide +kernel
theorem dX11_together_121 : decode cX11_together 121 = .ok (.iinc 3 1, 3) := by decide +kernel
theorem dX11_together_124 : decode cX11_together 124 = .ok (.goto (-113), 3) := by decide +kernel
theorem dX11_together_127 : decode cX11_together 127 = .ok (.aload_n 0, 1) := by decide +kernel
theorem dX11_together_128 : decode cX11_together 128 = .ok (.iconst 0, 1) := by decide +kernel
theorem dX11_together_129 : decode cX11_together 129 = .ok (.putfield 15, 3) := by decide +kernel
theorem dX11_together_132 : decode cX11_together 132 = .ok (.aload_n 0, 1) := by decide +kernel
theorem dX11_together_133 : decode cX11_together 133 = .ok (.iload_n 2, 1) := by decide +kernel
theorem dX11_together_134 : decode cX11_together 134 = .ok (.i2l, 1) := by decide +kernel
theorem dX11_together_135 : decode cX11_together 135 = .ok (.invokevirtual 18, 3) := by decide +kernel
theorem dX11_together_138 : decode cX11_together 138 = .ok (.iload_n 1, 1) := by decide +kernel
theorem dX11_together_139 : decode cX11_together 139 = .ok (.ireturn, 1) := by decide +kernel
theorem s_X11_together_25 {l2_9 l3_10 : Int} {q : Int × xW} {k : Int → Int → Int → xW → Option (Int × xW)} (hk : ∀ (l1_42 : Int) (l4_43 : Int) (l5_44 : Int) (s45 : xW), k l1_42 l4_43 l5_44 s45 = some q → xG 5 0 0 mX11_together 113 [vR 121, vI l1_42, vI l2_9, vI l3_10, vI l4_43, vI l5_44, vX] [] 155 s45 (xRv (vI q.1) q.2)) : ∀ (f : Nat) (l1_8 : Int) (l4_11 : Int) (l5_12 : Int) (s13 : xW), F_X11_together_25 l2_9 l3_10 f l1_8 l4_11 l5_12 s13 k = some q → xG 5 0 0 mX11_together 25 [vR 121, vI l1_8, vI l2_9, vI l3_10, vI l4_11, vI l5_12, vX] [] 155 s13 (xRv (vI q.1) q.2) := by
  intro f
  induction f with
  | zero => intro l1_8 l4_11 l5_12 s13 h; cases h
  | succ f ih =>
    intro l1_8 l4_11 l5_12 s13 h
    unfold F_X11_together_25 at h
    refine g_il dX11_together_25 rfl ?_
    refine g_aln dX11_together_27 rfl rfl (by decide) ?_
    refine g_getI 3 dX11_together_28 fl_X11_129 rfl rfl ?_
    refine g_wge dX11_together_31 (tgt := 113) rfl rfl rfl (fun q14 => ?_) (fun q14 => ?_)
    · replace h := xif_f q14 h
      exact hk l1_8 l4_11 l5_12 s13 h
    · replace h := xif_t q14 h
      refine g_il dX11_together_34 rfl ?_
      refine g_iln dX11_together_36 rfl rfl ?_
      obtain ⟨j17, ej18, h⟩ := xjn_e h
      have hj19 : ∀ (t15 : Int) (s16 : xW), j17 t15 s16 = some q → xG 5 0 0 mX11_together 67 [vR 121, vI l1_8, vI l2_9, vI l3_10, vI l4_11, vI l5_12, vX] [vI t15] 155 s16 (xRv (vI q.1) q.2) := by
        intro t15 s16 h
        rw [ej18] at h
        refine g_ist_6 dX11_together_67 (by decide) rfl ?_
        refine g_iln dX11_together_69 rfl rfl ?_
        refine g_il dX11_together_70 rfl ?_
        obtain ⟨v21, e22, h⟩ := xlt_e h
        have hj23 : xG 5 0 0 mX11_together 82 [vR 121, vX, vI l2_9, vI l3_10, vI l4_11, vI l5_12, vI t15] [vI v21, vI l1_8] 155 s16 (xRv (vI q.1) q.2) := by
          refine g_ior dX11_together_82 ?_
          refine g_istn_1 dX11_together_83 (by decide) rfl ?_
          refine g_il dX11_together_84 rfl ?_
          obtain ⟨v27, e28, h⟩ := xlt_e h
          have hj29 : xG 5 0 0 mX11_together 105 [vR 121, vI (xor' l1_8 v21), vI l2_9, vI l3_10, vX, vI l5_12, vX] [vI v27] 155 s16 (xRv (vI q.1) q.2) := by
            refine g_ist_4 dX11_together_105 (by decide) rfl ?_
            refine g_inc_5 dX11_together_107 (by decide) rfl ?_
            refine g_goto dX11_together_110 (tgt := 25) rfl ?_
            exact ih (xor' l1_8 v21) v27 (l5_12 + 1) s16 h
          refine g_yeq dX11_together_86 (tgt := 104) rfl rfl (fun c24 => ?_) (fun c24 => ?_)
          · skip
            refine g_ic dX11_together_104 ?_
            refine g_drop_4 ?_
            refine g_drop_6 ?_
            exact g_vq ((if_neg c24).symm.trans e28) hj29
          · skip
            refine g_il dX11_together_89 rfl ?_
            refine g_yeq dX11_together_91 (tgt := 100) rfl rfl (fun c25 => ?_) (fun c25 => ?_)
            · skip
              refine g_ic dX11_together_100 ?_
              refine g_goto dX11_together_101 (tgt := 105) rfl ?_
              refine g_drop_4 ?_
              refine g_drop_6 ?_
              exact g_vq (((if_pos c24).trans (if_neg c25)).symm.trans e28) hj29
            · skip
              refine g_il dX11_together_94 rfl ?_
              refine g_iln dX11_together_96 rfl rfl ?_
              refine g_wle dX11_together_97 (tgt := 104) rfl rfl rfl (fun c26 => ?_) (fun c26 => ?_)
              · skip
                refine g_ic dX11_together_104 ?_
                refine g_drop_4 ?_
                refine g_drop_6 ?_
                exact g_vq ((((if_pos c24).trans (if_pos c25)).trans (if_neg c26)).symm.trans e28) hj29
              · skip
                refine g_ic dX11_together_100 ?_
                refine g_goto dX11_together_101 (tgt := 105) rfl ?_
                refine g_drop_4 ?_
                refine g_drop_6 ?_
                exact g_vq ((((if_pos c24).trans (if_pos c25)).trans (if_pos c26)).symm.trans e28) hj29
        refine g_yeq dX11_together_72 (tgt := 81) rfl rfl (fun c20 => ?_) (fun c20 => ?_)
        · skip
          refine g_ic dX11_together_81 ?_
          refine g_drop_1 ?_
          exact g_vq ((if_neg c20).symm.trans e22) hj23
        · skip
          refine g_ic dX11_together_75 ?_
          refine g_iln dX11_together_76 rfl rfl ?_
          refine g_ishl dX11_together_77 ?_
          refine g_goto dX11_together_78 (tgt := 82) rfl ?_
          refine g_drop_1 ?_
          exact g_vq ((if_pos c20).symm.trans e22) hj23
      clear ej18
      obtain ⟨j31, ej32, h⟩ := xjn_e h
      have hj33 : ∀ (s30 : xW), j31 s30 = some q → xG 5 0 0 mX11_together 66 [vR 121, vI l1_8, vI l2_9, vI l3_10, vI l4_11, vI l5_12, vX] [] 155 s30 (xRv (vI q.1) q.2) := by
        intro s30 h
        rw [ej32] at h
        refine g_ic dX11_together_66 ?_
        exact hj19 0 s30 h
      clear ej32
      refine g_weq dX11_together_37 (tgt := 66) rfl rfl rfl (fun q34 => ?_) (fun q34 => ?_)
      · replace h := xif_f q34 h
        exact hj33 s13 h
      · replace h := xif_t q34 h
        refine g_aln dX11_together_40 rfl rfl (by decide) ?_
        refine g_aln dX11_together_41 rfl rfl (by decide) ?_
        refine g_getC 127 dX11_together_42 fl_X11_47 rfl (by decide) ?_
        refine g_il dX11_together_45 rfl ?_
        obtain ⟨r36, s37, e35, h⟩ := xbd_e h
        refine g_cV2v dX11_together_47 ml_X11_292 rfl (s_X11_hears e35) (by decide) rfl ?_
        refine g_aln dX11_together_50 rfl rfl (by decide) ?_
        refine g_aln dX11_together_51 rfl rfl (by decide) ?_
        refine g_getC 127 dX11_together_52 fl_X11_47 rfl (by decide) ?_
        refine g_iln dX11_together_55 rfl rfl ?_
        obtain ⟨r39, s40, e38, h⟩ := xbd_e h
        refine g_cV2v dX11_together_56 ml_X11_292 rfl (s_X11_hears e38) (by decide) rfl ?_
        refine g_wne dX11_together_59 (tgt := 66) rfl rfl rfl (fun q41 => ?_) (fun q41 => ?_)
        · replace h := xif_f q41 h
          exact hj33 s40 h
        · replace h := xif_t q41 h
          refine g_ic dX11_together_62 ?_
          refine g_goto dX11_together_63 (tgt := 67) rfl ?_
          exact hj19 1 s40 h
theorem s_X11_together_11 {q : Int × xW} {k : Int → Int → Int → xW → Option (Int × xW)} (hk : ∀ (l1_52 : Int) (l2_53 : Int) (l3_54 : Int) (s55 : xW), k l1_52 l2_53 l3_54 s55 = some q → xG 5 0 0 mX11_together 127 [vR 121, vI l1_52, vI l2_53, vI l3_54, vX, vX, vX] [] 155 s55 (xRv (vI q.1) q.2)) : ∀ (f : Nat) (l1_3 : Int) (l2_4 : Int) (l3_5 : Int) (s6 : xW), F_X11_together_11  f l1_3 l2_4 l3_5 s6 k = some q → xG 5 0 0 mX11_together 11 [vR 121, vI l1_3, vI l2_4, vI l3_5, vX, vX, vX] [] 155 s6 (xRv (vI q.1) q.2) := by
  intro f
  induction f with
  | zero => intro l1_3 l2_4 l3_5 s6 h; cases h
  | succ f ih =>
    intro l1_3 l2_4 l3_5 s6 h
    unfold F_X11_together_11 at h
    refine g_iln dX11_together_11 rfl rfl ?_
    refine g_aln dX11_together_12 rfl rfl (by decide) ?_
    refine g_getI 3 dX11_together_13 fl_X11_129 rfl rfl ?_
    refine g_wge dX11_together_16 (tgt := 127) rfl rfl rfl (fun q7 => ?_) (fun q7 => ?_)
    · replace h := xif_f q7 h
      exact hk l1_3 l2_4 l3_5 s6 h
    · replace h := xif_t q7 h
      refine g_ic dX11_together_19 ?_
      refine g_ist_4 dX11_together_20 (by decide) rfl ?_
      refine g_ic dX11_together_22 ?_
      refine g_ist_5 dX11_together_23 (by decide) rfl ?_
      refine s_X11_together_25 (fun l1_46 l4_47 l5_48 s49 h => ?_) xN _ _ _ _ h
      refine g_iln dX11_together_113 rfl rfl ?_
      refine g_il dX11_together_114 rfl ?_
      obtain ⟨r51, e50, h⟩ := xbp_e h
      refine g_cS1v dX11_together_116 ml_X11_159 (s_X11_flag e50) (by decide) rfl ?_
      refine g_iadd dX11_together_119 ?_
      refine g_istn_2 dX11_together_120 (by decide) rfl ?_
      refine g_inc_3 dX11_together_121 (by decide) rfl ?_
      refine g_goto dX11_together_124 (tgt := 11) rfl ?_
      refine g_drop_4 ?_
      refine g_drop_5 ?_
      exact ih l1_46 (l2_4 + r51) (l3_5 + 1) s49 h
theorem s_X11_together {s0 : xW} {q : Int × xW} (h : F_X11_together  s0 = some q) : xC 5 0 0 mX11_together [vR 121] 155 s0 (xRv (vI q.1) q.2) := by
  refine xC.of [vR 121, vX, vX, vX, vX, vX, vX] (by decide +kernel) (Nat.le_of_ble_eq_true rfl) rfl ?_
  unfold F_X11_together at h
  refine g_aln dX11_together_0 rfl rfl (by decide) ?_
  refine g_ic dX11_together_1 ?_
  obtain ⟨s1, e2, h⟩ := xlt_e h
  refine h_putI 0 dX11_together_2 fl_X11_3 rfl rfl e2 ?_
  refine g_ic dX11_together_5 ?_
  refine g_istn_1 dX11_together_6 (by decide) rfl ?_
  refine g_ic dX11_together_7 ?_
  refine g_istn_2 dX11_together_8 (by decide) rfl ?_
  refine g_ic dX11_together_9 ?_
  refine g_istn_3 dX11_together_10 (by decide) rfl ?_
  refine s_X11_together_11 (fun l1_56 l2_57 l3_58 s59 h => ?_) xN _ _ _ _ h
  refine g_aln dX11_together_127 rfl rfl (by decide) ?_
  refine g_ic dX11_together_128 ?_
  obtain ⟨s60, e61, h⟩ := xlt_e h
  refine h_putI 1 dX11_together_129 fl_X11_15 rfl rfl e61 ?_
  refine g_aln dX11_together_132 rfl rfl (by decide) ?_
  refine g_iln dX11_together_133 rfl rfl ?_
  refine g_wi2l dX11_together_134 rfl ?_
  obtain ⟨s63, e62, h⟩ := xbp_e h
  refine g_cV10 dX11_together_135 ml_X11_18 rfl (s_X11_enters e62) (by decide) rfl ?_
  refine g_iln dX11_together_138 rfl rfl ?_
  exact g_rI rfl dX11_together_139 h
theorem dX11_undo_0 : decode cX11_undo 0 = .ok (.aload_n 0, 1) := by decide +kernel
theorem dX11_undo_1 : decode cX11_undo 1 = .ok (.iconst 0, 1) := by decide +kernel
theorem dX11_undo_2 : decode cX11_undo 2 = .ok (.putfield 3, 3) := by decide +kernel
theorem dX11_undo_5 : decode cX11_undo 5 = .ok (.aload_n 0, 1) := by decide +kernel
theorem dX11_undo_6 : decode cX11_undo 6 = .ok (.getfield 218, 3) := by decide +kernel
theorem dX11_undo_9 : decode cX11_undo 9 = .ok (.ifCond .ne 5, 3) := by decide +kernel
theorem dX11_undo_12 : decode cX11_undo 12 = .ok (.iconst (-1), 1) := by decide +kernel
theorem dX11_undo_13 : decode cX11_undo 13 = .ok (.ireturn, 1) := by decide +kernel
theorem dX11_undo_14 : decode cX11_undo 14 = .ok (.aload_n 0, 1) := by decide +kernel
theorem dX11_undo_15 : decode cX11_undo 15 = .ok (.dup, 1) := by decide +kernel
theorem dX11_undo_16 : decode cX11_undo 16 = .ok (.getfield 218, 3) := by decide +kernel
theorem dX11_undo_19 : decode cX11_undo 19 = .ok (.iconst 1, 1) := by decide +kernel
theorem dX11_undo_20 : decode cX11_undo 20 = .ok (.isub, 1) := by decide +kernel
theorem dX11_undo_21 : decode cX11_undo 21 = .ok (.putfield 218, 3) := by decide +kernel
theorem dX11_undo_24 : decode cX11_undo 24 = .ok (.iconst 0, 1) := by decide +kernel
theorem dX11_undo_25 : decode cX11_undo 25 = .ok (.istore_n 1, 1) := by decide +kernel
theorem dX11_undo_26 : decode cX11_undo 26 = .ok (.iload_n 1, 1) := by decide +kernel
theorem dX11_undo_27 : decode cX11_undo 27 = .ok (.bipush 40, 2) := by decide +kernel
theorem dX11_undo_29 : decode cX11_undo 29 = .ok (.if_icmp .ge 29, 3) := by decide +kernel
theorem dX11_undo_32 : decode cX11_undo 32 = .ok (.aload_n 0, 1) := by decide +kernel
theorem dX11_undo_33 : decode cX11_undo 33 = .ok (.getfield 47, 3) := by decide +kernel
theorem dX11_undo_36 : decode cX11_undo 36 = .ok (.iload_n 1, 1) := by decide +kernel
theorem dX11_undo_37 : decode cX11_undo 37 = .ok (.aload_n 0, 1) := by decide +kernel
theorem dX11_undo_38 : decode cX11_undo 38 = .ok (.getfield 74, 3) := by decide +kernel
theorem dX11_undo_41 : decode cX11_undo 41 = .ok (.bipush 40, 2) := by decide +kernel
theorem dX11_undo_43 : decode cX11_undo 43 = .ok (.aload_n 0, 1) := by decide +kernel
theorem dX11_undo_44 : decode cX11_undo 44 = .ok (.getfield 218, 3) := by decide +kernel
theorem dX11_undo_47 : decode cX11_undo 47 = .ok (.imul, 1) := by decide +kernel
theorem dX11_undo_48 : decode cX11_undo 48 = .ok (.iload_n 1, 1) := by decide +kernel
theorem dX11_undo_49 : decode cX11_undo 49 = .ok (.iadd, 1) := by decide +kernel
theorem dX11_undo_50 : decode cX11_undo 50 = .ok (.iaload, 1) := by decide +kernel
theorem dX11_undo_51 : decode cX11_undo 51 = .ok (.iastore, 1) := by decide +kernel
theorem dX11_undo_52 : decode cX11_undo 52 = .ok (.iinc 1 1, 3) := by decide +kernel
theorem dX11_undo_55 : decode cX11_undo 55 = .ok (.goto (-29), 3) := by decide +kernel
theorem dX11_undo_58 : decode cX11_undo 58 = .ok (.aload_n 0, 1) := by decide +kernel
theorem dX11_undo_59 : decode cX11_undo 59 = .ok (.getfield 218, 3) := by decide +kernel
theorem dX11_undo_62 : decode cX11_undo 62 = .ok (.ireturn, 1) := by decide +kernel
theorem s_X11_undo_26 {q : Int × xW} {k : Int → xW → Option (Int × xW)} (hk : ∀ (l1_13 : Int) (s14 : xW), k l1_13 s14 = some q → xG 0 0 0 mX11_undo 58 [vR 121, vI l1_13] [] 155 s14 (xRv (vI q.1) q.2)) : ∀ (f : Nat) (l1_6 : Int) (s7 : xW), F_X11_undo_26  f l1_6 s7 k = some q → xG 0 0 0 mX11_undo 26 [vR 121, vI l1_6] [] 155 s7 (xRv (vI q.1) q.2) := by
  intro f
  induction f with
  | zero => intro l1_6 s7 h; cases h
  | succ f ih =>
    intro l1_6 s7 h
    unfold F_X11_undo_26 at h
    refine g_iln dX11_undo_26 rfl rfl ?_
    refine g_bi dX11_undo_27 (by decide) ?_
    refine g_wge dX11_undo_29 (tgt := 58) rfl rfl (xw_id (by decide)) (fun q8 => ?_) (fun q8 => ?_)
    · replace h := xif_f q8 h
      exact hk l1_6 s7 h
    · replace h := xif_t q8 h
      refine g_aln dX11_undo_32 rfl rfl (by decide) ?_
      refine g_getC 127 dX11_undo_33 fl_X11_47 rfl (by decide) ?_
      refine g_iln dX11_undo_36 rfl rfl ?_
      refine g_aln dX11_undo_37 rfl rfl (by decide) ?_
      refine g_getC 136 dX11_undo_38 fl_X11_74 rfl (by decide) ?_
      refine g_bi dX11_undo_41 (by decide) ?_
      refine g_aln dX11_undo_43 rfl rfl (by decide) ?_
      refine g_getI 28 dX11_undo_44 fl_X11_218 rfl rfl ?_
      refine g_imul dX11_undo_47 ?_
      refine g_iln dX11_undo_48 rfl rfl ?_
      refine g_iadd dX11_undo_49 ?_
      obtain ⟨hg9, h⟩ := xgd_e h
      refine g_iald 640 dX11_undo_50 rfl hg9 (by decide) ?_
      obtain ⟨hg10, h⟩ := xgd_e h
      obtain ⟨s11, e12, h⟩ := xlt_e h
      refine h_iast 40 dX11_undo_51 rfl hg10 (by decide) e12 ?_
      refine g_inc_1 dX11_undo_52 (by decide) rfl ?_
      refine g_goto dX11_undo_55 (tgt := 26) rfl ?_
      exact ih (l1_6 + 1) s11 h
theorem s_X11_undo {s0 : xW} {q : Int × xW} (h : F_X11_undo  s0 = some q) : xC 0 0 0 mX11_undo [vR 121] 155 s0 (xRv (vI q.1) q.2) := by
  refine xC.of [vR 121, vX] (by decide +kernel) (Nat.le_of_ble_eq_true rfl) rfl ?_
  unfold F_X11_undo at h
  refine g_aln dX11_undo_0 rfl rfl (by decide) ?_
  refine g_ic dX11_undo_1 ?_
  obtain ⟨s1, e2, h⟩ := xlt_e h
  refine h_putI 0 dX11_undo_2 fl_X11_3 rfl rfl e2 ?_
  refine g_aln dX11_undo_5 rfl rfl (by decide) ?_
  refine g_getI 28 dX11_undo_6 fl_X11_218 rfl rfl ?_
  refine g_yne dX11_undo_9 (tgt := 14) rfl rfl (fun q3 => ?_) (fun q3 => ?_)
  · replace h := xif_f q3 h
    refine g_aln dX11_undo_14 rfl rfl (by decide) ?_
    refine g_dup dX11_undo_15 rfl ?_
    refine g_getI 28 dX11_undo_16 fl_X11_218 rfl rfl ?_
    refine g_ic dX11_undo_19 ?_
    refine g_isub dX11_undo_20 ?_
    obtain ⟨s4, e5, h⟩ := xlt_e h
    refine h_putI 28 dX11_undo_21 fl_X11_218 rfl rfl e5 ?_
    refine g_ic dX11_undo_24 ?_
    refine g_istn_1 dX11_undo_25 (by decide) rfl ?_
    refine s_X11_undo_26 (fun l1_15 s16 h => ?_) xN _ _ h
    refine g_aln dX11_undo_58 rfl rfl (by decide) ?_
    refine g_getI 28 dX11_undo_59 fl_X11_218 rfl rfl ?_
    exact g_rI rfl dX11_undo_62 h
  · replace h := xif_t q3 h
    refine g_ic dX11_undo_12 ?_
    exact g_rI rfl dX11_undo_13 h
theorem dX11_week_0 : decode cX11_week 0 = .ok (.aload_n 0, 1) := by decide +kernel
theorem dX11_week_1 : decode cX11_week 1 = .ok (.iconst 0, 1) := by decide +kernel
theorem dX11_week_2 : decode cX11_week 2 = .ok (.putfield 3, 3) := by decide +kernel
theorem dX11_week_5 : decode cX11_week 5 = .ok (.aload_n 0, 1) := by decide +kernel
theorem dX11_week_6 : decode cX11_week 6 = .ok (.bipush 60, 2) := by decide +kernel
theorem dX11_week_8 : decode cX11_week 8 = .ok (.invokevirtual 201, 3) := by decide +kernel
theorem dX11_week_11 : decode cX11_week 11 = .ok (.istore_n 1, 1) := by decide +kernel
theorem dX11_week_12 : decode cX11_week 12 = .ok (.aload_n 0, 1) := by decide +kernel
theorem dX11_week_13 : decode cX11_week 13 = .ok (.iconst 0, 1) := by decide +kernel
theorem dX11_week_14 : decode cX11_week 14 = .ok (.putfield 384, 3) := by decide +kernel
theorem dX11_week_17 : decode cX11_week 17 = .ok (.iconst 1, 1) := by decide +kernel
theorem dX11_week_18 : decode cX11_week 18 = .ok (.istore_n 2, 1) := by decide +kernel
theorem dX11_week_19 : decode cX11_week 19 = .ok (.iload_n 2, 1) := by decide +kernel
theorem dX11_week_20 : decode cX11_week 20 = .ok (.ifCond .eq 22, 3) := by decide +kernel
theorem dX11_week_23 : decode cX11_week 23 = .ok (.aload_n 0, 1) := by decide +kernel
theorem dX11_week_24 : decode cX11_week 24 = .ok (.getfield 144, 3) := by decide +kernel
theorem dX11_week_27 : decode cX11_week 27 = .ok (.aload_n 0, 1) := by decide +kernel
theorem dX11_week_28 : decode cX11_week 28 = .ok (.getfield 156, 3) := by decide +kernel
theorem dX11_week_31 : decode cX11_week 31 = .ok (.if_icmp .ge 11, 3) := by decide +kernel
theorem dX11_week_34 : decode cX11_week 34 = .ok (.aload_n 0, 1) := by decide +kernel
theorem dX11_week_35 : decode cX11_week 35 = .ok (.invokevirtual 389, 3) := by decide +kernel
theorem dX11_week_38 : decode cX11_week 38 = .ok (.istore_n 2, 1) := by decide +kernel
theorem dX11_week_39 : decode cX11_week 39 = .ok (.goto (-20), 3) := by decide +kernel
theorem dX11_week_42 : decode cX11_week 42 = .ok (.aload_n 0, 1) := by decide +kernel
theorem dX11_week_43 : decode cX11_week 43 = .ok (.iload_n 1, 1) := by decide +kernel
theorem dX11_week_44 : decode cX11_week 44 = .ok (.bipush 60, 2) := by decide +kernel
theorem dX11_week_46 : decode cX11_week 46 = .ok (.iload_n 2, 1) := by decide +kernel
theorem dX11_week_47 : decode cX11_week 47 = .ok (.invokevirtual 214, 3) := by decide +kernel
theorem dX11_week_50 : decode cX11_week 50 = .ok (.istore_n 3, 1) := by decide +kernel
theorem dX11_week_51 : decode cX11_week 51 = .ok (.iload_n 3, 1) := by decide +kernel
theorem dX11_week_52 : decode cX11_week 52 = .ok (.ifCond .ge 5, 3) := by decide +kernel
theorem dX11_week_55 : decode cX11_week 55 = .ok (.iload_n 3, 1) := by decide +kernel
theorem dX11_week_56 : decode cX11_week 56 = .ok (.ireturn, 1) := by decide +kernel
theorem dX11_week_57 : decode cX11_week 57 = .ok (.aload_n 0, 1) := by decide +kernel
theorem dX11_week_58 : decode cX11_week 58 = .ok (.invokevirtual 361, 3) := by decide +kernel
theorem dX11_week_61 : decode cX11_week 61 = .ok (.iconst 0, 1) := by decide +kernel
theorem dX11_week_62 : decode cX11_week 62 = .ok (.istore 4, 2) := by decide +kernel
theorem dX11_week_64 : decode cX11_week 64 = .ok (.iload 4, 2) := by decide +kernel
theorem dX11_week_66 : decode cX11_week 66 = .ok (.aload_n 0, 1) := by decide +kernel
theorem dX11_week_67 : decode cX11_week 67 = .ok (.getfield 384, 3) := by decide +kernel
theorem dX11_week_70 : decode cX11_week 70 = .ok (.if_icmp .ge 18, 3) := by decide +kernel
theorem dX11_week_73 : decode cX11_week 73 = .ok (.aload_n 0, 1) := by decide +kernel
theorem dX11_week_74 : decode cX11_week 74 = .ok (.iload 4, 2) := by decide +kernel
theorem dX11_week_76 : decode cX11_week 76 = .ok (.invokevirtual 392, 3) := by decide +kernel
theorem dX11_week_79 : decode cX11_week 79 = .ok (.ifCond .eq 9, 3) := by decide +kernel
theorem dX11_week_82 : decode cX11_week 82 = .ok (.iinc 4 1, 3) := by decide +kernel
theorem dX11_week_85 : decode cX11_week 85 = .ok (.goto (-21), 3) := by decide +kernel
theorem dX11_week_88 : decode cX11_week 88 = .ok (.aload_n 0, 1) := by decide +kernel
theorem dX11_week_89 : decode cX11_week 89 = .ok (.iconst 0, 1) := by decide +kernel
theorem dX11_week_90 : decode cX11_week 90 = .ok (.putfield 15, 3) := by decide +kernel
theorem dX11_week_93 : decode cX11_week 93 = .ok (.aload_n 0, 1) := by decide +kernel
theorem dX11_week_94 : decode cX11_week 94 = .ok (.iload 4, 2) := by decide +kernel
theorem dX11_week_96 : decode cX11_week 96 = .ok (.aload_n 0, 1) := by decide +kernel
theorem dX11_week_97 : decode cX11_week 97 = .ok (.getfield 384, 3) := by decide +kernel
theorem dX11_week_100 : decode cX11_week 100 = .ok (.if_icmp .ge 7, 3) := by decide +kernel
theorem dX11_week_103 : decode cX11_week 103 = .ok (.iconst 1, 1) := by decide +kernel
theorem dX11_week_104 : decode cX11_week 104 = .ok (.goto 4, 3) := by decide +kernel
theorem dX11_week_107 : decode cX11_week 107 = .ok (.iconst 0, 1) := by decide +kernel
theorem dX11_week_108 : decode cX11_week 108 = .ok (.invokestatic 159, 3) := by decide +kernel
theorem dX11_week_111 : decode cX11_week 111 = .ok (.i2l, 1) := by decide +kernel
theorem dX11_week_112 : decode cX11_week 112 = .ok (.invokevirtual 18, 3) := by decide +kernel
theorem dX11_week_115 : decode cX11_week 115 = .ok (.aload_n 0, 1) := by decide +kernel
theorem dX11_week_116 : decode cX11_week 116 = .ok (.aload_n 0, 1) := by decide +kernel
theorem dX11_week_117 : decode cX11_week 117 = .ok (.getfield 47, 3) := by decide +kernel
theorem dX11_week_120 : decode cX11_week 120 = .ok (.bipush 37, 2) := by decide +kernel
theorem dX11_week_122 : decode cX11_week 122 = .ok (.iaload, 1) := by decide +kernel
theorem dX11_week_123 : decode cX11_week 123 = .ok (.i2l, 1) := by decide +kernel
theorem dX11_week_124 : decode cX11_week 124 = .ok (.invokevirtual 18, 3) := by decide +kernel
theorem dX11_week_127 : decode cX11_week 127 = .ok (.iload 4, 2) := by decide +kernel
theorem dX11_week_129 : decode cX11_week 129 = .ok (.ifCond .le 12, 3) := by decide +kernel
theorem dX11_week_132 : decode cX11_week 132 = .ok (.aload_n 0, 1) := by decide +kernel
theorem dX11_week_133 : decode cX11_week 133 = .ok (.iload 4, 2) := by decide +kernel
theorem dX11_week_135 : decode cX11_week 135 = .ok (.invokevirtual 333, 3) := by decide +kernel
theorem dX11_week_138 : decode cX11_week 138 = .ok (.goto 4, 3) := by decide +kernel
theorem dX11_week_141 : decode cX11_week 141 = .ok (.iconst 0, 1) := by decide +kernel
theorem dX11_week_142 : decode cX11_week 142 = .ok (.ireturn, 1) := by decide +kernel
theorem s_X11_week_19 {l1_8 : Int} {q : Int × xW} {k : Int → xW → Option (Int × xW)} (hk : ∀ (l2_16 : Int) (s17 : xW), k l2_16 s17 = some q → xG 9 0 0 mX11_week 42 [vR 121, vI l1_8, vI l2_16, vX, vX] [] 155 s17 (xRv (vI q.1) q.2)) : ∀ (f : Nat) (l2_9 : Int) (s10 : xW), F_X11_week_19 l1_8 f l2_9 s10 k = some q → xG 9 0 0 mX11_week 19 [vR 121, vI l1_8, vI l2_9, vX, vX] [] 155 s10 (xRv (vI q.1) q.2) := by
  intro f
  induction f with
  | zero => intro l2_9 s10 h; cases h
  | succ f ih =>
    intro l2_9 s10 h
    unfold F_X11_week_19 at h
    refine g_iln dX11_week_19 rfl rfl ?_
    refine g_yeq dX11_week_20 (tgt := 42) rfl rfl (fun q11 => ?_) (fun q11 => ?_)
    · replace h := xif_f q11 h
      exact hk l2_9 s10 h
    · replace h := xif_t q11 h
      refine g_aln dX11_week_23 rfl rfl (by decide) ?_
      refine g_getI 16 dX11_week_24 fl_X11_144 rfl rfl ?_
      refine g_aln dX11_week_27 rfl rfl (by decide) ?_
      refine g_getI 17 dX11_week_28 fl_X11_156 rfl rfl ?_
      refine g_wge dX11_week_31 (tgt := 42) rfl rfl rfl (fun q12 => ?_) (fun q12 => ?_)
      · replace h := xif_f q12 h
        exact hk l2_9 s10 h
      · replace h := xif_t q12 h
        refine g_aln dX11_week_34 rfl rfl (by decide) ?_
        obtain ⟨r14, s15, e13, h⟩ := xbd_e h
        refine g_cV0v dX11_week_35 ml_X11_389 rfl (s_X11_readsAct e13) (by decide) rfl ?_
        refine g_istn_2 dX11_week_38 (by decide) rfl ?_
        refine g_goto dX11_week_39 (tgt := 19) rfl ?_
        exact ih r14 s15 h
theorem s_X11_week_64 {q : Int × xW} {k : Int → xW → Option (Int × xW)} (hk : ∀ (l4_32 : Int) (s33 : xW), k l4_32 s33 = some q → xG 9 0 0 mX11_week 88 [vR 121, vX, vX, vX, vI l4_32] [] 155 s33 (xRv (vI q.1) q.2)) : ∀ (f : Nat) (l4_25 : Int) (s26 : xW), F_X11_week_64  f l4_25 s26 k = some q → xG 9 0 0 mX11_week 64 [vR 121, vX, vX, vX, vI l4_25] [] 155 s26 (xRv (vI q.1) q.2) := by
  intro f
  induction f with
  | zero => intro l4_25 s26 h; cases h
  | succ f ih =>
    intro l4_25 s26 h
    unfold F_X11_week_64 at h
    refine g_il dX11_week_64 rfl ?_
    refine g_aln dX11_week_66 rfl rfl (by decide) ?_
    refine g_getI 36 dX11_week_67 fl_X11_384 rfl rfl ?_
    refine g_wge dX11_week_70 (tgt := 88) rfl rfl rfl (fun q27 => ?_) (fun q27 => ?_)
    · replace h := xif_f q27 h
      exact hk l4_25 s26 h
    · replace h := xif_t q27 h
      refine g_aln dX11_week_73 rfl rfl (by decide) ?_
      refine g_il dX11_week_74 rfl ?_
      obtain ⟨r29, s30, e28, h⟩ := xbd_e h
      refine g_cV1v dX11_week_76 ml_X11_392 rfl (s_X11_does e28) (by decide) rfl ?_
      refine g_yeq dX11_week_79 (tgt := 88) rfl rfl (fun q31 => ?_) (fun q31 => ?_)
      · replace h := xif_f q31 h
        exact hk l4_25 s30 h
      · replace h := xif_t q31 h
        refine g_inc_4 dX11_week_82 (by decide) rfl ?_
        refine g_goto dX11_week_85 (tgt := 64) rfl ?_
        exact ih (l4_25 + 1) s30 h
theorem s_X11_week {s0 : xW} {q : Int × xW} (h : F_X11_week  s0 = some q) : xC 9 0 0 mX11_week [vR 121] 155 s0 (xRv (vI q.1) q.2) := by
  refine xC.of [vR 121, vX, vX, vX, vX] (by decide +kernel) (Nat.le_of_ble_eq_true rfl) rfl ?_
  unfold F_X11_week at h
  refine g_aln dX11_week_0 rfl rfl (by decide) ?_
  refine g_ic dX11_week_1 ?_
  obtain ⟨s1, e2, h⟩ := xlt_e h
  refine h_putI 0 dX11_week_2 fl_X11_3 rfl rfl e2 ?_
  refine g_aln dX11_week_5 rfl rfl (by decide) ?_
  refine g_bi dX11_week_6 (by decide) ?_
  obtain ⟨r4, s5, e3, h⟩ := xbd_e h
  refine g_cV1v dX11_week_8 ml_X11_201 rfl (s_X11_begins e3) (by decide) rfl ?_
  refine g_istn_1 dX11_week_11 (by decide) rfl ?_
  refine g_aln dX11_week_12 rfl rfl (by decide) ?_
  refine g_ic dX11_week_13 ?_
  obtain ⟨s6, e7, h⟩ := xlt_e h
  refine h_putI 36 dX11_week_14 fl_X11_384 rfl rfl e7 ?_
  refine g_ic dX11_week_17 ?_
  refine g_istn_2 dX11_week_18 (by decide) rfl ?_
  refine s_X11_week_19 (fun l2_18 s19 h => ?_) xN _ _ h
  refine g_aln dX11_week_42 rfl rfl (by decide) ?_
  refine g_iln dX11_week_43 rfl rfl ?_
  refine g_bi dX11_week_44 (by decide) ?_
  refine g_iln dX11_week_46 rfl rfl ?_
  obtain ⟨r21, e20, h⟩ := xbp_e h
  refine g_cV3v dX11_week_47 ml_X11_214 rfl (s_X11_faultOf e20) (by decide) rfl ?_
  refine g_istn_3 dX11_week_50 (by decide) rfl ?_
  refine g_iln dX11_week_51 rfl rfl ?_
  refine g_yge dX11_week_52 (tgt := 57) rfl rfl (fun q22 => ?_) (fun q22 => ?_)
  · replace h := xif_f q22 h
    refine g_aln dX11_week_57 rfl rfl (by decide) ?_
    obtain ⟨s24, e23, h⟩ := xbp_e h
    refine g_cV00 dX11_week_58 ml_X11_361 rfl (s_X11_putsBy e23) (by decide) rfl ?_
    refine g_ic dX11_week_61 ?_
    refine g_ist_4 dX11_week_62 (by decide) rfl ?_
    refine g_drop_1 ?_
    refine g_drop_2 ?_
    refine g_drop_3 ?_
    refine s_X11_week_64 (fun l4_34 s35 h => ?_) xN _ _ h
    refine g_aln dX11_week_88 rfl rfl (by decide) ?_
    refine g_ic dX11_week_89 ?_
    obtain ⟨s36, e37, h⟩ := xlt_e h
    refine h_putI 1 dX11_week_90 fl_X11_15 rfl rfl e37 ?_
    refine g_aln dX11_week_93 rfl rfl (by decide) ?_
    refine g_il dX11_week_94 rfl ?_
    refine g_aln dX11_week_96 rfl rfl (by decide) ?_
    refine g_getI 36 dX11_week_97 fl_X11_384 rfl rfl ?_
    obtain ⟨v39, e40, h⟩ := xlt_e h
    have hj41 : xG 9 0 0 mX11_week 108 [vR 121, vX, vX, vX, vI l4_34] [vI v39, vR 121] 155 s36 (xRv (vI q.1) q.2) := by
      obtain ⟨r43, e42, h⟩ := xbp_e h
      refine g_cS1v dX11_week_108 ml_X11_159 (s_X11_flag e42) (by decide) rfl ?_
      refine g_wi2l dX11_week_111 rfl ?_
      obtain ⟨s45, e44, h⟩ := xbp_e h
      refine g_cV10 dX11_week_112 ml_X11_18 rfl (s_X11_enters e44) (by decide) rfl ?_
      refine g_aln dX11_week_115 rfl rfl (by decide) ?_
      refine g_aln dX11_week_116 rfl rfl (by decide) ?_
      refine g_getC 127 dX11_week_117 fl_X11_47 rfl (by decide) ?_
      refine g_bi dX11_week_120 (by decide) ?_
      refine g_iald 40 dX11_week_122 rfl (by decide) (by decide) ?_
      refine g_wi2l dX11_week_123 rfl ?_
      obtain ⟨s47, e46, h⟩ := xbp_e h
      refine g_cV10 dX11_week_124 ml_X11_18 rfl (s_X11_enters e46) (by decide) rfl ?_
      refine g_il dX11_week_127 rfl ?_
      obtain ⟨j50, ej51, h⟩ := xjn_e h
      have hj52 : ∀ (t48 : Int) (s49 : xW), j50 t48 s49 = some q → xG 9 0 0 mX11_week 142 [vX, vX, vX, vX, vX] [vI t48] 155 s49 (xRv (vI q.1) q.2) := by
        intro t48 s49 h
        rw [ej51] at h
        exact g_rI rfl dX11_week_142 h
      clear ej51
      refine g_yle dX11_week_129 (tgt := 141) rfl rfl (fun q53 => ?_) (fun q53 => ?_)
      · replace h := xif_f q53 h
        refine g_ic dX11_week_141 ?_
        refine g_drop_0 ?_
        refine g_drop_4 ?_
        exact hj52 0 s47 h
      · replace h := xif_t q53 h
        refine g_aln dX11_week_132 rfl rfl (by decide) ?_
        refine g_il dX11_week_133 rfl ?_
        obtain ⟨r55, s56, e54, h⟩ := xbd_e h
        refine g_cV1v dX11_week_135 ml_X11_333 rfl (s_X11_adds e54) (by decide) rfl ?_
        refine g_goto dX11_week_138 (tgt := 142) rfl ?_
        refine g_drop_0 ?_
        refine g_drop_4 ?_
        exact hj52 r55 s56 h
    refine g_wge dX11_week_100 (tgt := 107) rfl rfl rfl (fun c38 => ?_) (fun c38 => ?_)
    · skip
      refine g_ic dX11_week_107 ?_
      exact g_vq ((if_neg c38).symm.trans e40) hj41
    · skip
      refine g_ic dX11_week_103 ?_
      refine g_goto dX11_week_104 (tgt := 108) rfl ?_
      exact g_vq ((if_pos c38).symm.trans e40) hj41
  · replace h := xif_t q22 h
    refine g_iln dX11_week_55 rfl rfl ?_
    exact g_rI rfl dX11_week_56 h
theorem dX11_winds_0 : decode cX11_winds 0 = .ok (.aload_n 0, 1) := by decide +kernel
theorem dX11_winds_1 : decode cX11_winds 1 = .ok (.iconst 0, 1) := by decide +kernel
theorem dX11_winds_2 : decode cX11_winds 2 = .ok (.putfield 3, 3) := by decide +kernel
theorem dX11_winds_5 : decode cX11_winds 5 = .ok (.aload_n 0, 1) := by decide +kernel
theorem dX11_winds_6 : decode cX11_winds 6 = .ok (.invokevirtual 231, 3) := by decide +kernel
theorem dX11_winds_9 : decode cX11_winds 9 = .ok (.istore_n 1, 1) := by decide +kernel
theorem dX11_winds_10 : decode cX11_winds 10 = .ok (.iload_n 1, 1) := by decide +kernel
theorem dX11_winds_11 : decode cX11_winds 11 = .ok (.ifCond .ge 5, 3) := by decide +kernel
theorem dX11_winds_14 : decode cX11_winds 14 = .ok (.iload_n 1, 1) := by decide +kernel
theorem dX11_winds_15 : decode cX11_winds 15 = .ok (.ireturn, 1) := by decide +kernel
theorem dX11_winds_16 : decode cX11_winds 16 = .ok (.aload_n 0, 1) := by decide +kernel
theorem dX11_winds_17 : decode cX11_winds 17 = .ok (.iload_n 1, 1) := by decide +kernel
theorem dX11_winds_18 : decode cX11_winds 18 = .ok (.putfield 28, 3) := by decide +kernel
theorem dX11_winds_21 : decode cX11_winds 21 = .ok (.iconst 0, 1) := by decide +kernel
theorem dX11_winds_22 : decode cX11_winds 22 = .ok (.istore_n 2, 1) := by decide +kernel
theorem dX11_winds_23 : decode cX11_winds 23 = .ok (.iload_n 2, 1) := by decide +kernel
theorem dX11_winds_24 : decode cX11_winds 24 = .ok (.iload_n 1, 1) := by decide +kernel
theorem dX11_winds_25 : decode cX11_winds 25 = .ok (.if_icmp .ge 21, 3) := by decide +kernel
theorem dX11_winds_28 : decode cX11_winds 28 = .ok (.aload_n 0, 1) := by decide +kernel
theorem dX11_winds_29 : decode cX11_winds 29 = .ok (.getfield 34, 3) := by decide +kernel
theorem dX11_winds_32 : decode cX11_winds 32 = .ok (.iload_n 2, 1) := by decide +kernel
theorem dX11_winds_33 : decode cX11_winds 33 = .ok (.aload_n 0, 1) := by decide +kernel
theorem dX11_winds_34 : decode cX11_winds 34 = .ok (.getfield 56, 3) := by decide +kernel
theorem dX11_winds_37 : decode cX11_winds 37 = .ok (.iload_n 2, 1) := by decide +kernel
theorem dX11_winds_38 : decode cX11_winds 38 = .ok (.iaload, 1) := by decide +kernel
theorem dX11_winds_39 : decode cX11_winds 39 = .ok (.iastore, 1) := by decide +kernel
theorem dX11_winds_40 : decode cX11_winds 40 = .ok (.iinc 2 1, 3) := by decide +kernel
theorem dX11_winds_43 : decode cX11_winds 43 = .ok (.goto (-20), 3) := by decide +kernel
theorem dX11_winds_46 : decode cX11_winds 46 = .ok (.iload_n 1, 1) := by decide +kernel
theorem dX11_winds_47 : decode cX11_winds 47 = .ok (.ireturn, 1) := by decide +kernel
theorem s_X11_winds_23 {l1_9 : Int} {q : Int × xW} {k : Int → xW → Option (Int × xW)} (hk : ∀ (l2_17 : Int) (s18 : xW), k l2_17 s18 = some q → xG 4 0 0 mX11_winds 46 [vR 121, vI l1_9, vI l2_17] [] 155 s18 (xRv (vI q.1) q.2)) : ∀ (f : Nat) (l2_10 : Int) (s11 : xW), F_X11_winds_23 l1_9 f l2_10 s11 k = some q → xG 4 0 0 mX11_winds 23 [vR 121, vI l1_9, vI l2_10] [] 155 s11 (xRv (vI q.1) q.2) := by
  intro f
  induction f with
  | zero => intro l2_10 s11 h; cases h
  | succ f ih =>
    intro l2_10 s11 h
    unfold F_X11_winds_23 at h
    refine g_iln dX11_winds_23 rfl rfl ?_
    refine g_iln dX11_winds_24 rfl rfl ?_
    refine g_wge dX11_winds_25 (tgt := 46) rfl rfl rfl (fun q12 => ?_) (fun q12 => ?_)
    · replace h := xif_f q12 h
      exact hk l2_10 s11 h
    · replace h := xif_t q12 h
      refine g_aln dX11_winds_28 rfl rfl (by decide) ?_
      refine g_getC 123 dX11_winds_29 fl_X11_34 rfl (by decide) ?_
      refine g_iln dX11_winds_32 rfl rfl ?_
      refine g_aln dX11_winds_33 rfl rfl (by decide) ?_
      refine g_getC 130 dX11_winds_34 fl_X11_56 rfl (by decide) ?_
      refine g_iln dX11_winds_37 rfl rfl ?_
      obtain ⟨hg13, h⟩ := xgd_e h
      refine g_iald 24 dX11_winds_38 rfl hg13 (by decide) ?_
      obtain ⟨hg14, h⟩ := xgd_e h
      obtain ⟨s15, e16, h⟩ := xlt_e h
      refine h_iast 20 dX11_winds_39 rfl hg14 (by decide) e16 ?_
      refine g_inc_2 dX11_winds_40 (by decide) rfl ?_
      refine g_goto dX11_winds_43 (tgt := 23) rfl ?_
      exact ih (l2_10 + 1) s15 h
theorem s_X11_winds {s0 : xW} {q : Int × xW} (h : F_X11_winds  s0 = some q) : xC 4 0 0 mX11_winds [vR 121] 155 s0 (xRv (vI q.1) q.2) := by
  refine xC.of [vR 121, vX, vX] (by decide +kernel) (Nat.le_of_ble_eq_true rfl) rfl ?_
  unfold F_X11_winds at h
  refine g_aln dX11_winds_0 rfl rfl (by decide) ?_
  refine g_ic dX11_winds_1 ?_
  obtain ⟨s1, e2, h⟩ := xlt_e h
  refine h_putI 0 dX11_winds_2 fl_X11_3 rfl rfl e2 ?_
  refine g_aln dX11_winds_5 rfl rfl (by decide) ?_
  obtain ⟨r4, s5, e3, h⟩ := xbd_e h
  refine g_cV0v dX11_winds_6 ml_X11_231 rfl (s_X11_readsDigits e3) (by decide) rfl ?_
  refine g_istn_1 dX11_winds_9 (by decide) rfl ?_
  refine g_iln dX11_winds_10 rfl rfl ?_
  refine g_yge dX11_winds_11 (tgt := 16) rfl rfl (fun q6 => ?_) (fun q6 => ?_)
  · replace h := xif_f q6 h
    refine g_aln dX11_winds_16 rfl rfl (by decide) ?_
    refine g_iln dX11_winds_17 rfl rfl ?_
    obtain ⟨s7, e8, h⟩ := xlt_e h
    refine h_putI 6 dX11_winds_18 fl_X11_28 rfl rfl e8 ?_
    refine g_ic dX11_winds_21 ?_
    refine g_istn_2 dX11_winds_22 (by decide) rfl ?_
    refine s_X11_winds_23 (fun l2_19 s20 h => ?_) xN _ _ h
    refine g_iln dX11_winds_46 rfl rfl ?_
    exact g_rI rfl dX11_winds_47 h
  · replace h := xif_t q6 h
    refine g_iln dX11_winds_14 rfl rfl ?_
    exact g_rI rfl dX11_winds_15 h
theorem dX11_years_0 : decode cX11_years 0 = .ok (.aload_n 0, 1) := by decide +kernel
theorem dX11_years_1 : decode cX11_years 1 = .ok (.iconst 0, 1) := by decide +kernel
theorem dX11_years_2 : decode cX11_years 2 = .ok (.putfield 3, 3) := by decide +kernel
theorem dX11_years_5 : decode cX11_years 5 = .ok (.iload_n 2, 1) := by decide +kernel
theorem dX11_years_6 : decode cX11_years 6 = .ok (.i2l, 1) := by decide +kernel
theorem dX11_years_7 : decode cX11_years 7 = .ok (.lconst 1, 1) := by decide +kernel
theorem dX11_years_8 : decode cX11_years 8 = .ok (.ldc2_w 359, 3) := by decide +kernel
theorem dX11_years_11 : decode cX11_years 11 = .ok (.invokestatic 132, 3) := by decide +kernel
theorem dX11_years_14 : decode cX11_years 14 = .ok (.ifCond .ne 5, 3) := by decide +kernel
theorem dX11_years_17 : decode cX11_years 17 = .ok (.iconst (-1), 1) := by decide +kernel
theorem dX11_years_18 : decode cX11_years 18 = .ok (.ireturn, 1) := by decide +kernel
theorem dX11_years_19 : decode cX11_years 19 = .ok (.aload_n 0, 1) := by decide +kernel
theorem dX11_years_20 : decode cX11_years 20 = .ok (.iload_n 1, 1) := by decide +kernel
theorem dX11_years_21 : decode cX11_years 21 = .ok (.putfield 457, 3) := by decide +kernel
theorem dX11_years_24 : decode cX11_years 24 = .ok (.aload_n 0, 1) := by decide +kernel
theorem dX11_years_25 : decode cX11_years 25 = .ok (.invokevirtual 400, 3) := by decide +kernel
theorem dX11_years_28 : decode cX11_years 28 = .ok (.aload_n 0, 1) := by decide +kernel
theorem dX11_years_29 : decode cX11_years 29 = .ok (.aload_n 0, 1) := by decide +kernel
theorem dX11_years_30 : decode cX11_years 30 = .ok (.getfield 50, 3) := by decide +kernel
theorem dX11_years_33 : decode cX11_years 33 = .ok (.iconst 0, 1) := by decide +kernel
theorem dX11_years_34 : decode cX11_years 34 = .ok (.invokevirtual 364, 3) := by decide +kernel
theorem dX11_years_37 : decode cX11_years 37 = .ok (.iconst 0, 1) := by decide +kernel
theorem dX11_years_38 : decode cX11_years 38 = .ok (.istore_n 3, 1) := by decide +kernel
theorem dX11_years_39 : decode cX11_years 39 = .ok (.iload_n 3, 1) := by decide +kernel
theorem dX11_years_40 : decode cX11_years 40 = .ok (.iload_n 2, 1) := by decide +kernel
theorem dX11_years_41 : decode cX11_years 41 = .ok (.if_icmp .ge 118, 3) := by decide +kernel
theorem dX11_years_44 : decode cX11_years 44 = .ok (.aload_n 0, 1) := by decide +kernel
theorem dX11_years_45 : decode cX11_years 45 = .ok (.iconst 4, 1) := by decide +kernel
theorem dX11_years_46 : decode cX11_years 46 = .ok (.invokevirtual 461, 3) := by decide +kernel
theorem dX11_years_49 : decode cX11_years 49 = .ok (.istore 4, 2) := by decide +kernel
theorem dX11_years_51 : decode cX11_years 51 = .ok (.iload 4, 2) := by decide +kernel
theorem dX11_years_53 : decode cX11_years 53 = .ok (.iconst 2, 1) := by decide +kernel
theorem dX11_years_54 : decode cX11_years 54 = .ok (.if_icmp .ge 14, 3) := by decide +kernel
theorem dX11_years_57 : decode cX11_years 57 = .ok (.aload_n 0, 1) := by decide +kernel
theorem dX11_years_58 : decode cX11_years 58 = .ok (.aload_n 0, 1) := by decide +kernel
theorem dX11_years_59 : decode cX11_years 59 = .ok (.getfield 50, 3) := by decide +kernel
theorem dX11_years_62 : decode cX11_years 62 = .ok (.invokevirtual 346, 3) := by decide +kernel
theorem dX11_years_65 : decode cX11_years 65 = .ok (.goto 88, 3) := by decide +kernel
theorem dX11_years_68 : decode cX11_years 68 = .ok (.iload 4, 2) := by decide +kernel
theorem dX11_years_70 : decode cX11_years 70 = .ok (.iconst 2, 1) := by decide +kernel
theorem dX11_years_71 : decode cX11_years 71 = .ok (.if_icmp .eq 10, 3) := by decide +kernel
theorem dX11_years_74 : decode cX11_years 74 = .ok (.aload_n 0, 1) := by decide +kernel
theorem dX11_years_75 : decode cX11_years 75 = .ok (.getfield 129, 3) := by decide +kernel
theorem dX11_years_78 : decode cX11_years 78 = .ok (.ifCond .le 75, 3) := by decide +kernel
theorem dX11_years_81 : decode cX11_years 81 = .ok (.iload 4, 2) := by decide +kernel
theorem dX11_years_83 : decode cX11_years 83 = .ok (.iconst 2, 1) := by decide +kernel
theorem dX11_years_84 : decode cX11_years 84 = .ok (.if_icmp .ne 7, 3) := by decide +kernel
theorem dX11_years_87 : decode cX11_years 87 = .ok (.iconst 0, 1) := by decide +kernel
theorem dX11_years_88 : decode cX11_years 88 = .ok (.goto 11, 3) := by decide +kernel
theorem dX11_years_91 : decode cX11_years 91 = .ok (.aload_n 0, 1) := by decide +kernel
theorem dX11_years_92 : decode cX11_years 92 = .ok (.aload_n 0, 1) := by decide +kernel
theorem dX11_years_93 : decode cX11_years 93 = .ok (.getfield 129, 3) := by decide +kernel
theorem dX11_years_96 : decode cX11_years 96 = .ok (.invokevirtual 461, 3) := by decide +kernel
theorem dX11_years_99 : decode cX11_years 99 = .ok (.istore 5, 2) := by decide +kernel
theorem dX11_years_101 : decode cX11_years 101 = .ok (.aload_n 0, 1) := by decide +kernel
theorem dX11_years_102 : decode cX11_years 102 = .ok (.bipush 10, 2) := by decide +kernel
theorem dX11_years_104 : decode cX11_years 104 = .ok (.invokevirtual 461, 3) := by decide +kernel
theorem dX11_years_107 : decode cX11_years 107 = .ok (.istore 6, 2) := by decide +kernel
theorem dX11_years_109 : decode cX11_years 109 = .ok (.aload_n 0, 1) := by decide +kernel
theorem dX11_years_110 : decode cX11_years 110 = .ok (.bipush 10, 2) := by decide +kernel
theorem dX11_years_112 : decode cX11_years 112 = .ok (.invokevirtual 461, 3) := by decide +kernel
theorem dX11_years_115 : decode cX11_years 115 = .ok (.istore 7, 2) := by decide +kernel
theorem dX11_years_117 : decode cX11_years 117 = .ok (.iload 4, 2) := by decide +kernel
theorem dX11_years_119 : decode cX11_years 119 = .ok (.iconst 2, 1) := by decide +kernel
theorem dX11_years_120 : decode cX11_years 120 = .ok (.if_icmp .ne 18, 3) := by decide +kernel
theorem dX11_years_123 : decode cX11_years 123 = .ok (.aload_n 0, 1) := by decide +kernel
theorem dX11_years_124 : decode cX11_years 124 = .ok (.getfield 50, 3) := by decide +kernel
theorem dX11_years_127 : decode cX11_years 127 = .ok (.iload 6, 2) := by decide +kernel
theorem dX11_years_129 : decode cX11_years 129 = .ok (.iload 7, 2) := by decide +kernel
theorem dX11_years_131 : decode cX11_years 131 = .ok (.invokestatic 373, 3) := by decide +kernel
theorem dX11_years_134 : decode cX11_years 134 = .ok (.pop, 1) := by decide +kernel
theorem dX11_years_135 : decode cX11_years 135 = .ok (.goto 18, 3) := by decide +kernel
theorem dX11_years_138 : decode cX11_years 138 = .ok (.aload_n 0, 1) := by decide +kernel
theorem dX11_years_139 : decode cX11_years 139 = .ok (.aload_n 0, 1) := by decide +kernel
theorem dX11_years_140 : decode cX11_years 140 = .ok (.getfield 50, 3) := by decide +kernel
theorem dX11_years_143 : decode cX11_years 143 = .ok (.iload 5, 2) := by decide +kernel
theorem dX11_years_145 : decode cX11_years 145 = .ok (.iload 6, 2) := by decide +kernel
theorem dX11_years_147 : decode cX11_years 147 = .ok (.iload 7, 2) := by decide +kernel
theorem dX11_years_149 : decode cX11_years 149 = .ok (.invokevirtual 377, 3) := by decide +kernel
theorem dX11_years_152 : decode cX11_years 152 = .ok (.pop, 1) := by decide +kernel
theorem dX11_years_153 : decode cX11_years 153 = .ok (.iinc 3 1, 3) := by decide +kernel
theorem dX11_years_156 : decode cX11_years 156 = .ok (.goto (-117), 3) := by decide +kernel
theorem dX11_years_159 : decode cX11_years 159 = .ok (.aload_n 0, 1) := by decide +kernel
theorem dX11_years_160 : decode cX11_years 160 = .ok (.iconst 0, 1) := by decide +kernel
theorem dX11_years_161 : decode cX11_years 161 = .ok (.putfield 15, 3) := by decide +kernel
theorem dX11_years_164 : decode cX11_years 164 = .ok (.aload_n 0, 1) := by decide +kernel
theorem dX11_years_165 : decode cX11_years 165 = .ok (.aload_n 0, 1) := by decide +kernel
theorem dX11_years_166 : decode cX11_years 166 = .ok (.getfield 50, 3) := by decide +kernel
theorem dX11_years_169 : decode cX11_years 169 = .ok (.bipush 36, 2) := by decide +kernel
theorem dX11_years_171 : decode cX11_years 171 = .ok (.iaload, 1) := by decide +kernel
theorem dX11_years_172 : decode cX11_years 172 = .ok (.i2l, 1) := by decide +kernel
theorem dX11_years_173 : decode cX11_years 173 = .ok (.invokevirtual 18, 3) := by decide +kernel
theorem dX11_years_176 : decode cX11_years 176 = .ok (.aload_n 0, 1) := by decide +kernel
theorem dX11_years_177 : decode cX11_years 177 = .ok (.aload_n 0, 1) := by decide +kernel
theorem dX11_years_178 : decode cX11_years 178 = .ok (.getfield 343, 3) := by decide +kernel
theorem dX11_years_181 : decode cX11_years 181 = .ok (.i2l, 1) := by decide +kernel
theorem dX11_years_182 : decode cX11_years 182 = .ok (.invokevirtual 18, 3) := by decide +kernel
theorem dX11_years_185 : decode cX11_years 185 = .ok (.aload_n 0, 1) := by decide +kernel
theorem dX11_years_186 : decode cX11_years 186 = .ok (.getfield 340, 3) := by decide +kernel
theorem dX11_years_189 : decode cX11_years 189 = .ok (.ireturn, 1) := by decide +kernel
theorem s_X11_years_39 {l2_12 : Int} {q : Int × xW} {k : Int → xW → Option (Int × xW)} (hk : ∀ (l3_53 : Int) (s54 : xW), k l3_53 s54 = some q → xG 9 0 0 mX11_years 159 [vR 121, vX, vI l2_12, vI l3_53, vX, vX, vX, vX] [] 155 s54 (xRv (vI q.1) q.2)) : ∀ (f : Nat) (l3_13 : Int) (s14 : xW), F_X11_years_39 l2_12 f l3_13 s14 k = some q → xG 9 0 0 mX11_years 39 [vR 121, vX, vI l2_12, vI l3_13, vX, vX, vX, vX] [] 155 s14 (xRv (vI q.1) q.2) := by
  intro f
  induction f with
  | zero => intro l3_13 s14 h; cases h
  | succ f ih =>
    intro l3_13 s14 h
    unfold F_X11_years_39 at h
    refine g_iln dX11_years_39 rfl rfl ?_
    refine g_iln dX11_years_40 rfl rfl ?_
    refine g_wge dX11_years_41 (tgt := 159) rfl rfl rfl (fun q15 => ?_) (fun q15 => ?_)
    · replace h := xif_f q15 h
      exact hk l3_13 s14 h
    · replace h := xif_t q15 h
      refine g_aln dX11_years_44 rfl rfl (by decide) ?_
      refine g_ic dX11_years_45 ?_
      obtain ⟨r17, s18, e16, h⟩ := xbd_e h
      refine g_cV1v dX11_years_46 ml_X11_461 rfl (s_X11_draws e16) (by decide) rfl ?_
      refine g_ist_4 dX11_years_49 (by decide) rfl ?_
      refine g_il dX11_years_51 rfl ?_
      refine g_ic dX11_years_53 ?_
      obtain ⟨j20, ej21, h⟩ := xjn_e h
      have hj22 : ∀ (s19 : xW), j20 s19 = some q → xG 9 0 0 mX11_years 153 [vR 121, vX, vI l2_12, vI l3_13, vX, vX, vX, vX] [] 155 s19 (xRv (vI q.1) q.2) := by
        intro s19 h
        rw [ej21] at h
        refine g_inc_3 dX11_years_153 (by decide) rfl ?_
        refine g_goto dX11_years_156 (tgt := 39) rfl ?_
        exact ih (l3_13 + 1) s19 h
      clear ej21
      refine g_wge dX11_years_54 (tgt := 68) rfl rfl (xw_id (by decide)) (fun q23 => ?_) (fun q23 => ?_)
      · replace h := xif_f q23 h
        refine g_il dX11_years_68 rfl ?_
        refine g_ic dX11_years_70 ?_
        obtain ⟨j24, ej25, h⟩ := xjn_e h
        have hj26 : j24  = some q → xG 9 0 0 mX11_years 81 [vR 121, vX, vI l2_12, vI l3_13, vI r17, vX, vX, vX] [] 155 s18 (xRv (vI q.1) q.2) := by
          intro  h
          rw [ej25] at h
          refine g_il dX11_years_81 rfl ?_
          refine g_ic dX11_years_83 ?_
          obtain ⟨j29, ej30, h⟩ := xjn_e h
          have hj31 : ∀ (t27 : Int) (s28 : xW), j29 t27 s28 = some q → xG 9 0 0 mX11_years 99 [vR 121, vX, vI l2_12, vI l3_13, vI r17, vX, vX, vX] [vI t27] 155 s28 (xRv (vI q.1) q.2) := by
            intro t27 s28 h
            rw [ej30] at h
            refine g_ist_5 dX11_years_99 (by decide) rfl ?_
            refine g_aln dX11_years_101 rfl rfl (by decide) ?_
            refine g_bi dX11_years_102 (by decide) ?_
            obtain ⟨r33, s34, e32, h⟩ := xbd_e h
            refine g_cV1v dX11_years_104 ml_X11_461 rfl (s_X11_draws e32) (by decide) rfl ?_
            refine g_ist_6 dX11_years_107 (by decide) rfl ?_
            refine g_aln dX11_years_109 rfl rfl (by decide) ?_
            refine g_bi dX11_years_110 (by decide) ?_
            obtain ⟨r36, s37, e35, h⟩ := xbd_e h
            refine g_cV1v dX11_years_112 ml_X11_461 rfl (s_X11_draws e35) (by decide) rfl ?_
            refine g_ist_7 dX11_years_115 (by decide) rfl ?_
            refine g_il dX11_years_117 rfl ?_
            refine g_ic dX11_years_119 ?_
            refine g_wne dX11_years_120 (tgt := 138) rfl rfl (xw_id (by decide)) (fun q38 => ?_) (fun q38 => ?_)
            · replace h := xif_f q38 h
              refine g_aln dX11_years_138 rfl rfl (by decide) ?_
              refine g_aln dX11_years_139 rfl rfl (by decide) ?_
              refine g_getC 128 dX11_years_140 fl_X11_50 rfl (by decide) ?_
              refine g_il dX11_years_143 rfl ?_
              refine g_il dX11_years_145 rfl ?_
              refine g_il dX11_years_147 rfl ?_
              obtain ⟨r40, s41, e39, h⟩ := xbd_e h
              refine g_cV4v dX11_years_149 ml_X11_377 rfl (s_X11_movesTo e39) (by decide) rfl ?_
              refine g_pop dX11_years_152 rfl ?_
              refine g_drop_4 ?_
              refine g_drop_5 ?_
              refine g_drop_6 ?_
              refine g_drop_7 ?_
              exact hj22 s41 h
            · replace h := xif_t q38 h
              refine g_aln dX11_years_123 rfl rfl (by decide) ?_
              refine g_getC 128 dX11_years_124 fl_X11_50 rfl (by decide) ?_
              refine g_il dX11_years_127 rfl ?_
              refine g_il dX11_years_129 rfl ?_
              obtain ⟨r43, s44, e42, h⟩ := xbd_e h
              refine g_cS3v dX11_years_131 ml_X11_373 (s_X11_haulsTo e42) (by decide) rfl ?_
              refine g_pop dX11_years_134 rfl ?_
              refine g_goto dX11_years_135 (tgt := 153) rfl ?_
              refine g_drop_4 ?_
              refine g_drop_5 ?_
              refine g_drop_6 ?_
              refine g_drop_7 ?_
              exact hj22 s44 h
          clear ej30
          refine g_wne dX11_years_84 (tgt := 91) rfl rfl (xw_id (by decide)) (fun q45 => ?_) (fun q45 => ?_)
          · replace h := xif_f q45 h
            refine g_aln dX11_years_91 rfl rfl (by decide) ?_
            refine g_aln dX11_years_92 rfl rfl (by decide) ?_
            refine g_getI 3 dX11_years_93 fl_X11_129 rfl rfl ?_
            obtain ⟨r47, s48, e46, h⟩ := xbd_e h
            refine g_cV1v dX11_years_96 ml_X11_461 rfl (s_X11_draws e46) (by decide) rfl ?_
            exact hj31 r47 s48 h
          · replace h := xif_t q45 h
            refine g_ic dX11_years_87 ?_
            refine g_goto dX11_years_88 (tgt := 99) rfl ?_
            exact hj31 0 s18 h
        clear ej25
        refine g_weq dX11_years_71 (tgt := 81) rfl rfl (xw_id (by decide)) (fun q49 => ?_) (fun q49 => ?_)
        · replace h := xif_f q49 h
          exact hj26  h
        · replace h := xif_t q49 h
          refine g_aln dX11_years_74 rfl rfl (by decide) ?_
          refine g_getI 3 dX11_years_75 fl_X11_129 rfl rfl ?_
          refine g_yle dX11_years_78 (tgt := 153) rfl rfl (fun q50 => ?_) (fun q50 => ?_)
          · replace h := xif_f q50 h
            refine g_drop_4 ?_
            exact hj22 s18 h
          · replace h := xif_t q50 h
            exact hj26  h
      · replace h := xif_t q23 h
        refine g_aln dX11_years_57 rfl rfl (by decide) ?_
        refine g_aln dX11_years_58 rfl rfl (by decide) ?_
        refine g_getC 128 dX11_years_59 fl_X11_50 rfl (by decide) ?_
        obtain ⟨s52, e51, h⟩ := xbp_e h
        refine g_cV10 dX11_years_62 ml_X11_346 rfl (s_X11_dayGoes e51) (by decide) rfl ?_
        refine g_goto dX11_years_65 (tgt := 153) rfl ?_
        refine g_drop_4 ?_
        exact hj22 s52 h
theorem s_X11_years {a1 a2 : Int} {s0 : xW} {q : Int × xW} (h : F_X11_years a1 a2 s0 = some q) : xC 9 0 0 mX11_years [vR 121, vI a1, vI a2] 155 s0 (xRv (vI q.1) q.2) := by
  refine xC.of [vR 121, vI a1, vI a2, vX, vX, vX, vX, vX] (by decide +kernel) (Nat.le_of_ble_eq_true rfl) rfl ?_
  unfold F_X11_years at h
  refine g_aln dX11_years_0 rfl rfl (by decide) ?_
  refine g_ic dX11_years_1 ?_
  obtain ⟨s1, e2, h⟩ := xlt_e h
  refine h_putI 0 dX11_years_2 fl_X11_3 rfl rfl e2 ?_
  refine g_iln dX11_years_5 rfl rfl ?_
  refine g_wi2l dX11_years_6 rfl ?_
  refine g_lc dX11_years_7 (w := 1) rfl ?_
  refine g_ldc2 dX11_years_8 ct_X11_359 (w := 60) rfl ?_
  obtain ⟨r4, e3, h⟩ := xbp_e h
  refine g_cS3v dX11_years_11 ml_X11_132 (s_X11_in e3) (by decide) rfl ?_
  refine g_yne dX11_years_14 (tgt := 19) rfl rfl (fun q5 => ?_) (fun q5 => ?_)
  · replace h := xif_f q5 h
    refine g_aln dX11_years_19 rfl rfl (by decide) ?_
    refine g_iln dX11_years_20 rfl rfl ?_
    obtain ⟨s6, e7, h⟩ := xlt_e h
    refine h_putI 48 dX11_years_21 fl_X11_457 rfl rfl e7 ?_
    refine g_aln dX11_years_24 rfl rfl (by decide) ?_
    obtain ⟨s9, e8, h⟩ := xbp_e h
    refine g_cV00 dX11_years_25 ml_X11_400 rfl (s_X11_copies e8) (by decide) rfl ?_
    refine g_aln dX11_years_28 rfl rfl (by decide) ?_
    refine g_aln dX11_years_29 rfl rfl (by decide) ?_
    refine g_getC 128 dX11_years_30 fl_X11_50 rfl (by decide) ?_
    refine g_ic dX11_years_33 ?_
    obtain ⟨s11, e10, h⟩ := xbp_e h
    refine g_cV20 dX11_years_34 ml_X11_364 rfl (s_X11_goesOn e10) (by decide) rfl ?_
    refine g_ic dX11_years_37 ?_
    refine g_istn_3 dX11_years_38 (by decide) rfl ?_
    refine g_drop_1 ?_
    refine s_X11_years_39 (fun l3_55 s56 h => ?_) xN _ _ h
    refine g_aln dX11_years_159 rfl rfl (by decide) ?_
    refine g_ic dX11_years_160 ?_
    obtain ⟨s57, e58, h⟩ := xlt_e h
    refine h_putI 1 dX11_years_161 fl_X11_15 rfl rfl e58 ?_
    refine g_aln dX11_years_164 rfl rfl (by decide) ?_
    refine g_aln dX11_years_165 rfl rfl (by decide) ?_
    refine g_getC 128 dX11_years_166 fl_X11_50 rfl (by decide) ?_
    refine g_bi dX11_years_169 (by decide) ?_
    refine g_iald 40 dX11_years_171 rfl (by decide) (by decide) ?_
    refine g_wi2l dX11_years_172 rfl ?_
    obtain ⟨s60, e59, h⟩ := xbp_e h
    refine g_cV10 dX11_years_173 ml_X11_18 rfl (s_X11_enters e59) (by decide) rfl ?_
    refine g_aln dX11_years_176 rfl rfl (by decide) ?_
    refine g_aln dX11_years_177 rfl rfl (by decide) ?_
    refine g_getI 31 dX11_years_178 fl_X11_343 rfl rfl ?_
    refine g_wi2l dX11_years_181 rfl ?_
    obtain ⟨s62, e61, h⟩ := xbp_e h
    refine g_cV10 dX11_years_182 ml_X11_18 rfl (s_X11_enters e61) (by decide) rfl ?_
    refine g_aln dX11_years_185 rfl rfl (by decide) ?_
    refine g_getI 30 dX11_years_186 fl_X11_340 rfl rfl ?_
    exact g_rI rfl dX11_years_189 h
  · replace h := xif_t q5 h
    refine g_ic dX11_years_17 ?_
    exact g_rI rfl dX11_years_18 h
