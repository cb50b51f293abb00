theorem dX11_fewest_0 : decode cX11_fewest 0 = .ok (.aload_n 0, 1) := by decide +kernel
theorem dX11_fewest_1 : decode cX11_fewest 1 = .ok (.iconst 0, 1) := by decide +kernel
theorem dX11_fewest_2 : decode cX11_fewest 2 = .ok (.putfield 3, 3) := by decide +kernel
theorem dX11_fewest_5 : decode cX11_fewest 5 = .ok (.aload_n 0, 1) := by decide +kernel
theorem dX11_fewest_6 : decode cX11_fewest 6 = .ok (.invokevirtual 407, 3) := by decide +kernel
theorem dX11_fewest_9 : decode cX11_fewest 9 = .ok (.iconst 1, 1) := by decide +kernel
theorem dX11_fewest_10 : decode cX11_fewest 10 = .ok (.aload_n 0, 1) := by decide +kernel
theorem dX11_fewest_11 : decode cX11_fewest 11 = .ok (.getfield 136, 3) := by decide +kernel
theorem dX11_fewest_14 : decode cX11_fewest 14 = .ok (.ishl, 1) := by decide +kernel
theorem dX11_fewest_15 : decode cX11_fewest 15 = .ok (.iconst 1, 1) := by decide +kernel
theorem dX11_fewest_16 : decode cX11_fewest 16 = .ok (.isub, 1) := by decide +kernel
theorem dX11_fewest_17 : decode cX11_fewest 17 = .ok (.istore_n 1, 1) := by decide +kernel
theorem dX11_fewest_18 : decode cX11_fewest 18 = .ok (.iconst (-1), 1) := by decide +kernel
theorem dX11_fewest_19 : decode cX11_fewest 19 = .ok (.istore_n 2, 1) := by decide +kernel
theorem dX11_fewest_20 : decode cX11_fewest 20 = .ok (.iconst 0, 1) := by decide +kernel
theorem dX11_fewest_21 : decode cX11_fewest 21 = .ok (.istore_n 3, 1) := by decide +kernel
theorem dX11_fewest_22 : decode cX11_fewest 22 = .ok (.iload_n 3, 1) := by decide +kernel
theorem dX11_fewest_23 : decode cX11_fewest 23 = .ok (.iload_n 1, 1) := by decide +kernel
theorem dX11_fewest_24 : decode cX11_fewest 24 = .ok (.if_icmp .gt 35, 3) := by decide +kernel
theorem dX11_fewest_27 : decode cX11_fewest 27 = .ok (.iload_n 3, 1) := by decide +kernel
theorem dX11_fewest_28 : decode cX11_fewest 28 = .ok (.iload_n 2, 1) := by decide +kernel
theorem dX11_fewest_29 : decode cX11_fewest 29 = .ok (.invokestatic 410, 3) := by decide +kernel
theorem dX11_fewest_32 : decode cX11_fewest 32 = .ok (.ifCond .eq 19, 3) := by decide +kernel
theorem dX11_fewest_35 : decode cX11_fewest 35 = .ok (.aload_n 0, 1) := by decide +kernel
theorem dX11_fewest_36 : decode cX11_fewest 36 = .ok (.iload_n 1, 1) := by decide +kernel
theorem dX11_fewest_37 : decode cX11_fewest 37 = .ok (.iload_n 3, 1) := by decide +kernel
theorem dX11_fewest_38 : decode cX11_fewest 38 = .ok (.iconst (-1), 1) := by decide +kernel
theorem dX11_fewest_39 : decode cX11_fewest 39 = .ok (.ixor, 1) := by decide +kernel
theorem dX11_fewest_40 : decode cX11_fewest 40 = .ok (.iand, 1) := by decide +kernel
theorem dX11_fewest_41 : decode cX11_fewest 41 = .ok (.invokevirtual 413, 3) := by decide +kernel
theorem dX11_fewest_44 : decode cX11_fewest 44 = .ok (.ifCond .eq 7, 3) := by decide +kernel
theorem dX11_fewest_47 : decode cX11_fewest 47 = .ok (.iload_n 3, 1) := by decide +kernel
theorem dX11_fewest_48 : decode cX11_fewest 48 = .ok (.goto 4, 3) := by decide +kernel
theorem dX11_fewest_51 : decode cX11_fewest 51 = .ok (.iload_n 2, 1) := by decide +kernel
theorem dX11_fewest_52 : decode cX11_fewest 52 = .ok (.istore_n 2, 1) := by decide +kernel
theorem dX11_fewest_53 : decode cX11_fewest 53 = .ok (.iinc 3 1, 3) := by decide +kernel
theorem dX11_fewest_56 : decode cX11_fewest 56 = .ok (.goto (-34), 3) := by decide +kernel
theorem dX11_fewest_59 : decode cX11_fewest 59 = .ok (.aload_n 0, 1) := by decide +kernel
theorem dX11_fewest_60 : decode cX11_fewest 60 = .ok (.iconst 0, 1) := by decide +kernel
theorem dX11_fewest_61 : decode cX11_fewest 61 = .ok (.putfield 15, 3) := by decide +kernel
theorem dX11_fewest_64 : decode cX11_fewest 64 = .ok (.aload_n 0, 1) := by decide +kernel
theorem dX11_fewest_65 : decode cX11_fewest 65 = .ok (.iload_n 2, 1) := by decide +kernel
theorem dX11_fewest_66 : decode cX11_fewest 66 = .ok (.i2l, 1) := by decide +kernel
theorem dX11_fewest_67 : decode cX11_fewest 67 = .ok (.invokevirtual 18, 3) := by decide +kernel
theorem dX11_fewest_70 : decode cX11_fewest 70 = .ok (.iload_n 2, 1) := by decide +kernel
theorem dX11_fewest_71 : decode cX11_fewest 71 = .ok (.invokestatic 310, 3) := by decide +kernel
theorem dX11_fewest_74 : decode cX11_fewest 74 = .ok (.ireturn, 1) := by decide +kernel
theorem s_X11_fewest_22 {s8 : xW} {l1_5 : Int} {q : Int × xW} {k : Int → Int → Option (Int × xW)} (hk : ∀ (l2_23 : Int) (l3_24 : Int), k l2_23 l3_24 = some q → xG 7 0 0 mX11_fewest 59 [vR 121, vI l1_5, vI l2_23, vI l3_24] [] 155 s8 (xRv (vI q.1) q.2)) : ∀ (f : Nat) (l2_6 : Int) (l3_7 : Int), F_X11_fewest_22 l1_5 s8 f l2_6 l3_7 k = some q → xG 7 0 0 mX11_fewest 22 [vR 121, vI l1_5, vI l2_6, vI l3_7] [] 155 s8 (xRv (vI q.1) q.2) := by
  intro f
  induction f with
  | zero => intro l2_6 l3_7 h; cases h
  | succ f ih =>
    intro l2_6 l3_7 h
    unfold F_X11_fewest_22 at h
    refine g_iln dX11_fewest_22 rfl rfl ?_
    refine g_iln dX11_fewest_23 rfl rfl ?_
    refine g_wgt dX11_fewest_24 (tgt := 59) rfl rfl rfl (fun q9 => ?_) (fun q9 => ?_)
    · replace h := xif_f q9 h
      exact hk l2_6 l3_7 h
    · replace h := xif_t q9 h
      refine g_iln dX11_fewest_27 rfl rfl ?_
      refine g_iln dX11_fewest_28 rfl rfl ?_
      obtain ⟨r11, e10, h⟩ := xbp_e h
      refine g_cS2v dX11_fewest_29 ml_X11_410 (s_X11_isFewer e10) (by decide) rfl ?_
      obtain ⟨j13, ej14, h⟩ := xjn_e h
      have hj15 : ∀ (t12 : Int), j13 t12 = some q → xG 7 0 0 mX11_fewest 52 [vR 121, vI l1_5, vX, vI l3_7] [vI t12] 155 s8 (xRv (vI q.1) q.2) := by
        intro t12 h
        rw [ej14] at h
        refine g_istn_2 dX11_fewest_52 (by decide) rfl ?_
        refine g_inc_3 dX11_fewest_53 (by decide) rfl ?_
        refine g_goto dX11_fewest_56 (tgt := 22) rfl ?_
        exact ih t12 (l3_7 + 1) h
      clear ej14
      obtain ⟨j16, ej17, h⟩ := xjn_e h
      have hj18 : j16  = some q → xG 7 0 0 mX11_fewest 51 [vR 121, vI l1_5, vI l2_6, vI l3_7] [] 155 s8 (xRv (vI q.1) q.2) := by
        intro  h
        rw [ej17] at h
        refine g_iln dX11_fewest_51 rfl rfl ?_
        refine g_drop_2 ?_
        exact hj15 l2_6 h
      clear ej17
      refine g_yeq dX11_fewest_32 (tgt := 51) rfl rfl (fun q19 => ?_) (fun q19 => ?_)
      · replace h := xif_f q19 h
        exact hj18  h
      · replace h := xif_t q19 h
        refine g_aln dX11_fewest_35 rfl rfl (by decide) ?_
        refine g_iln dX11_fewest_36 rfl rfl ?_
        refine g_iln dX11_fewest_37 rfl rfl ?_
        refine g_ic dX11_fewest_38 ?_
        refine g_ixor dX11_fewest_39 ?_
        refine g_iand dX11_fewest_40 ?_
        obtain ⟨r21, e20, h⟩ := xbp_e h
        refine g_cV1v dX11_fewest_41 ml_X11_413 rfl (s_X11_isPeace e20) (by decide) rfl ?_
        refine g_yeq dX11_fewest_44 (tgt := 51) rfl rfl (fun q22 => ?_) (fun q22 => ?_)
        · replace h := xif_f q22 h
          exact hj18  h
        · replace h := xif_t q22 h
          refine g_iln dX11_fewest_47 rfl rfl ?_
          refine g_goto dX11_fewest_48 (tgt := 52) rfl ?_
          refine g_drop_2 ?_
          exact hj15 l3_7 h
theorem s_X11_fewest {s0 : xW} {q : Int × xW} (h : F_X11_fewest  s0 = some q) : xC 7 0 0 mX11_fewest [vR 121] 155 s0 (xRv (vI q.1) q.2) := by
  refine xC.of [vR 121, vX, vX, vX] (by decide +kernel) (Nat.le_of_ble_eq_true rfl) rfl ?_
  unfold F_X11_fewest at h
  refine g_aln dX11_fewest_0 rfl rfl (by decide) ?_
  refine g_ic dX11_fewest_1 ?_
  obtain ⟨s1, e2, h⟩ := xlt_e h
  refine h_putI 0 dX11_fewest_2 fl_X11_3 rfl rfl e2 ?_
  refine g_aln dX11_fewest_5 rfl rfl (by decide) ?_
  obtain ⟨s4, e3, h⟩ := xbp_e h
  refine g_cV00 dX11_fewest_6 ml_X11_407 rfl (s_X11_laysFoes e3) (by decide) rfl ?_
  refine g_ic dX11_fewest_9 ?_
  refine g_aln dX11_fewest_10 rfl rfl (by decide) ?_
  refine g_getI 4 dX11_fewest_11 fl_X11_136 rfl rfl ?_
  refine g_ishl dX11_fewest_14 ?_
  refine g_ic dX11_fewest_15 ?_
  refine g_isub dX11_fewest_16 ?_
  refine g_istn_1 dX11_fewest_17 (by decide) rfl ?_
  refine g_ic dX11_fewest_18 ?_
  refine g_istn_2 dX11_fewest_19 (by decide) rfl ?_
  refine g_ic dX11_fewest_20 ?_
  refine g_istn_3 dX11_fewest_21 (by decide) rfl ?_
  refine s_X11_fewest_22 (fun l2_25 l3_26 h => ?_) xN _ _ h
  refine g_aln dX11_fewest_59 rfl rfl (by decide) ?_
  refine g_ic dX11_fewest_60 ?_
  obtain ⟨s27, e28, h⟩ := xlt_e h
  refine h_putI 1 dX11_fewest_61 fl_X11_15 rfl rfl e28 ?_
  refine g_aln dX11_fewest_64 rfl rfl (by decide) ?_
  refine g_iln dX11_fewest_65 rfl rfl ?_
  refine g_wi2l dX11_fewest_66 rfl ?_
  obtain ⟨s30, e29, h⟩ := xbp_e h
  refine g_cV10 dX11_fewest_67 ml_X11_18 rfl (s_X11_enters e29) (by decide) rfl ?_
  refine g_iln dX11_fewest_70 rfl rfl ?_
  refine g_bitc dX11_fewest_71 bc_X11_310 (by decide) rfl ?_
  exact g_rI rfl dX11_fewest_74 h
theorem dX11_fits_0 : decode cX11_fits 0 = .ok (.aload_n 0, 1) := by decide +kernel
theorem dX11_fits_1 : decode cX11_fits 1 = .ok (.iconst 0, 1) := by decide +kernel
theorem dX11_fits_2 : decode cX11_fits 2 = .ok (.putfield 3, 3) := by decide +kernel
theorem dX11_fits_5 : decode cX11_fits 5 = .ok (.iconst 0, 1) := by decide +kernel
theorem dX11_fits_6 : decode cX11_fits 6 = .ok (.istore_n 1, 1) := by decide +kernel
theorem dX11_fits_7 : decode cX11_fits 7 = .ok (.aload_n 0, 1) := by decide +kernel
theorem dX11_fits_8 : decode cX11_fits 8 = .ok (.iconst 0, 1) := by decide +kernel
theorem dX11_fits_9 : decode cX11_fits 9 = .ok (.putfield 15, 3) := by decide +kernel
theorem dX11_fits_12 : decode cX11_fits 12 = .ok (.iconst 0, 1) := by decide +kernel
theorem dX11_fits_13 : decode cX11_fits 13 = .ok (.istore_n 2, 1) := by decide +kernel
theorem dX11_fits_14 : decode cX11_fits 14 = .ok (.iload_n 2, 1) := by decide +kernel
theorem dX11_fits_15 : decode cX11_fits 15 = .ok (.bipush 100, 2) := by decide +kernel
theorem dX11_fits_17 : decode cX11_fits 17 = .ok (.if_icmp .ge 48, 3) := by decide +kernel
theorem dX11_fits_20 : decode cX11_fits 20 = .ok (.aload_n 0, 1) := by decide +kernel
theorem dX11_fits_21 : decode cX11_fits 21 = .ok (.iload_n 2, 1) := by decide +kernel
theorem dX11_fits_22 : decode cX11_fits 22 = .ok (.invokevirtual 428, 3) := by decide +kernel
theorem dX11_fits_25 : decode cX11_fits 25 = .ok (.istore_n 3, 1) := by decide +kernel
theorem dX11_fits_26 : decode cX11_fits 26 = .ok (.iload_n 3, 1) := by decide +kernel
theorem dX11_fits_27 : decode cX11_fits 27 = .ok (.ifCond .eq 25, 3) := by decide +kernel
theorem dX11_fits_30 : decode cX11_fits 30 = .ok (.iload_n 1, 1) := by decide +kernel
theorem dX11_fits_31 : decode cX11_fits 31 = .ok (.ifCond .ne 21, 3) := by decide +kernel
theorem dX11_fits_34 : decode cX11_fits 34 = .ok (.aload_n 0, 1) := by decide +kernel
theorem dX11_fits_35 : decode cX11_fits 35 = .ok (.iload_n 2, 1) := by decide +kernel
theorem dX11_fits_36 : decode cX11_fits 36 = .ok (.bipush 10, 2) := by decide +kernel
theorem dX11_fits_38 : decode cX11_fits 38 = .ok (.idiv, 1) := by decide +kernel
theorem dX11_fits_39 : decode cX11_fits 39 = .ok (.i2l, 1) := by decide +kernel
theorem dX11_fits_40 : decode cX11_fits 40 = .ok (.invokevirtual 18, 3) := by decide +kernel
theorem dX11_fits_43 : decode cX11_fits 43 = .ok (.aload_n 0, 1) := by decide +kernel
theorem dX11_fits_44 : decode cX11_fits 44 = .ok (.iload_n 2, 1) := by decide +kernel
theorem dX11_fits_45 : decode cX11_fits 45 = .ok (.bipush 10, 2) := by decide +kernel
theorem dX11_fits_47 : decode cX11_fits 47 = .ok (.irem, 1) := by decide +kernel
theorem dX11_fits_48 : decode cX11_fits 48 = .ok (.i2l, 1) := by decide +kernel
theorem dX11_fits_49 : decode cX11_fits 49 = .ok (.invokevirtual 18, 3) := by decide +kernel
theorem dX11_fits_52 : decode cX11_fits 52 = .ok (.iload_n 1, 1) := by decide +kernel
theorem dX11_fits_53 : decode cX11_fits 53 = .ok (.iload_n 3, 1) := by decide +kernel
theorem dX11_fits_54 : decode cX11_fits 54 = .ok (.invokestatic 159, 3) := by decide +kernel
theorem dX11_fits_57 : decode cX11_fits 57 = .ok (.iadd, 1) := by decide +kernel
theorem dX11_fits_58 : decode cX11_fits 58 = .ok (.istore_n 1, 1) := by decide +kernel
theorem dX11_fits_59 : decode cX11_fits 59 = .ok (.iinc 2 1, 3) := by decide +kernel
theorem dX11_fits_62 : decode cX11_fits 62 = .ok (.goto (-48), 3) := by decide +kernel
theorem dX11_fits_65 : decode cX11_fits 65 = .ok (.iload_n 1, 1) := by decide +kernel
theorem dX11_fits_66 : decode cX11_fits 66 = .ok (.ireturn, 1) := by decide +kernel
theorem s_X11_fits_14 {q : Int × xW} {k : Int → Int → xW → Option (Int × xW)} (hk : ∀ (l1_24 : Int) (l2_25 : Int) (s26 : xW), k l1_24 l2_25 s26 = some q → xG 5 0 0 mX11_fits 65 [vR 121, vI l1_24, vI l2_25, vX] [] 155 s26 (xRv (vI q.1) q.2)) : ∀ (f : Nat) (l1_5 : Int) (l2_6 : Int) (s7 : xW), F_X11_fits_14  f l1_5 l2_6 s7 k = some q → xG 5 0 0 mX11_fits 14 [vR 121, vI l1_5, vI l2_6, vX] [] 155 s7 (xRv (vI q.1) q.2) := by
  intro f
  induction f with
  | zero => intro l1_5 l2_6 s7 h; cases h
  | succ f ih =>
    intro l1_5 l2_6 s7 h
    unfold F_X11_fits_14 at h
    refine g_iln dX11_fits_14 rfl rfl ?_
    refine g_bi dX11_fits_15 (by decide) ?_
    refine g_wge dX11_fits_17 (tgt := 65) rfl rfl (xw_id (by decide)) (fun q8 => ?_) (fun q8 => ?_)
    · replace h := xif_f q8 h
      exact hk l1_5 l2_6 s7 h
    · replace h := xif_t q8 h
      refine g_aln dX11_fits_20 rfl rfl (by decide) ?_
      refine g_iln dX11_fits_21 rfl rfl ?_
      obtain ⟨r10, s11, e9, h⟩ := xbd_e h
      refine g_cV1v dX11_fits_22 ml_X11_428 rfl (s_X11_isSo e9) (by decide) rfl ?_
      refine g_istn_3 dX11_fits_25 (by decide) rfl ?_
      refine g_iln dX11_fits_26 rfl rfl ?_
      obtain ⟨j13, ej14, h⟩ := xjn_e h
      have hj15 : ∀ (s12 : xW), j13 s12 = some q → xG 5 0 0 mX11_fits 52 [vR 121, vI l1_5, vI l2_6, vI r10] [] 155 s12 (xRv (vI q.1) q.2) := by
        intro s12 h
        rw [ej14] at h
        refine g_iln dX11_fits_52 rfl rfl ?_
        refine g_iln dX11_fits_53 rfl rfl ?_
        obtain ⟨r17, e16, h⟩ := xbp_e h
        refine g_cS1v dX11_fits_54 ml_X11_159 (s_X11_flag e16) (by decide) rfl ?_
        refine g_iadd dX11_fits_57 ?_
        refine g_istn_1 dX11_fits_58 (by decide) rfl ?_
        refine g_inc_2 dX11_fits_59 (by decide) rfl ?_
        refine g_goto dX11_fits_62 (tgt := 14) rfl ?_
        refine g_drop_3 ?_
        exact ih (l1_5 + r17) (l2_6 + 1) s12 h
      clear ej14
      refine g_yeq dX11_fits_27 (tgt := 52) rfl rfl (fun q18 => ?_) (fun q18 => ?_)
      · replace h := xif_f q18 h
        exact hj15 s11 h
      · replace h := xif_t q18 h
        refine g_iln dX11_fits_30 rfl rfl ?_
        refine g_yne dX11_fits_31 (tgt := 52) rfl rfl (fun q19 => ?_) (fun q19 => ?_)
        · replace h := xif_f q19 h
          exact hj15 s11 h
        · replace h := xif_t q19 h
          refine g_aln dX11_fits_34 rfl rfl (by decide) ?_
          refine g_iln dX11_fits_35 rfl rfl ?_
          refine g_bi dX11_fits_36 (by decide) ?_
          refine g_wdiv dX11_fits_38 rfl (xw_id (by decide)) (by decide) ?_
          refine g_wi2l dX11_fits_39 rfl ?_
          obtain ⟨s21, e20, h⟩ := xbp_e h
          refine g_cV10 dX11_fits_40 ml_X11_18 rfl (s_X11_enters e20) (by decide) rfl ?_
          refine g_aln dX11_fits_43 rfl rfl (by decide) ?_
          refine g_iln dX11_fits_44 rfl rfl ?_
          refine g_bi dX11_fits_45 (by decide) ?_
          refine g_wrem dX11_fits_47 rfl (xw_id (by decide)) (by decide) ?_
          refine g_wi2l dX11_fits_48 rfl ?_
          obtain ⟨s23, e22, h⟩ := xbp_e h
          refine g_cV10 dX11_fits_49 ml_X11_18 rfl (s_X11_enters e22) (by decide) rfl ?_
          exact hj15 s23 h
theorem s_X11_fits {s0 : xW} {q : Int × xW} (h : F_X11_fits  s0 = some q) : xC 5 0 0 mX11_fits [vR 121] 155 s0 (xRv (vI q.1) q.2) := by
  refine xC.of [vR 121, vX, vX, vX] (by decide +kernel) (Nat.le_of_ble_eq_true rfl) rfl ?_
  unfold F_X11_fits at h
  refine g_aln dX11_fits_0 rfl rfl (by decide) ?_
  refine g_ic dX11_fits_1 ?_
  obtain ⟨s1, e2, h⟩ := xlt_e h
  refine h_putI 0 dX11_fits_2 fl_X11_3 rfl rfl e2 ?_
  refine g_ic dX11_fits_5 ?_
  refine g_istn_1 dX11_fits_6 (by decide) rfl ?_
  refine g_aln dX11_fits_7 rfl rfl (by decide) ?_
  refine g_ic dX11_fits_8 ?_
  obtain ⟨s3, e4, h⟩ := xlt_e h
  refine h_putI 1 dX11_fits_9 fl_X11_15 rfl rfl e4 ?_
  refine g_ic dX11_fits_12 ?_
  refine g_istn_2 dX11_fits_13 (by decide) rfl ?_
  refine s_X11_fits_14 (fun l1_27 l2_28 s29 h => ?_) xN _ _ _ h
  refine g_iln dX11_fits_65 rfl rfl ?_
  exact g_rI rfl dX11_fits_66 h
theorem dX11_forget_0 : decode cX11_forget 0 = .ok (.aload_n 0, 1) := by decide +kernel
theorem dX11_forget_1 : decode cX11_forget 1 = .ok (.iconst 0, 1) := by decide +kernel
theorem dX11_forget_2 : decode cX11_forget 2 = .ok (.putfield 3, 3) := by decide +kernel
theorem dX11_forget_5 : decode cX11_forget 5 = .ok (.aload_n 0, 1) := by decide +kernel
theorem dX11_forget_6 : decode cX11_forget 6 = .ok (.getfield 425, 3) := by decide +kernel
theorem dX11_forget_9 : decode cX11_forget 9 = .ok (.istore_n 1, 1) := by decide +kernel
theorem dX11_forget_10 : decode cX11_forget 10 = .ok (.aload_n 0, 1) := by decide +kernel
theorem dX11_forget_11 : decode cX11_forget 11 = .ok (.iconst 0, 1) := by decide +kernel
theorem dX11_forget_12 : decode cX11_forget 12 = .ok (.putfield 425, 3) := by decide +kernel
theorem dX11_forget_15 : decode cX11_forget 15 = .ok (.iload_n 1, 1) := by decide +kernel
theorem dX11_forget_16 : decode cX11_forget 16 = .ok (.ireturn, 1) := by decide +kernel
theorem s_X11_forget {s0 : xW} {q : Int × xW} (h : F_X11_forget  s0 = some q) : xC 0 0 0 mX11_forget [vR 121] 155 s0 (xRv (vI q.1) q.2) := by
  refine xC.of [vR 121, vX] (by decide +kernel) (Nat.le_of_ble_eq_true rfl) rfl ?_
  unfold F_X11_forget at h
  refine g_aln dX11_forget_0 rfl rfl (by decide) ?_
  refine g_ic dX11_forget_1 ?_
  obtain ⟨s1, e2, h⟩ := xlt_e h
  refine h_putI 0 dX11_forget_2 fl_X11_3 rfl rfl e2 ?_
  refine g_aln dX11_forget_5 rfl rfl (by decide) ?_
  refine g_getI 42 dX11_forget_6 fl_X11_425 rfl rfl ?_
  refine g_istn_1 dX11_forget_9 (by decide) rfl ?_
  refine g_aln dX11_forget_10 rfl rfl (by decide) ?_
  refine g_ic dX11_forget_11 ?_
  obtain ⟨s3, e4, h⟩ := xlt_e h
  refine h_putI 42 dX11_forget_12 fl_X11_425 rfl rfl e4 ?_
  refine g_iln dX11_forget_15 rfl rfl ?_
  exact g_rI rfl dX11_forget_16 h
theorem dX11_place_0 : decode cX11_place 0 = .ok (.bipush 21, 2) := by decide +kernel
theorem dX11_place_2 : decode cX11_place 2 = .ok (.iload_n 0, 1) := by decide +kernel
theorem dX11_place_3 : decode cX11_place 3 = .ok (.imul, 1) := by decide +kernel
theorem dX11_place_4 : decode cX11_place 4 = .ok (.iload_n 1, 1) := by decide +kernel
theorem dX11_place_5 : decode cX11_place 5 = .ok (.iadd, 1) := by decide +kernel
theorem dX11_place_6 : decode cX11_place 6 = .ok (.ireturn, 1) := by decide +kernel
theorem s_X11_place {a0 a1 : Int} {s0 : xW} {q : Int} (h : F_X11_place a0 a1 s0 = some q) : xC 0 0 0 mX11_place [vI a0, vI a1] 155 s0 (xRv (vI q) s0) := by
  refine xC.of [vI a0, vI a1] (by decide +kernel) (Nat.le_of_ble_eq_true rfl) rfl ?_
  unfold F_X11_place at h
  refine g_bi dX11_place_0 (by decide) ?_
  refine g_iln dX11_place_2 rfl rfl ?_
  refine g_imul dX11_place_3 ?_
  refine g_iln dX11_place_4 rfl rfl ?_
  refine g_iadd dX11_place_5 ?_
  exact g_pI rfl dX11_place_6 h
theorem dX11_isGood_0 : decode cX11_isGood 0 = .ok (.iload_n 3, 1) := by decide +kernel
theorem dX11_isGood_1 : decode cX11_isGood 1 = .ok (.iload 4, 2) := by decide +kernel
theorem dX11_isGood_3 : decode cX11_isGood 3 = .ok (.iadd, 1) := by decide +kernel
theorem dX11_isGood_4 : decode cX11_isGood 4 = .ok (.ifCond .le 27, 3) := by decide +kernel
theorem dX11_isGood_7 : decode cX11_isGood 7 = .ok (.iload_n 3, 1) := by decide +kernel
theorem dX11_isGood_8 : decode cX11_isGood 8 = .ok (.ifCond .eq 19, 3) := by decide +kernel
theorem dX11_isGood_11 : decode cX11_isGood 11 = .ok (.iload 4, 2) := by decide +kernel
theorem dX11_isGood_13 : decode cX11_isGood 13 = .ok (.ifCond .eq 14, 3) := by decide +kernel
theorem dX11_isGood_16 : decode cX11_isGood 16 = .ok (.iload_n 3, 1) := by decide +kernel
theorem dX11_isGood_17 : decode cX11_isGood 17 = .ok (.iconst 1, 1) := by decide +kernel
theorem dX11_isGood_18 : decode cX11_isGood 18 = .ok (.if_icmp .ne 13, 3) := by decide +kernel
theorem dX11_isGood_21 : decode cX11_isGood 21 = .ok (.iload 4, 2) := by decide +kernel
theorem dX11_isGood_23 : decode cX11_isGood 23 = .ok (.iconst 1, 1) := by decide +kernel
theorem dX11_isGood_24 : decode cX11_isGood 24 = .ok (.if_icmp .ne 7, 3) := by decide +kernel
theorem dX11_isGood_27 : decode cX11_isGood 27 = .ok (.iconst 1, 1) := by decide +kernel
theorem dX11_isGood_28 : decode cX11_isGood 28 = .ok (.goto 4, 3) := by decide +kernel
theorem dX11_isGood_31 : decode cX11_isGood 31 = .ok (.iconst 0, 1) := by decide +kernel
theorem dX11_isGood_32 : decode cX11_isGood 32 = .ok (.istore 5, 2) := by decide +kernel
theorem dX11_isGood_34 : decode cX11_isGood 34 = .ok (.iload 5, 2) := by decide +kernel
theorem dX11_isGood_36 : decode cX11_isGood 36 = .ok (.ifCond .eq 36, 3) := by decide +kernel
theorem dX11_isGood_39 : decode cX11_isGood 39 = .ok (.iload_n 3, 1) := by decide +kernel
theorem dX11_isGood_40 : decode cX11_isGood 40 = .ok (.iload_n 1, 1) := by decide +kernel
theorem dX11_isGood_41 : decode cX11_isGood 41 = .ok (.if_icmp .gt 31, 3) := by decide +kernel
theorem dX11_isGood_44 : decode cX11_isGood 44 = .ok (.iload 4, 2) := by decide +kernel
theorem dX11_isGood_46 : decode cX11_isGood 46 = .ok (.iload_n 2, 1) := by decide +kernel
theorem dX11_isGood_47 : decode cX11_isGood 47 = .ok (.if_icmp .gt 25, 3) := by decide +kernel
theorem dX11_isGood_50 : decode cX11_isGood 50 = .ok (.aload_n 0, 1) := by decide +kernel
theorem dX11_isGood_51 : decode cX11_isGood 51 = .ok (.getfield 113, 3) := by decide +kernel
theorem dX11_isGood_54 : decode cX11_isGood 54 = .ok (.iload_n 1, 1) := by decide +kernel
theorem dX11_isGood_55 : decode cX11_isGood 55 = .ok (.iload_n 3, 1) := by decide +kernel
theorem dX11_isGood_56 : decode cX11_isGood 56 = .ok (.isub, 1) := by decide +kernel
theorem dX11_isGood_57 : decode cX11_isGood 57 = .ok (.iload_n 2, 1) := by decide +kernel
theorem dX11_isGood_58 : decode cX11_isGood 58 = .ok (.iload 4, 2) := by decide +kernel
theorem dX11_isGood_60 : decode cX11_isGood 60 = .ok (.isub, 1) := by decide +kernel
theorem dX11_isGood_61 : decode cX11_isGood 61 = .ok (.invokestatic 441, 3) := by decide +kernel
theorem dX11_isGood_64 : decode cX11_isGood 64 = .ok (.baload, 1) := by decide +kernel
theorem dX11_isGood_65 : decode cX11_isGood 65 = .ok (.ifCond .ne 7, 3) := by decide +kernel
theorem dX11_isGood_68 : decode cX11_isGood 68 = .ok (.iconst 1, 1) := by decide +kernel
theorem dX11_isGood_69 : decode cX11_isGood 69 = .ok (.goto 4, 3) := by decide +kernel
theorem dX11_isGood_72 : decode cX11_isGood 72 = .ok (.iconst 0, 1) := by decide +kernel
theorem dX11_isGood_73 : decode cX11_isGood 73 = .ok (.ireturn, 1) := by decide +kernel
theorem s_X11_isGood {a1 a2 a3 a4 : Int} {s0 : xW} {q : Int} (h : F_X11_isGood a1 a2 a3 a4 s0 = some q) : xC 1 0 0 mX11_isGood [vR 121, vI a1, vI a2, vI a3, vI a4] 155 s0 (xRv (vI q) s0) := by
  refine xC.of [vR 121, vI a1, vI a2, vI a3, vI a4, vX] (by decide +kernel) (Nat.le_of_ble_eq_true rfl) rfl ?_
  unfold F_X11_isGood at h
  refine g_iln dX11_isGood_0 rfl rfl ?_
  refine g_il dX11_isGood_1 rfl ?_
  refine g_iadd dX11_isGood_3 ?_
  obtain ⟨v6, e7, h⟩ := xlt_e h
  have hj8 : xG 1 0 0 mX11_isGood 32 [vR 121, vI a1, vI a2, vI a3, vI a4, vX] [vI v6] 155 s0 (xRv (vI q) s0) := by
    refine g_ist_5 dX11_isGood_32 (by decide) rfl ?_
    refine g_il dX11_isGood_34 rfl ?_
    obtain ⟨j10, ej11, h⟩ := xjn_e h
    have hj12 : ∀ (t9 : Int), j10 t9 = some q → xG 1 0 0 mX11_isGood 73 [vX, vX, vX, vX, vX, vX] [vI t9] 155 s0 (xRv (vI q) s0) := by
      intro t9 h
      rw [ej11] at h
      obtain ⟨hg13, h⟩ := xgd_e h
      exact g_pZ rfl dX11_isGood_73 hg13 h
    clear ej11
    obtain ⟨j14, ej15, h⟩ := xjn_e h
    have hj16 : j14  = some q → xG 1 0 0 mX11_isGood 72 [vX, vX, vX, vX, vX, vX] [] 155 s0 (xRv (vI q) s0) := by
      intro  h
      rw [ej15] at h
      refine g_ic dX11_isGood_72 ?_
      exact hj12 0 h
    clear ej15
    refine g_yeq dX11_isGood_36 (tgt := 72) rfl rfl (fun q17 => ?_) (fun q17 => ?_)
    · replace h := xif_f q17 h
      refine g_drop_0 ?_
      refine g_drop_1 ?_
      refine g_drop_2 ?_
      refine g_drop_3 ?_
      refine g_drop_4 ?_
      refine g_drop_5 ?_
      exact hj16  h
    · replace h := xif_t q17 h
      refine g_iln dX11_isGood_39 rfl rfl ?_
      refine g_iln dX11_isGood_40 rfl rfl ?_
      refine g_wgt dX11_isGood_41 (tgt := 72) rfl rfl rfl (fun q18 => ?_) (fun q18 => ?_)
      · replace h := xif_f q18 h
        refine g_drop_0 ?_
        refine g_drop_1 ?_
        refine g_drop_2 ?_
        refine g_drop_3 ?_
        refine g_drop_4 ?_
        refine g_drop_5 ?_
        exact hj16  h
      · replace h := xif_t q18 h
        refine g_il dX11_isGood_44 rfl ?_
        refine g_iln dX11_isGood_46 rfl rfl ?_
        refine g_wgt dX11_isGood_47 (tgt := 72) rfl rfl rfl (fun q19 => ?_) (fun q19 => ?_)
        · replace h := xif_f q19 h
          refine g_drop_0 ?_
          refine g_drop_1 ?_
          refine g_drop_2 ?_
          refine g_drop_3 ?_
          refine g_drop_4 ?_
          refine g_drop_5 ?_
          exact hj16  h
        · replace h := xif_t q19 h
          refine g_aln dX11_isGood_50 rfl rfl (by decide) ?_
          refine g_getC 149 dX11_isGood_51 fl_X11_113 rfl (by decide) ?_
          refine g_iln dX11_isGood_54 rfl rfl ?_
          refine g_iln dX11_isGood_55 rfl rfl ?_
          refine g_isub dX11_isGood_56 ?_
          refine g_iln dX11_isGood_57 rfl rfl ?_
          refine g_il dX11_isGood_58 rfl ?_
          refine g_isub dX11_isGood_60 ?_
          obtain ⟨r21, e20, h⟩ := xbp_e h
          refine g_cS2v dX11_isGood_61 ml_X11_441 (s_X11_place e20) (by decide) rfl ?_
          obtain ⟨hg22, h⟩ := xgd_e h
          refine g_zald 441 dX11_isGood_64 rfl hg22 (by decide) ?_
          refine g_yne dX11_isGood_65 (tgt := 72) rfl rfl (fun q23 => ?_) (fun q23 => ?_)
          · replace h := xif_f q23 h
            refine g_drop_0 ?_
            refine g_drop_1 ?_
            refine g_drop_2 ?_
            refine g_drop_3 ?_
            refine g_drop_4 ?_
            refine g_drop_5 ?_
            exact hj16  h
          · replace h := xif_t q23 h
            refine g_ic dX11_isGood_68 ?_
            refine g_goto dX11_isGood_69 (tgt := 73) rfl ?_
            refine g_drop_0 ?_
            refine g_drop_1 ?_
            refine g_drop_2 ?_
            refine g_drop_3 ?_
            refine g_drop_4 ?_
            refine g_drop_5 ?_
            exact hj12 1 h
  refine g_yle dX11_isGood_4 (tgt := 31) rfl rfl (fun c1 => ?_) (fun c1 => ?_)
  · skip
    refine g_ic dX11_isGood_31 ?_
    exact g_vq ((if_neg c1).symm.trans e7) hj8
  · skip
    refine g_iln dX11_isGood_7 rfl rfl ?_
    refine g_yeq dX11_isGood_8 (tgt := 27) rfl rfl (fun c2 => ?_) (fun c2 => ?_)
    · skip
      refine g_ic dX11_isGood_27 ?_
      refine g_goto dX11_isGood_28 (tgt := 32) rfl ?_
      exact g_vq (((if_pos c1).trans (if_neg c2)).symm.trans e7) hj8
    · skip
      refine g_il dX11_isGood_11 rfl ?_
      refine g_yeq dX11_isGood_13 (tgt := 27) rfl rfl (fun c3 => ?_) (fun c3 => ?_)
      · skip
        refine g_ic dX11_isGood_27 ?_
        refine g_goto dX11_isGood_28 (tgt := 32) rfl ?_
        exact g_vq ((((if_pos c1).trans (if_pos c2)).trans (if_neg c3)).symm.trans e7) hj8
      · skip
        refine g_iln dX11_isGood_16 rfl rfl ?_
        refine g_ic dX11_isGood_17 ?_
        refine g_wne dX11_isGood_18 (tgt := 31) rfl rfl (xw_id (by decide)) (fun c4 => ?_) (fun c4 => ?_)
        · skip
          refine g_ic dX11_isGood_31 ?_
          exact g_vq (((((if_pos c1).trans (if_pos c2)).trans (if_pos c3)).trans (if_neg c4)).symm.trans e7) hj8
        · skip
          refine g_il dX11_isGood_21 rfl ?_
          refine g_ic dX11_isGood_23 ?_
          refine g_wne dX11_isGood_24 (tgt := 31) rfl rfl (xw_id (by decide)) (fun c5 => ?_) (fun c5 => ?_)
          · skip
            refine g_ic dX11_isGood_31 ?_
            exact g_vq ((((((if_pos c1).trans (if_pos c2)).trans (if_pos c3)).trans (if_pos c4)).trans (if_neg c5)).symm.trans e7) hj8
          · skip
            refine g_ic dX11_isGood_27 ?_
            refine g_goto dX11_isGood_28 (tgt := 32) rfl ?_
            exact g_vq ((((((if_pos c1).trans (if_pos c2)).trans (if_pos c3)).trans (if_pos c4)).trans (if_pos c5)).symm.trans e7) hj8
theorem dX11_forts_0 : decode cX11_forts 0 = .ok (.aload_n 0, 1) := by decide +kernel
theorem dX11_forts_1 : decode cX11_forts 1 = .ok (.iconst 0, 1) := by decide +kernel
theorem dX11_forts_2 : decode cX11_forts 2 = .ok (.putfield 3, 3) := by decide +kernel
theorem dX11_forts_5 : decode cX11_forts 5 = .ok (.iload_n 1, 1) := by decide +kernel
theorem dX11_forts_6 : decode cX11_forts 6 = .ok (.i2l, 1) := by decide +kernel
theorem dX11_forts_7 : decode cX11_forts 7 = .ok (.lconst 0, 1) := by decide +kernel
theorem dX11_forts_8 : decode cX11_forts 8 = .ok (.ldc2_w 444, 3) := by decide +kernel
theorem dX11_forts_11 : decode cX11_forts 11 = .ok (.invokestatic 132, 3) := by decide +kernel
theorem dX11_forts_14 : decode cX11_forts 14 = .ok (.ifCond .eq 15, 3) := by decide +kernel
theorem dX11_forts_17 : decode cX11_forts 17 = .ok (.iload_n 2, 1) := by decide +kernel
theorem dX11_forts_18 : decode cX11_forts 18 = .ok (.i2l, 1) := by decide +kernel
theorem dX11_forts_19 : decode cX11_forts 19 = .ok (.lconst 0, 1) := by decide +kernel
theorem dX11_forts_20 : decode cX11_forts 20 = .ok (.ldc2_w 444, 3) := by decide +kernel
theorem dX11_forts_23 : decode cX11_forts 23 = .ok (.invokestatic 132, 3) := by decide +kernel
theorem dX11_forts_26 : decode cX11_forts 26 = .ok (.ifCond .ne 5, 3) := by decide +kernel
theorem dX11_forts_29 : decode cX11_forts 29 = .ok (.iconst (-1), 1) := by decide +kernel
theorem dX11_forts_30 : decode cX11_forts 30 = .ok (.ireturn, 1) := by decide +kernel
theorem dX11_forts_31 : decode cX11_forts 31 = .ok (.iload_n 1, 1) := by decide +kernel
theorem dX11_forts_32 : decode cX11_forts 32 = .ok (.iload_n 2, 1) := by decide +kernel
theorem dX11_forts_33 : decode cX11_forts 33 = .ok (.iadd, 1) := by decide +kernel
theorem dX11_forts_34 : decode cX11_forts 34 = .ok (.ifCond .ne 6, 3) := by decide +kernel
theorem dX11_forts_37 : decode cX11_forts 37 = .ok (.bipush (-2), 2) := by decide +kernel
theorem dX11_forts_39 : decode cX11_forts 39 = .ok (.ireturn, 1) := by decide +kernel
theorem dX11_forts_40 : decode cX11_forts 40 = .ok (.iconst 0, 1) := by decide +kernel
theorem dX11_forts_41 : decode cX11_forts 41 = .ok (.istore_n 3, 1) := by decide +kernel
theorem dX11_forts_42 : decode cX11_forts 42 = .ok (.iload_n 3, 1) := by decide +kernel
theorem dX11_forts_43 : decode cX11_forts 43 = .ok (.iload_n 1, 1) := by decide +kernel
theorem dX11_forts_44 : decode cX11_forts 44 = .ok (.if_icmp .gt 108, 3) := by decide +kernel
theorem dX11_forts_47 : decode cX11_forts 47 = .ok (.iconst 0, 1) := by decide +kernel
theorem dX11_forts_48 : decode cX11_forts 48 = .ok (.istore 4, 2) := by decide +kernel
theorem dX11_forts_50 : decode cX11_forts 50 = .ok (.iload 4, 2) := by decide +kernel
theorem dX11_forts_52 : decode cX11_forts 52 = .ok (.iload_n 2, 1) := by decide +kernel
theorem dX11_forts_53 : decode cX11_forts 53 = .ok (.if_icmp .gt 93, 3) := by decide +kernel
theorem dX11_forts_56 : decode cX11_forts 56 = .ok (.iload_n 3, 1) := by decide +kernel
theorem dX11_forts_57 : decode cX11_forts 57 = .ok (.iload 4, 2) := by decide +kernel
theorem dX11_forts_59 : decode cX11_forts 59 = .ok (.iadd, 1) := by decide +kernel
theorem dX11_forts_60 : decode cX11_forts 60 = .ok (.ifCond .ne 7, 3) := by decide +kernel
theorem dX11_forts_63 : decode cX11_forts 63 = .ok (.iconst 1, 1) := by decide +kernel
theorem dX11_forts_64 : decode cX11_forts 64 = .ok (.goto 4, 3) := by decide +kernel
theorem dX11_forts_67 : decode cX11_forts 67 = .ok (.iconst 0, 1) := by decide +kernel
theorem dX11_forts_68 : decode cX11_forts 68 = .ok (.istore 5, 2) := by decide +kernel
theorem dX11_forts_70 : decode cX11_forts 70 = .ok (.iconst 0, 1) := by decide +kernel
theorem dX11_forts_71 : decode cX11_forts 71 = .ok (.istore 6, 2) := by decide +kernel
theorem dX11_forts_73 : decode cX11_forts 73 = .ok (.iload 6, 2) := by decide +kernel
theorem dX11_forts_75 : decode cX11_forts 75 = .ok (.iload_n 3, 1) := by decide +kernel
theorem dX11_forts_76 : decode cX11_forts 76 = .ok (.if_icmp .gt 51, 3) := by decide +kernel
theorem dX11_forts_79 : decode cX11_forts 79 = .ok (.iconst 0, 1) := by decide +kernel
theorem dX11_forts_80 : decode cX11_forts 80 = .ok (.istore 7, 2) := by decide +kernel
theorem dX11_forts_82 : decode cX11_forts 82 = .ok (.iload 7, 2) := by decide +kernel
theorem dX11_forts_84 : decode cX11_forts 84 = .ok (.iload 4, 2) := by decide +kernel
theorem dX11_forts_86 : decode cX11_forts 86 = .ok (.if_icmp .gt 35, 3) := by decide +kernel
theorem dX11_forts_89 : decode cX11_forts 89 = .ok (.iload 5, 2) := by decide +kernel
theorem dX11_forts_91 : decode cX11_forts 91 = .ok (.ifCond .ne 17, 3) := by decide +kernel
theorem dX11_forts_94 : decode cX11_forts 94 = .ok (.aload_n 0, 1) := by decide +kernel
theorem dX11_forts_95 : decode cX11_forts 95 = .ok (.iload_n 3, 1) := by decide +kernel
theorem dX11_forts_96 : decode cX11_forts 96 = .ok (.iload 4, 2) := by decide +kernel
theorem dX11_forts_98 : decode cX11_forts 98 = .ok (.iload 6, 2) := by decide +kernel
theorem dX11_forts_100 : decode cX11_forts 100 = .ok (.iload 7, 2) := by decide +kernel
theorem dX11_forts_102 : decode cX11_forts 102 = .ok (.invokevirtual 446, 3) := by decide +kernel
theorem dX11_forts_105 : decode cX11_forts 105 = .ok (.ifCond .eq 7, 3) := by decide +kernel
theorem dX11_forts_108 : decode cX11_forts 108 = .ok (.iconst 1, 1) := by decide +kernel
theorem dX11_forts_109 : decode cX11_forts 109 = .ok (.goto 4, 3) := by decide +kernel
theorem dX11_forts_112 : decode cX11_forts 112 = .ok (.iconst 0, 1) := by decide +kernel
theorem dX11_forts_113 : decode cX11_forts 113 = .ok (.istore 5, 2) := by decide +kernel
theorem dX11_forts_115 : decode cX11_forts 115 = .ok (.iinc 7 1, 3) := by decide +kernel
theorem dX11_forts_118 : decode cX11_forts 118 = .ok (.goto (-36), 3) := by decide +kernel
theorem dX11_forts_121 : decode cX11_forts 121 = .ok (.iinc 6 1, 3) := by decide +kernel
theorem dX11_forts_124 : decode cX11_forts 124 = .ok (.goto (-51), 3) := by decide +kernel
theorem dX11_forts_127 : decode cX11_forts 127 = .ok (.aload_n 0, 1) := by decide +kernel
theorem dX11_forts_128 : decode cX11_forts 128 = .ok (.getfield 113, 3) := by decide +kernel
theorem dX11_forts_131 : decode cX11_forts 131 = .ok (.iload_n 3, 1) := by decide +kernel
theorem dX11_forts_132 : decode cX11_forts 132 = .ok (.iload 4, 2) := by decide +kernel
theorem dX11_forts_134 : decode cX11_forts 134 = .ok (.invokestatic 441, 3) := by decide +kernel
theorem dX11_forts_137 : decode cX11_forts 137 = .ok (.iload 5, 2) := by decide +kernel
theorem dX11_forts_139 : decode cX11_forts 139 = .ok (.bastore, 1) := by decide +kernel
theorem dX11_forts_140 : decode cX11_forts 140 = .ok (.iinc 4 1, 3) := by decide +kernel
theorem dX11_forts_143 : decode cX11_forts 143 = .ok (.goto (-93), 3) := by decide +kernel
theorem dX11_forts_146 : decode cX11_forts 146 = .ok (.iinc 3 1, 3) := by decide +kernel
theorem dX11_forts_149 : decode cX11_forts 149 = .ok (.goto (-107), 3) := by decide +kernel
theorem dX11_forts_152 : decode cX11_forts 152 = .ok (.aload_n 0, 1) := by decide +kernel
theorem dX11_forts_153 : decode cX11_forts 153 = .ok (.iconst 0, 1) := by decide +kernel
theorem dX11_forts_154 : decode cX11_forts 154 = .ok (.putfield 15, 3) := by decide +kernel
theorem dX11_forts_157 : decode cX11_forts 157 = .ok (.iconst 0, 1) := by decide +kernel
theorem dX11_forts_158 : decode cX11_forts 158 = .ok (.istore_n 3, 1) := by decide +kernel
theorem dX11_forts_159 : decode cX11_forts 159 = .ok (.iload_n 3, 1) := by decide +kernel
theorem dX11_forts_160 : decode cX11_forts 160 = .ok (.iload_n 1, 1) := by decide +kernel
theorem dX11_forts_161 : decode cX11_forts 161 = .ok (.if_icmp .gt 56, 3) := by decide +kernel
theorem dX11_forts_164 : decode cX11_forts 164 = .ok (.iconst 0, 1) := by decide +kernel
theorem dX11_forts_165 : decode cX11_forts 165 = .ok (.istore 4, 2) := by decide +kernel
theorem dX11_forts_167 : decode cX11_forts 167 = .ok (.iload 4, 2) := by decide +kernel
theorem dX11_forts_169 : decode cX11_forts 169 = .ok (.iload_n 2, 1) := by decide +kernel
theorem dX11_forts_170 : decode cX11_forts 170 = .ok (.if_icmp .gt 41, 3) := by decide +kernel
theorem dX11_forts_173 : decode cX11_forts 173 = .ok (.aload_n 0, 1) := by decide +kernel
theorem dX11_forts_174 : decode cX11_forts 174 = .ok (.getfield 15, 3) := by decide +kernel
theorem dX11_forts_177 : decode cX11_forts 177 = .ok (.ifCond .ne 28, 3) := by decide +kernel
theorem dX11_forts_180 : decode cX11_forts 180 = .ok (.aload_n 0, 1) := by decide +kernel
theorem dX11_forts_181 : decode cX11_forts 181 = .ok (.iload_n 1, 1) := by decide +kernel
theorem dX11_forts_182 : decode cX11_forts 182 = .ok (.iload_n 2, 1) := by decide +kernel
theorem dX11_forts_183 : decode cX11_forts 183 = .ok (.iload_n 3, 1) := by decide +kernel
theorem dX11_forts_184 : decode cX11_forts 184 = .ok (.iload 4, 2) := by decide +kernel
theorem dX11_forts_186 : decode cX11_forts 186 = .ok (.invokevirtual 446, 3) := by decide +kernel
theorem dX11_forts_189 : decode cX11_forts 189 = .ok (.ifCond .eq 16, 3) := by decide +kernel
theorem dX11_forts_192 : decode cX11_forts 192 = .ok (.aload_n 0, 1) := by decide +kernel
theorem dX11_forts_193 : decode cX11_forts 193 = .ok (.iload_n 3, 1) := by decide +kernel
theorem dX11_forts_194 : decode cX11_forts 194 = .ok (.i2l, 1) := by decide +kernel
theorem dX11_forts_195 : decode cX11_forts 195 = .ok (.invokevirtual 18, 3) := by decide +kernel
theorem dX11_forts_198 : decode cX11_forts 198 = .ok (.aload_n 0, 1) := by decide +kernel
theorem dX11_forts_199 : decode cX11_forts 199 = .ok (.iload 4, 2) := by decide +kernel
theorem dX11_forts_201 : decode cX11_forts 201 = .ok (.i2l, 1) := by decide +kernel
theorem dX11_forts_202 : decode cX11_forts 202 = .ok (.invokevirtual 18, 3) := by decide +kernel
theorem dX11_forts_205 : decode cX11_forts 205 = .ok (.iinc 4 1, 3) := by decide +kernel
theorem dX11_forts_208 : decode cX11_forts 208 = .ok (.goto (-41), 3) := by decide +kernel
theorem dX11_forts_211 : decode cX11_forts 211 = .ok (.iinc 3 1, 3) := by decide +kernel
theorem dX11_forts_214 : decode cX11_forts 214 = .ok (.goto (-55), 3) := by decide +kernel
theorem dX11_forts_217 : decode cX11_forts 217 = .ok (.aload_n 0, 1) := by decide +kernel
theorem dX11_forts_218 : decode cX11_forts 218 = .ok (.getfield 15, 3) := by decide +kernel
theorem dX11_forts_221 : decode cX11_forts 221 = .ok (.ifCond .le 7, 3) := by decide +kernel
theorem dX11_forts_224 : decode cX11_forts 224 = .ok (.iconst 1, 1) := by decide +kernel
theorem dX11_forts_225 : decode cX11_forts 225 = .ok (.goto 4, 3) := by decide +kernel
theorem dX11_forts_228 : decode cX11_forts 228 = .ok (.iconst 0, 1) := by decide +kernel
theorem dX11_forts_229 : decode cX11_forts 229 = .ok (.invokestatic 159, 3) := by decide +kernel
theorem dX11_forts_232 : decode cX11_forts 232 = .ok (.ireturn, 1) := by decide +kernel
theorem s_X11_forts_82 {s43 : xW} {l1_36 l2_37 l3_38 l4_39 l6_41 : Int} {q : Int × xW} {k : Int → Int → Option (Int × xW)} (hk : ∀ (l5_56 : Int) (l7_57 : Int), k l5_56 l7_57 = some q → xG 2 0 0 mX11_forts 121 [vR 121, vI l1_36, vI l2_37, vI l3_38, vI l4_39, vI l5_56, vI l6_41, vI l7_57] [] 155 s43 (xRv (vI q.1) q.2)) : ∀ (f : Nat) (l5_40 : Int) (l7_42 : Int), F_X11_forts_82 l1_36 l2_37 l3_38 l4_39 l6_41 s43 f l5_40 l7_42 k = some q → xG 2 0 0 mX11_forts 82 [vR 121, vI l1_36, vI l2_37, vI l3_38, vI l4_39, vI l5_40, vI l6_41, vI l7_42] [] 155 s43 (xRv (vI q.1) q.2) := by
  intro f
  induction f with
  | zero => intro l5_40 l7_42 h; cases h
  | succ f ih =>
    intro l5_40 l7_42 h
    unfold F_X11_forts_82 at h
    refine g_il dX11_forts_82 rfl ?_
    refine g_il dX11_forts_84 rfl ?_
    refine g_wgt dX11_forts_86 (tgt := 121) rfl rfl rfl (fun q44 => ?_) (fun q44 => ?_)
    · replace h := xif_f q44 h
      exact hk l5_40 l7_42 h
    · replace h := xif_t q44 h
      refine g_il dX11_forts_89 rfl ?_
      obtain ⟨j46, ej47, h⟩ := xjn_e h
      have hj48 : ∀ (t45 : Int), j46 t45 = some q → xG 2 0 0 mX11_forts 113 [vR 121, vI l1_36, vI l2_37, vI l3_38, vI l4_39, vX, vI l6_41, vI l7_42] [vI t45] 155 s43 (xRv (vI q.1) q.2) := by
        intro t45 h
        rw [ej47] at h
        refine g_ist_5 dX11_forts_113 (by decide) rfl ?_
        refine g_inc_7 dX11_forts_115 (by decide) rfl ?_
        refine g_goto dX11_forts_118 (tgt := 82) rfl ?_
        exact ih t45 (l7_42 + 1) h
      clear ej47
      obtain ⟨j49, ej50, h⟩ := xjn_e h
      have hj51 : j49  = some q → xG 2 0 0 mX11_forts 108 [vR 121, vI l1_36, vI l2_37, vI l3_38, vI l4_39, vX, vI l6_41, vI l7_42] [] 155 s43 (xRv (vI q.1) q.2) := by
        intro  h
        rw [ej50] at h
        refine g_ic dX11_forts_108 ?_
        refine g_goto dX11_forts_109 (tgt := 113) rfl ?_
        exact hj48 1 h
      clear ej50
      refine g_yne dX11_forts_91 (tgt := 108) rfl rfl (fun q52 => ?_) (fun q52 => ?_)
      · replace h := xif_f q52 h
        refine g_drop_5 ?_
        exact hj51  h
      · replace h := xif_t q52 h
        refine g_aln dX11_forts_94 rfl rfl (by decide) ?_
        refine g_iln dX11_forts_95 rfl rfl ?_
        refine g_il dX11_forts_96 rfl ?_
        refine g_il dX11_forts_98 rfl ?_
        refine g_il dX11_forts_100 rfl ?_
        obtain ⟨r54, e53, h⟩ := xbp_e h
        refine g_cV4v dX11_forts_102 ml_X11_446 rfl (s_X11_isGood e53) (by decide) rfl ?_
        refine g_yeq dX11_forts_105 (tgt := 112) rfl rfl (fun q55 => ?_) (fun q55 => ?_)
        · replace h := xif_f q55 h
          refine g_ic dX11_forts_112 ?_
          refine g_drop_5 ?_
          exact hj48 0 h
        · replace h := xif_t q55 h
          refine g_drop_5 ?_
          exact hj51  h
theorem s_X11_forts_73 {s34 : xW} {l1_28 l2_29 l3_30 l4_31 : Int} {q : Int × xW} {k : Int → Int → Option (Int × xW)} (hk : ∀ (l5_60 : Int) (l6_61 : Int), k l5_60 l6_61 = some q → xG 2 0 0 mX11_forts 127 [vR 121, vI l1_28, vI l2_29, vI l3_30, vI l4_31, vI l5_60, vI l6_61, vX] [] 155 s34 (xRv (vI q.1) q.2)) : ∀ (f : Nat) (l5_32 : Int) (l6_33 : Int), F_X11_forts_73 l1_28 l2_29 l3_30 l4_31 s34 f l5_32 l6_33 k = some q → xG 2 0 0 mX11_forts 73 [vR 121, vI l1_28, vI l2_29, vI l3_30, vI l4_31, vI l5_32, vI l6_33, vX] [] 155 s34 (xRv (vI q.1) q.2) := by
  intro f
  induction f with
  | zero => intro l5_32 l6_33 h; cases h
  | succ f ih =>
    intro l5_32 l6_33 h
    unfold F_X11_forts_73 at h
    refine g_il dX11_forts_73 rfl ?_
    refine g_iln dX11_forts_75 rfl rfl ?_
    refine g_wgt dX11_forts_76 (tgt := 127) rfl rfl rfl (fun q35 => ?_) (fun q35 => ?_)
    · replace h := xif_f q35 h
      exact hk l5_32 l6_33 h
    · replace h := xif_t q35 h
      refine g_ic dX11_forts_79 ?_
      refine g_ist_7 dX11_forts_80 (by decide) rfl ?_
      refine s_X11_forts_82 (fun l5_58 l7_59 h => ?_) xN _ _ h
      refine g_inc_6 dX11_forts_121 (by decide) rfl ?_
      refine g_goto dX11_forts_124 (tgt := 73) rfl ?_
      refine g_drop_7 ?_
      exact ih l5_58 (l6_33 + 1) h
theorem s_X11_forts_50 {l1_18 l2_19 l3_20 : Int} {q : Int × xW} {k : Int → xW → Option (Int × xW)} (hk : ∀ (l4_70 : Int) (s71 : xW), k l4_70 s71 = some q → xG 2 0 0 mX11_forts 146 [vR 121, vI l1_18, vI l2_19, vI l3_20, vI l4_70, vX, vX, vX] [] 155 s71 (xRv (vI q.1) q.2)) : ∀ (f : Nat) (l4_21 : Int) (s22 : xW), F_X11_forts_50 l1_18 l2_19 l3_20 f l4_21 s22 k = some q → xG 2 0 0 mX11_forts 50 [vR 121, vI l1_18, vI l2_19, vI l3_20, vI l4_21, vX, vX, vX] [] 155 s22 (xRv (vI q.1) q.2) := by
  intro f
  induction f with
  | zero => intro l4_21 s22 h; cases h
  | succ f ih =>
    intro l4_21 s22 h
    unfold F_X11_forts_50 at h
    refine g_il dX11_forts_50 rfl ?_
    refine g_iln dX11_forts_52 rfl rfl ?_
    refine g_wgt dX11_forts_53 (tgt := 146) rfl rfl rfl (fun q23 => ?_) (fun q23 => ?_)
    · replace h := xif_f q23 h
      exact hk l4_21 s22 h
    · replace h := xif_t q23 h
      refine g_iln dX11_forts_56 rfl rfl ?_
      refine g_il dX11_forts_57 rfl ?_
      refine g_iadd dX11_forts_59 ?_
      obtain ⟨v25, e26, h⟩ := xlt_e h
      have hj27 : xG 2 0 0 mX11_forts 68 [vR 121, vI l1_18, vI l2_19, vI l3_20, vI l4_21, vX, vX, vX] [vI v25] 155 s22 (xRv (vI q.1) q.2) := by
        refine g_ist_5 dX11_forts_68 (by decide) rfl ?_
        refine g_ic dX11_forts_70 ?_
        refine g_ist_6 dX11_forts_71 (by decide) rfl ?_
        refine s_X11_forts_73 (fun l5_62 l6_63 h => ?_) xN _ _ h
        refine g_aln dX11_forts_127 rfl rfl (by decide) ?_
        refine g_getC 149 dX11_forts_128 fl_X11_113 rfl (by decide) ?_
        refine g_iln dX11_forts_131 rfl rfl ?_
        refine g_il dX11_forts_132 rfl ?_
        obtain ⟨r65, e64, h⟩ := xbp_e h
        refine g_cS2v dX11_forts_134 ml_X11_441 (s_X11_place e64) (by decide) rfl ?_
        refine g_il dX11_forts_137 rfl ?_
        obtain ⟨hg66, h⟩ := xgd_e h
        obtain ⟨hg67, h⟩ := xgd_e h
        obtain ⟨s68, e69, h⟩ := xlt_e h
        refine h_zast 441 dX11_forts_139 rfl hg66 (by decide) hg67 e69 ?_
        refine g_inc_4 dX11_forts_140 (by decide) rfl ?_
        refine g_goto dX11_forts_143 (tgt := 50) rfl ?_
        refine g_drop_5 ?_
        refine g_drop_6 ?_
        exact ih (l4_21 + 1) s68 h
      refine g_yne dX11_forts_60 (tgt := 67) rfl rfl (fun c24 => ?_) (fun c24 => ?_)
      · skip
        refine g_ic dX11_forts_67 ?_
        exact g_vq ((if_neg c24).symm.trans e26) hj27
      · skip
        refine g_ic dX11_forts_63 ?_
        refine g_goto dX11_forts_64 (tgt := 68) rfl ?_
        exact g_vq ((if_pos c24).symm.trans e26) hj27
theorem s_X11_forts_42 {l1_13 l2_14 : Int} {q : Int × xW} {k : Int → xW → Option (Int × xW)} (hk : ∀ (l3_74 : Int) (s75 : xW), k l3_74 s75 = some q → xG 2 0 0 mX11_forts 152 [vR 121, vI l1_13, vI l2_14, vI l3_74, vX, vX, vX, vX] [] 155 s75 (xRv (vI q.1) q.2)) : ∀ (f : Nat) (l3_15 : Int) (s16 : xW), F_X11_forts_42 l1_13 l2_14 f l3_15 s16 k = some q → xG 2 0 0 mX11_forts 42 [vR 121, vI l1_13, vI l2_14, vI l3_15, vX, vX, vX, vX] [] 155 s16 (xRv (vI q.1) q.2) := by
  intro f
  induction f with
  | zero => intro l3_15 s16 h; cases h
  | succ f ih =>
    intro l3_15 s16 h
    unfold F_X11_forts_42 at h
    refine g_iln dX11_forts_42 rfl rfl ?_
    refine g_iln dX11_forts_43 rfl rfl ?_
    refine g_wgt dX11_forts_44 (tgt := 152) rfl rfl rfl (fun q17 => ?_) (fun q17 => ?_)
    · replace h := xif_f q17 h
      exact hk l3_15 s16 h
    · replace h := xif_t q17 h
      refine g_ic dX11_forts_47 ?_
      refine g_ist_4 dX11_forts_48 (by decide) rfl ?_
      refine s_X11_forts_50 (fun l4_72 s73 h => ?_) xN _ _ h
      refine g_inc_3 dX11_forts_146 (by decide) rfl ?_
      refine g_goto dX11_forts_149 (tgt := 42) rfl ?_
      refine g_drop_4 ?_
      exact ih (l3_15 + 1) s73 h
theorem s_X11_forts_167 {l1_85 l2_86 l3_87 : Int} {q : Int × xW} {k : Int → xW → Option (Int × xW)} (hk : ∀ (l4_103 : Int) (s104 : xW), k l4_103 s104 = some q → xG 2 0 0 mX11_forts 211 [vR 121, vI l1_85, vI l2_86, vI l3_87, vI l4_103, vX, vX, vX] [] 155 s104 (xRv (vI q.1) q.2)) : ∀ (f : Nat) (l4_88 : Int) (s89 : xW), F_X11_forts_167 l1_85 l2_86 l3_87 f l4_88 s89 k = some q → xG 2 0 0 mX11_forts 167 [vR 121, vI l1_85, vI l2_86, vI l3_87, vI l4_88, vX, vX, vX] [] 155 s89 (xRv (vI q.1) q.2) := by
  intro f
  induction f with
  | zero => intro l4_88 s89 h; cases h
  | succ f ih =>
    intro l4_88 s89 h
    unfold F_X11_forts_167 at h
    refine g_il dX11_forts_167 rfl ?_
    refine g_iln dX11_forts_169 rfl rfl ?_
    refine g_wgt dX11_forts_170 (tgt := 211) rfl rfl rfl (fun q90 => ?_) (fun q90 => ?_)
    · replace h := xif_f q90 h
      exact hk l4_88 s89 h
    · replace h := xif_t q90 h
      refine g_aln dX11_forts_173 rfl rfl (by decide) ?_
      refine g_getI 1 dX11_forts_174 fl_X11_15 rfl rfl ?_
      obtain ⟨j92, ej93, h⟩ := xjn_e h
      have hj94 : ∀ (s91 : xW), j92 s91 = some q → xG 2 0 0 mX11_forts 205 [vR 121, vI l1_85, vI l2_86, vI l3_87, vI l4_88, vX, vX, vX] [] 155 s91 (xRv (vI q.1) q.2) := by
        intro s91 h
        rw [ej93] at h
        refine g_inc_4 dX11_forts_205 (by decide) rfl ?_
        refine g_goto dX11_forts_208 (tgt := 167) rfl ?_
        exact ih (l4_88 + 1) s91 h
      clear ej93
      refine g_yne dX11_forts_177 (tgt := 205) rfl rfl (fun q95 => ?_) (fun q95 => ?_)
      · replace h := xif_f q95 h
        exact hj94 s89 h
      · replace h := xif_t q95 h
        refine g_aln dX11_forts_180 rfl rfl (by decide) ?_
        refine g_iln dX11_forts_181 rfl rfl ?_
        refine g_iln dX11_forts_182 rfl rfl ?_
        refine g_iln dX11_forts_183 rfl rfl ?_
        refine g_il dX11_forts_184 rfl ?_
        obtain ⟨r97, e96, h⟩ := xbp_e h
        refine g_cV4v dX11_forts_186 ml_X11_446 rfl (s_X11_isGood e96) (by decide) rfl ?_
        refine g_yeq dX11_forts_189 (tgt := 205) rfl rfl (fun q98 => ?_) (fun q98 => ?_)
        · replace h := xif_f q98 h
          exact hj94 s89 h
        · replace h := xif_t q98 h
          refine g_aln dX11_forts_192 rfl rfl (by decide) ?_
          refine g_iln dX11_forts_193 rfl rfl ?_
          refine g_wi2l dX11_forts_194 rfl ?_
          obtain ⟨s100, e99, h⟩ := xbp_e h
          refine g_cV10 dX11_forts_195 ml_X11_18 rfl (s_X11_enters e99) (by decide) rfl ?_
          refine g_aln dX11_forts_198 rfl rfl (by decide) ?_
          refine g_il dX11_forts_199 rfl ?_
          refine g_wi2l dX11_forts_201 rfl ?_
          obtain ⟨s102, e101, h⟩ := xbp_e h
          refine g_cV10 dX11_forts_202 ml_X11_18 rfl (s_X11_enters e101) (by decide) rfl ?_
          exact hj94 s102 h
theorem s_X11_forts_159 {l1_80 l2_81 : Int} {q : Int × xW} {k : Int → xW → Option (Int × xW)} (hk : ∀ (l3_107 : Int) (s108 : xW), k l3_107 s108 = some q → xG 2 0 0 mX11_forts 217 [vR 121, vI l1_80, vI l2_81, vI l3_107, vX, vX, vX, vX] [] 155 s108 (xRv (vI q.1) q.2)) : ∀ (f : Nat) (l3_82 : Int) (s83 : xW), F_X11_forts_159 l1_80 l2_81 f l3_82 s83 k = some q → xG 2 0 0 mX11_forts 159 [vR 121, vI l1_80, vI l2_81, vI l3_82, vX, vX, vX, vX] [] 155 s83 (xRv (vI q.1) q.2) := by
  intro f
  induction f with
  | zero => intro l3_82 s83 h; cases h
  | succ f ih =>
    intro l3_82 s83 h
    unfold F_X11_forts_159 at h
    refine g_iln dX11_forts_159 rfl rfl ?_
    refine g_iln dX11_forts_160 rfl rfl ?_
    refine g_wgt dX11_forts_161 (tgt := 217) rfl rfl rfl (fun q84 => ?_) (fun q84 => ?_)
    · replace h := xif_f q84 h
      exact hk l3_82 s83 h
    · replace h := xif_t q84 h
      refine g_ic dX11_forts_164 ?_
      refine g_ist_4 dX11_forts_165 (by decide) rfl ?_
      refine s_X11_forts_167 (fun l4_105 s106 h => ?_) xN _ _ h
      refine g_inc_3 dX11_forts_211 (by decide) rfl ?_
      refine g_goto dX11_forts_214 (tgt := 159) rfl ?_
      refine g_drop_4 ?_
      exact ih (l3_82 + 1) s106 h
theorem s_X11_forts {a1 a2 : Int} {s0 : xW} {q : Int × xW} (h : F_X11_forts a1 a2 s0 = some q) : xC 2 0 0 mX11_forts [vR 121, vI a1, vI a2] 155 s0 (xRv (vI q.1) q.2) := by
  refine xC.of [vR 121, vI a1, vI a2, vX, vX, vX, vX, vX] (by decide +kernel) (Nat.le_of_ble_eq_true rfl) rfl ?_
  unfold F_X11_forts at h
  refine g_aln dX11_forts_0 rfl rfl (by decide) ?_
  refine g_ic dX11_forts_1 ?_
  obtain ⟨s1, e2, h⟩ := xlt_e h
  refine h_putI 0 dX11_forts_2 fl_X11_3 rfl rfl e2 ?_
  refine g_iln dX11_forts_5 rfl rfl ?_
  refine g_wi2l dX11_forts_6 rfl ?_
  refine g_lc dX11_forts_7 (w := 0) rfl ?_
  refine g_ldc2 dX11_forts_8 ct_X11_444 (w := 20) rfl ?_
  obtain ⟨r4, e3, h⟩ := xbp_e h
  refine g_cS3v dX11_forts_11 ml_X11_132 (s_X11_in e3) (by decide) rfl ?_
  obtain ⟨j5, ej6, h⟩ := xjn_e h
  have hj7 : j5  = some q → xG 2 0 0 mX11_forts 29 [vX, vX, vX, vX, vX, vX, vX, vX] [] 155 s1 (xRv (vI q.1) q.2) := by
    intro  h
    rw [ej6] at h
    refine g_ic dX11_forts_29 ?_
    exact g_rI rfl dX11_forts_30 h
  clear ej6
  refine g_yeq dX11_forts_14 (tgt := 29) rfl rfl (fun q8 => ?_) (fun q8 => ?_)
  · replace h := xif_f q8 h
    refine g_drop_0 ?_
    refine g_drop_1 ?_
    refine g_drop_2 ?_
    exact hj7  h
  · replace h := xif_t q8 h
    refine g_iln dX11_forts_17 rfl rfl ?_
    refine g_wi2l dX11_forts_18 rfl ?_
    refine g_lc dX11_forts_19 (w := 0) rfl ?_
    refine g_ldc2 dX11_forts_20 ct_X11_444 (w := 20) rfl ?_
    obtain ⟨r10, e9, h⟩ := xbp_e h
    refine g_cS3v dX11_forts_23 ml_X11_132 (s_X11_in e9) (by decide) rfl ?_
    refine g_yne dX11_forts_26 (tgt := 31) rfl rfl (fun q11 => ?_) (fun q11 => ?_)
    · replace h := xif_f q11 h
      refine g_iln dX11_forts_31 rfl rfl ?_
      refine g_iln dX11_forts_32 rfl rfl ?_
      refine g_iadd dX11_forts_33 ?_
      refine g_yne dX11_forts_34 (tgt := 40) rfl rfl (fun q12 => ?_) (fun q12 => ?_)
      · replace h := xif_f q12 h
        refine g_ic dX11_forts_40 ?_
        refine g_istn_3 dX11_forts_41 (by decide) rfl ?_
        refine s_X11_forts_42 (fun l3_76 s77 h => ?_) xN _ _ h
        refine g_aln dX11_forts_152 rfl rfl (by decide) ?_
        refine g_ic dX11_forts_153 ?_
        obtain ⟨s78, e79, h⟩ := xlt_e h
        refine h_putI 1 dX11_forts_154 fl_X11_15 rfl rfl e79 ?_
        refine g_ic dX11_forts_157 ?_
        refine g_istn_3 dX11_forts_158 (by decide) rfl ?_
        refine s_X11_forts_159 (fun l3_109 s110 h => ?_) xN _ _ h
        refine g_aln dX11_forts_217 rfl rfl (by decide) ?_
        refine g_getI 1 dX11_forts_218 fl_X11_15 rfl rfl ?_
        obtain ⟨v112, e113, h⟩ := xlt_e h
        have hj114 : xG 2 0 0 mX11_forts 229 [vX, vX, vX, vX, vX, vX, vX, vX] [vI v112] 155 s110 (xRv (vI q.1) q.2) := by
          obtain ⟨r116, e115, h⟩ := xbp_e h
          refine g_cS1v dX11_forts_229 ml_X11_159 (s_X11_flag e115) (by decide) rfl ?_
          exact g_rI rfl dX11_forts_232 h
        refine g_yle dX11_forts_221 (tgt := 228) rfl rfl (fun c111 => ?_) (fun c111 => ?_)
        · skip
          refine g_ic dX11_forts_228 ?_
          refine g_drop_0 ?_
          refine g_drop_1 ?_
          refine g_drop_2 ?_
          refine g_drop_3 ?_
          exact g_vq ((if_neg c111).symm.trans e113) hj114
        · skip
          refine g_ic dX11_forts_224 ?_
          refine g_goto dX11_forts_225 (tgt := 229) rfl ?_
          refine g_drop_0 ?_
          refine g_drop_1 ?_
          refine g_drop_2 ?_
          refine g_drop_3 ?_
          exact g_vq ((if_pos c111).symm.trans e113) hj114
      · replace h := xif_t q12 h
        refine g_bi dX11_forts_37 (by decide) ?_
        exact g_rI rfl dX11_forts_39 h
    · replace h := xif_t q11 h
      refine g_drop_0 ?_
      refine g_drop_1 ?_
      refine g_drop_2 ?_
      exact hj7  h
theorem dX11_gets_0 : decode cX11_gets 0 = .ok (.iload_n 1, 1) := by decide +kernel
theorem dX11_gets_1 : decode cX11_gets 1 = .ok (.iload_n 0, 1) := by decide +kernel
theorem dX11_gets_2 : decode cX11_gets 2 = .ok (.if_icmp .lt 7, 3) := by decide +kernel
theorem dX11_gets_5 : decode cX11_gets 5 = .ok (.iload_n 2, 1) := by decide +kernel
theorem dX11_gets_6 : decode cX11_gets 6 = .ok (.goto 4, 3) := by decide +kernel
theorem dX11_gets_9 : decode cX11_gets 9 = .ok (.iconst 0, 1) := by decide +kernel
theorem dX11_gets_10 : decode cX11_gets 10 = .ok (.iload_n 0, 1) := by decide +kernel
theorem dX11_gets_11 : decode cX11_gets 11 = .ok (.isub, 1) := by decide +kernel
theorem dX11_gets_12 : decode cX11_gets 12 = .ok (.iconst 2, 1) := by decide +kernel
theorem dX11_gets_13 : decode cX11_gets 13 = .ok (.iload_n 0, 1) := by decide +kernel
theorem dX11_gets_14 : decode cX11_gets 14 = .ok (.iload_n 1, 1) := by decide +kernel
theorem dX11_gets_15 : decode cX11_gets 15 = .ok (.if_icmp .ge 7, 3) := by decide +kernel
theorem dX11_gets_18 : decode cX11_gets 18 = .ok (.iconst 1, 1) := by decide +kernel
theorem dX11_gets_19 : decode cX11_gets 19 = .ok (.goto 4, 3) := by decide +kernel
theorem dX11_gets_22 : decode cX11_gets 22 = .ok (.iconst 0, 1) := by decide +kernel
theorem dX11_gets_23 : decode cX11_gets 23 = .ok (.invokestatic 159, 3) := by decide +kernel
theorem dX11_gets_26 : decode cX11_gets 26 = .ok (.imul, 1) := by decide +kernel
theorem dX11_gets_27 : decode cX11_gets 27 = .ok (.isub, 1) := by decide +kernel
theorem dX11_gets_28 : decode cX11_gets 28 = .ok (.ireturn, 1) := by decide +kernel
theorem s_X11_gets {a0 a1 a2 : Int} {s0 : xW} {q : Int} (h : F_X11_gets a0 a1 a2 s0 = some q) : xC 1 0 0 mX11_gets [vI a0, vI a1, vI a2] 155 s0 (xRv (vI q) s0) := by
  refine xC.of [vI a0, vI a1, vI a2] (by decide +kernel) (Nat.le_of_ble_eq_true rfl) rfl ?_
  unfold F_X11_gets at h
  refine g_iln dX11_gets_0 rfl rfl ?_
  refine g_iln dX11_gets_1 rfl rfl ?_
  obtain ⟨v2, e3, h⟩ := xlt_e h
  have hj4 : xG 1 0 0 mX11_gets 10 [vI a0, vI a1, vX] [vI v2] 155 s0 (xRv (vI q) s0) := by
    refine g_iln dX11_gets_10 rfl rfl ?_
    refine g_isub dX11_gets_11 ?_
    refine g_ic dX11_gets_12 ?_
    refine g_iln dX11_gets_13 rfl rfl ?_
    refine g_iln dX11_gets_14 rfl rfl ?_
    obtain ⟨v6, e7, h⟩ := xlt_e h
    have hj8 : xG 1 0 0 mX11_gets 23 [vX, vX, vX] [vI v6, vI 2, vI (v2 - a0)] 155 s0 (xRv (vI q) s0) := by
      obtain ⟨r10, e9, h⟩ := xbp_e h
      refine g_cS1v dX11_gets_23 ml_X11_159 (s_X11_flag e9) (by decide) rfl ?_
      refine g_imul dX11_gets_26 ?_
      refine g_isub dX11_gets_27 ?_
      exact g_pI rfl dX11_gets_28 h
    refine g_wge dX11_gets_15 (tgt := 22) rfl rfl rfl (fun c5 => ?_) (fun c5 => ?_)
    · skip
      refine g_ic dX11_gets_22 ?_
      refine g_drop_0 ?_
      refine g_drop_1 ?_
      exact g_vq ((if_neg c5).symm.trans e7) hj8
    · skip
      refine g_ic dX11_gets_18 ?_
      refine g_goto dX11_gets_19 (tgt := 23) rfl ?_
      refine g_drop_0 ?_
      refine g_drop_1 ?_
      exact g_vq ((if_pos c5).symm.trans e7) hj8
  refine g_wlt dX11_gets_2 (tgt := 9) rfl rfl rfl (fun c1 => ?_) (fun c1 => ?_)
  · skip
    refine g_ic dX11_gets_9 ?_
    refine g_drop_2 ?_
    exact g_vq ((if_neg c1).symm.trans e3) hj4
  · skip
    refine g_iln dX11_gets_5 rfl rfl ?_
    refine g_goto dX11_gets_6 (tgt := 10) rfl ?_
    refine g_drop_2 ?_
    exact g_vq ((if_pos c1).symm.trans e3) hj4
theorem dX11_laysLine_0 : decode cX11_laysLine 0 = .ok (.iconst 0, 1) := by decide +kernel
theorem dX11_laysLine_1 : decode cX11_laysLine 1 = .ok (.istore_n 1, 1) := by decide +kernel
theorem dX11_laysLine_2 : decode cX11_laysLine 2 = .ok (.iload_n 1, 1) := by decide +kernel
theorem dX11_laysLine_3 : decode cX11_laysLine 3 = .ok (.aload_n 0, 1) := by decide +kernel
theorem dX11_laysLine_4 : decode cX11_laysLine 4 = .ok (.getfield 136, 3) := by decide +kernel
theorem dX11_laysLine_7 : decode cX11_laysLine 7 = .ok (.if_icmp .ge 80, 3) := by decide +kernel
theorem dX11_laysLine_10 : decode cX11_laysLine 10 = .ok (.iconst 0, 1) := by decide +kernel
theorem dX11_laysLine_11 : decode cX11_laysLine 11 = .ok (.istore_n 2, 1) := by decide +kernel
theorem dX11_laysLine_12 : decode cX11_laysLine 12 = .ok (.iconst 0, 1) := by decide +kernel
theorem dX11_laysLine_13 : decode cX11_laysLine 13 = .ok (.istore_n 3, 1) := by decide +kernel
theorem dX11_laysLine_14 : decode cX11_laysLine 14 = .ok (.iload_n 3, 1) := by decide +kernel
theorem dX11_laysLine_15 : decode cX11_laysLine 15 = .ok (.aload_n 0, 1) := by decide +kernel
theorem dX11_laysLine_16 : decode cX11_laysLine 16 = .ok (.getfield 136, 3) := by decide +kernel
theorem dX11_laysLine_19 : decode cX11_laysLine 19 = .ok (.if_icmp .ge 55, 3) := by decide +kernel
theorem dX11_laysLine_22 : decode cX11_laysLine 22 = .ok (.iload_n 2, 1) := by decide +kernel
theorem dX11_laysLine_23 : decode cX11_laysLine 23 = .ok (.aload_n 0, 1) := by decide +kernel
theorem dX11_laysLine_24 : decode cX11_laysLine 24 = .ok (.getfield 71, 3) := by decide +kernel
theorem dX11_laysLine_27 : decode cX11_laysLine 27 = .ok (.iload_n 3, 1) := by decide +kernel
theorem dX11_laysLine_28 : decode cX11_laysLine 28 = .ok (.iaload, 1) := by decide +kernel
theorem dX11_laysLine_29 : decode cX11_laysLine 29 = .ok (.aload_n 0, 1) := by decide +kernel
theorem dX11_laysLine_30 : decode cX11_laysLine 30 = .ok (.getfield 71, 3) := by decide +kernel
theorem dX11_laysLine_33 : decode cX11_laysLine 33 = .ok (.iload_n 1, 1) := by decide +kernel
theorem dX11_laysLine_34 : decode cX11_laysLine 34 = .ok (.iaload, 1) := by decide +kernel
theorem dX11_laysLine_35 : decode cX11_laysLine 35 = .ok (.if_icmp .lt 23, 3) := by decide +kernel
theorem dX11_laysLine_38 : decode cX11_laysLine 38 = .ok (.aload_n 0, 1) := by decide +kernel
theorem dX11_laysLine_39 : decode cX11_laysLine 39 = .ok (.getfield 71, 3) := by decide +kernel
theorem dX11_laysLine_42 : decode cX11_laysLine 42 = .ok (.iload_n 3, 1) := by decide +kernel
theorem dX11_laysLine_43 : decode cX11_laysLine 43 = .ok (.iaload, 1) := by decide +kernel
theorem dX11_laysLine_44 : decode cX11_laysLine 44 = .ok (.aload_n 0, 1) := by decide +kernel
theorem dX11_laysLine_45 : decode cX11_laysLine 45 = .ok (.getfield 71, 3) := by decide +kernel
theorem dX11_laysLine_48 : decode cX11_laysLine 48 = .ok (.iload_n 1, 1) := by decide +kernel
theorem dX11_laysLine_49 : decode cX11_laysLine 49 = .ok (.iaload, 1) := by decide +kernel
theorem dX11_laysLine_50 : decode cX11_laysLine 50 = .ok (.if_icmp .ne 12, 3) := by decide +kernel
theorem dX11_laysLine_53 : decode cX11_laysLine 53 = .ok (.iload_n 3, 1) := by decide +kernel
theorem dX11_laysLine_54 : decode cX11_laysLine 54 = .ok (.iload_n 1, 1) := by decide +kernel
theorem dX11_laysLine_55 : decode cX11_laysLine 55 = .ok (.if_icmp .ge 7, 3) := by decide +kernel
theorem dX11_laysLine_58 : decode cX11_laysLine 58 = .ok (.iconst 1, 1) := by decide +kernel
theorem dX11_laysLine_59 : decode cX11_laysLine 59 = .ok (.goto 4, 3) := by decide +kernel
theorem dX11_laysLine_62 : decode cX11_laysLine 62 = .ok (.iconst 0, 1) := by decide +kernel
theorem dX11_laysLine_63 : decode cX11_laysLine 63 = .ok (.invokestatic 159, 3) := by decide +kernel
theorem dX11_laysLine_66 : decode cX11_laysLine 66 = .ok (.iadd, 1) := by decide +kernel
theorem dX11_laysLine_67 : decode cX11_laysLine 67 = .ok (.istore_n 2, 1) := by decide +kernel
theorem dX11_laysLine_68 : decode cX11_laysLine 68 = .ok (.iinc 3 1, 3) := by decide +kernel
theorem dX11_laysLine_71 : decode cX11_laysLine 71 = .ok (.goto (-57), 3) := by decide +kernel
theorem dX11_laysLine_74 : decode cX11_laysLine 74 = .ok (.aload_n 0, 1) := by decide +kernel
theorem dX11_laysLine_75 : decode cX11_laysLine 75 = .ok (.getfield 89, 3) := by decide +kernel
theorem dX11_laysLine_78 : decode cX11_laysLine 78 = .ok (.iload_n 2, 1) := by decide +kernel
theorem dX11_laysLine_79 : decode cX11_laysLine 79 = .ok (.iload_n 1, 1) := by decide +kernel
theorem dX11_laysLine_80 : decode cX11_laysLine 80 = .ok (.iastore, 1) := by decide +kernel
theorem dX11_laysLine_81 : decode cX11_laysLine 81 = .ok (.iinc 1 1, 3) := by decide +kernel
theorem dX11_laysLine_84 : decode cX11_laysLine 84 = .ok (.goto (-82), 3) := by decide +kernel
theorem dX11_laysLine_87 : decode cX11_laysLine 87 = .ok (.return_, 1) := by decide +kernel
theorem s_X11_laysLine_14 {s7 : xW} {l1_4 : Int} {q : xW} {k : Int → Int → Option (xW)} (hk : ∀ (l2_28 : Int) (l3_29 : Int), k l2_28 l3_29 = some q → xG 1 0 0 mX11_laysLine 74 [vR 121, vI l1_4, vI l2_28, vI l3_29] [] 155 s7 (xR0 q)) : ∀ (f : Nat) (l2_5 : Int) (l3_6 : Int), F_X11_laysLine_14 l1_4 s7 f l2_5 l3_6 k = some q → xG 1 0 0 mX11_laysLine 14 [vR 121, vI l1_4, vI l2_5, vI l3_6] [] 155 s7 (xR0 q) := by
  intro f
  induction f with
  | zero => intro l2_5 l3_6 h; cases h
  | succ f ih =>
    intro l2_5 l3_6 h
    unfold F_X11_laysLine_14 at h
    refine g_iln dX11_laysLine_14 rfl rfl ?_
    refine g_aln dX11_laysLine_15 rfl rfl (by decide) ?_
    refine g_getI 4 dX11_laysLine_16 fl_X11_136 rfl rfl ?_
    refine g_wge dX11_laysLine_19 (tgt := 74) rfl rfl rfl (fun q8 => ?_) (fun q8 => ?_)
    · replace h := xif_f q8 h
      exact hk l2_5 l3_6 h
    · replace h := xif_t q8 h
      refine g_iln dX11_laysLine_22 rfl rfl ?_
      refine g_aln dX11_laysLine_23 rfl rfl (by decide) ?_
      refine g_getC 135 dX11_laysLine_24 fl_X11_71 rfl (by decide) ?_
      refine g_iln dX11_laysLine_27 rfl rfl ?_
      obtain ⟨hg9, h⟩ := xgd_e h
      refine g_iald 8 dX11_laysLine_28 rfl hg9 (by decide) ?_
      refine g_aln dX11_laysLine_29 rfl rfl (by decide) ?_
      refine g_getC 135 dX11_laysLine_30 fl_X11_71 rfl (by decide) ?_
      refine g_iln dX11_laysLine_33 rfl rfl ?_
      obtain ⟨hg10, h⟩ := xgd_e h
      refine g_iald 8 dX11_laysLine_34 rfl hg10 (by decide) ?_
      obtain ⟨j12, ej13, h⟩ := xjn_e h
      have hj14 : ∀ (t11 : Int), j12 t11 = some q → xG 1 0 0 mX11_laysLine 63 [vR 121, vI l1_4, vX, vI l3_6] [vI t11, vI l2_5] 155 s7 (xR0 q) := by
        intro t11 h
        rw [ej13] at h
        obtain ⟨r16, e15, h⟩ := xbp_e h
        refine g_cS1v dX11_laysLine_63 ml_X11_159 (s_X11_flag e15) (by decide) rfl ?_
        refine g_iadd dX11_laysLine_66 ?_
        refine g_istn_2 dX11_laysLine_67 (by decide) rfl ?_
        refine g_inc_3 dX11_laysLine_68 (by decide) rfl ?_
        refine g_goto dX11_laysLine_71 (tgt := 14) rfl ?_
        exact ih (l2_5 + r16) (l3_6 + 1) h
      clear ej13
      obtain ⟨j17, ej18, h⟩ := xjn_e h
      have hj19 : j17  = some q → xG 1 0 0 mX11_laysLine 58 [vR 121, vI l1_4, vX, vI l3_6] [vI l2_5] 155 s7 (xR0 q) := by
        intro  h
        rw [ej18] at h
        refine g_ic dX11_laysLine_58 ?_
        refine g_goto dX11_laysLine_59 (tgt := 63) rfl ?_
        exact hj14 1 h
      clear ej18
      refine g_wlt dX11_laysLine_35 (tgt := 58) rfl rfl rfl (fun q20 => ?_) (fun q20 => ?_)
      · replace h := xif_f q20 h
        refine g_drop_2 ?_
        exact hj19  h
      · replace h := xif_t q20 h
        refine g_aln dX11_laysLine_38 rfl rfl (by decide) ?_
        refine g_getC 135 dX11_laysLine_39 fl_X11_71 rfl (by decide) ?_
        refine g_iln dX11_laysLine_42 rfl rfl ?_
        obtain ⟨hg21, h⟩ := xgd_e h
        refine g_iald 8 dX11_laysLine_43 rfl hg21 (by decide) ?_
        refine g_aln dX11_laysLine_44 rfl rfl (by decide) ?_
        refine g_getC 135 dX11_laysLine_45 fl_X11_71 rfl (by decide) ?_
        refine g_iln dX11_laysLine_48 rfl rfl ?_
        obtain ⟨hg22, h⟩ := xgd_e h
        refine g_iald 8 dX11_laysLine_49 rfl hg22 (by decide) ?_
        obtain ⟨j23, ej24, h⟩ := xjn_e h
        have hj25 : j23  = some q → xG 1 0 0 mX11_laysLine 62 [vR 121, vI l1_4, vX, vI l3_6] [vI l2_5] 155 s7 (xR0 q) := by
          intro  h
          rw [ej24] at h
          refine g_ic dX11_laysLine_62 ?_
          exact hj14 0 h
        clear ej24
        refine g_wne dX11_laysLine_50 (tgt := 62) rfl rfl rfl (fun q26 => ?_) (fun q26 => ?_)
        · replace h := xif_f q26 h
          refine g_drop_2 ?_
          exact hj25  h
        · replace h := xif_t q26 h
          refine g_iln dX11_laysLine_53 rfl rfl ?_
          refine g_iln dX11_laysLine_54 rfl rfl ?_
          refine g_wge dX11_laysLine_55 (tgt := 62) rfl rfl rfl (fun q27 => ?_) (fun q27 => ?_)
          · replace h := xif_f q27 h
            refine g_drop_2 ?_
            exact hj25  h
          · replace h := xif_t q27 h
            refine g_drop_2 ?_
            exact hj19  h
theorem s_X11_laysLine_2 {q : xW} {k : Int → xW → Option (xW)} (hk : ∀ (l1_35 : Int) (s36 : xW), k l1_35 s36 = some q → xG 1 0 0 mX11_laysLine 87 [vR 121, vI l1_35, vX, vX] [] 155 s36 (xR0 q)) : ∀ (f : Nat) (l1_1 : Int) (s2 : xW), F_X11_laysLine_2  f l1_1 s2 k = some q → xG 1 0 0 mX11_laysLine 2 [vR 121, vI l1_1, vX, vX] [] 155 s2 (xR0 q) := by
  intro f
  induction f with
  | zero => intro l1_1 s2 h; cases h
  | succ f ih =>
    intro l1_1 s2 h
    unfold F_X11_laysLine_2 at h
    refine g_iln dX11_laysLine_2 rfl rfl ?_
    refine g_aln dX11_laysLine_3 rfl rfl (by decide) ?_
    refine g_getI 4 dX11_laysLine_4 fl_X11_136 rfl rfl ?_
    refine g_wge dX11_laysLine_7 (tgt := 87) rfl rfl rfl (fun q3 => ?_) (fun q3 => ?_)
    · replace h := xif_f q3 h
      exact hk l1_1 s2 h
    · replace h := xif_t q3 h
      refine g_ic dX11_laysLine_10 ?_
      refine g_istn_2 dX11_laysLine_11 (by decide) rfl ?_
      refine g_ic dX11_laysLine_12 ?_
      refine g_istn_3 dX11_laysLine_13 (by decide) rfl ?_
      refine s_X11_laysLine_14 (fun l2_30 l3_31 h => ?_) xN _ _ h
      refine g_aln dX11_laysLine_74 rfl rfl (by decide) ?_
      refine g_getC 141 dX11_laysLine_75 fl_X11_89 rfl (by decide) ?_
      refine g_iln dX11_laysLine_78 rfl rfl ?_
      refine g_iln dX11_laysLine_79 rfl rfl ?_
      obtain ⟨hg32, h⟩ := xgd_e h
      obtain ⟨s33, e34, h⟩ := xlt_e h
      refine h_iast 8 dX11_laysLine_80 rfl hg32 (by decide) e34 ?_
      refine g_inc_1 dX11_laysLine_81 (by decide) rfl ?_
      refine g_goto dX11_laysLine_84 (tgt := 2) rfl ?_
      refine g_drop_2 ?_
      refine g_drop_3 ?_
      exact ih (l1_1 + 1) s33 h
theorem s_X11_laysLine {s0 : xW} {q : xW} (h : F_X11_laysLine  s0 = some q) : xC 1 0 0 mX11_laysLine [vR 121] 155 s0 (xR0 q) := by
  refine xC.of [vR 121, vX, vX, vX] (by decide +kernel) (Nat.le_of_ble_eq_true rfl) rfl ?_
  unfold F_X11_laysLine at h
  refine g_ic dX11_laysLine_0 ?_
  refine g_istn_1 dX11_laysLine_1 (by decide) rfl ?_
  refine s_X11_laysLine_2 (fun l1_37 s38 h => ?_) xN _ _ h
  exact g_rV rfl dX11_laysLine_87 h
theorem dX11_isFree_0 : decode cX11_isFree 0 = .ok (.iconst 1, 1) := by decide +kernel
theorem dX11_isFree_1 : decode cX11_isFree 1 = .ok (.istore_n 3, 1) := by decide +kernel
theorem dX11_isFree_2 : decode cX11_isFree 2 = .ok (.iconst 0, 1) := by decide +kernel
theorem dX11_isFree_3 : decode cX11_isFree 3 = .ok (.istore 4, 2) := by decide +kernel
theorem dX11_isFree_5 : decode cX11_isFree 5 = .ok (.iload 4, 2) := by decide +kernel
theorem dX11_isFree_7 : decode cX11_isFree 7 = .ok (.aload_n 0, 1) := by decide +kernel
theorem dX11_isFree_8 : decode cX11_isFree 8 = .ok (.getfield 136, 3) := by decide +kernel
theorem dX11_isFree_11 : decode cX11_isFree 11 = .ok (.if_icmp .ge 43, 3) := by decide +kernel
theorem dX11_isFree_14 : decode cX11_isFree 14 = .ok (.iload_n 3, 1) := by decide +kernel
theorem dX11_isFree_15 : decode cX11_isFree 15 = .ok (.ifCond .eq 31, 3) := by decide +kernel
theorem dX11_isFree_18 : decode cX11_isFree 18 = .ok (.iload_n 1, 1) := by decide +kernel
theorem dX11_isFree_19 : decode cX11_isFree 19 = .ok (.i2l, 1) := by decide +kernel
theorem dX11_isFree_20 : decode cX11_isFree 20 = .ok (.iload 4, 2) := by decide +kernel
theorem dX11_isFree_22 : decode cX11_isFree 22 = .ok (.invokestatic 403, 3) := by decide +kernel
theorem dX11_isFree_25 : decode cX11_isFree 25 = .ok (.ifCond .eq 17, 3) := by decide +kernel
theorem dX11_isFree_28 : decode cX11_isFree 28 = .ok (.aload_n 0, 1) := by decide +kernel
theorem dX11_isFree_29 : decode cX11_isFree 29 = .ok (.aload_n 0, 1) := by decide +kernel
theorem dX11_isFree_30 : decode cX11_isFree 30 = .ok (.getfield 47, 3) := by decide +kernel
theorem dX11_isFree_33 : decode cX11_isFree 33 = .ok (.iload_n 2, 1) := by decide +kernel
theorem dX11_isFree_34 : decode cX11_isFree 34 = .ok (.iload 4, 2) := by decide +kernel
theorem dX11_isFree_36 : decode cX11_isFree 36 = .ok (.invokevirtual 296, 3) := by decide +kernel
theorem dX11_isFree_39 : decode cX11_isFree 39 = .ok (.ifCond .ne 7, 3) := by decide +kernel
theorem dX11_isFree_42 : decode cX11_isFree 42 = .ok (.iconst 1, 1) := by decide +kernel
theorem dX11_isFree_43 : decode cX11_isFree 43 = .ok (.goto 4, 3) := by decide +kernel
theorem dX11_isFree_46 : decode cX11_isFree 46 = .ok (.iconst 0, 1) := by decide +kernel
theorem dX11_isFree_47 : decode cX11_isFree 47 = .ok (.istore_n 3, 1) := by decide +kernel
theorem dX11_isFree_48 : decode cX11_isFree 48 = .ok (.iinc 4 1, 3) := by decide +kernel
theorem dX11_isFree_51 : decode cX11_isFree 51 = .ok (.goto (-46), 3) := by decide +kernel
theorem dX11_isFree_54 : decode cX11_isFree 54 = .ok (.iload_n 3, 1) := by decide +kernel
theorem dX11_isFree_55 : decode cX11_isFree 55 = .ok (.ireturn, 1) := by decide +kernel
theorem s_X11_isFree_5 {s5 : xW} {l1_1 l2_2 : Int} {q : Int} {k : Int → Int → Option (Int)} (hk : ∀ (l3_24 : Int) (l4_25 : Int), k l3_24 l4_25 = some q → xG 1 0 0 mX11_isFree 54 [vR 121, vI l1_1, vI l2_2, vI l3_24, vI l4_25] [] 155 s5 (xRv (vI q) s5)) : ∀ (f : Nat) (l3_3 : Int) (l4_4 : Int), F_X11_isFree_5 l1_1 l2_2 s5 f l3_3 l4_4 k = some q → xG 1 0 0 mX11_isFree 5 [vR 121, vI l1_1, vI l2_2, vI l3_3, vI l4_4] [] 155 s5 (xRv (vI q) s5) := by
  intro f
  induction f with
  | zero => intro l3_3 l4_4 h; cases h
  | succ f ih =>
    intro l3_3 l4_4 h
    unfold F_X11_isFree_5 at h
    refine g_il dX11_isFree_5 rfl ?_
    refine g_aln dX11_isFree_7 rfl rfl (by decide) ?_
    refine g_getI 4 dX11_isFree_8 fl_X11_136 rfl rfl ?_
    refine g_wge dX11_isFree_11 (tgt := 54) rfl rfl rfl (fun q6 => ?_) (fun q6 => ?_)
    · replace h := xif_f q6 h
      exact hk l3_3 l4_4 h
    · replace h := xif_t q6 h
      refine g_iln dX11_isFree_14 rfl rfl ?_
      obtain ⟨j8, ej9, h⟩ := xjn_e h
      have hj10 : ∀ (t7 : Int), j8 t7 = some q → xG 1 0 0 mX11_isFree 47 [vR 121, vI l1_1, vI l2_2, vX, vI l4_4] [vI t7] 155 s5 (xRv (vI q) s5) := by
        intro t7 h
        rw [ej9] at h
        refine g_istn_3 dX11_isFree_47 (by decide) rfl ?_
        refine g_inc_4 dX11_isFree_48 (by decide) rfl ?_
        refine g_goto dX11_isFree_51 (tgt := 5) rfl ?_
        exact ih t7 (l4_4 + 1) h
      clear ej9
      obtain ⟨j11, ej12, h⟩ := xjn_e h
      have hj13 : j11  = some q → xG 1 0 0 mX11_isFree 46 [vR 121, vI l1_1, vI l2_2, vX, vI l4_4] [] 155 s5 (xRv (vI q) s5) := by
        intro  h
        rw [ej12] at h
        refine g_ic dX11_isFree_46 ?_
        exact hj10 0 h
      clear ej12
      refine g_yeq dX11_isFree_15 (tgt := 46) rfl rfl (fun q14 => ?_) (fun q14 => ?_)
      · replace h := xif_f q14 h
        refine g_drop_3 ?_
        exact hj13  h
      · replace h := xif_t q14 h
        refine g_iln dX11_isFree_18 rfl rfl ?_
        refine g_wi2l dX11_isFree_19 rfl ?_
        refine g_il dX11_isFree_20 rfl ?_
        obtain ⟨r16, e15, h⟩ := xbp_e h
        refine g_cS2v dX11_isFree_22 ml_X11_403 (s_X11_has e15) (by decide) rfl ?_
        obtain ⟨j17, ej18, h⟩ := xjn_e h
        have hj19 : j17  = some q → xG 1 0 0 mX11_isFree 42 [vR 121, vI l1_1, vI l2_2, vX, vI l4_4] [] 155 s5 (xRv (vI q) s5) := by
          intro  h
          rw [ej18] at h
          refine g_ic dX11_isFree_42 ?_
          refine g_goto dX11_isFree_43 (tgt := 47) rfl ?_
          exact hj10 1 h
        clear ej18
        refine g_yeq dX11_isFree_25 (tgt := 42) rfl rfl (fun q20 => ?_) (fun q20 => ?_)
        · replace h := xif_f q20 h
          refine g_drop_3 ?_
          exact hj19  h
        · replace h := xif_t q20 h
          refine g_aln dX11_isFree_28 rfl rfl (by decide) ?_
          refine g_aln dX11_isFree_29 rfl rfl (by decide) ?_
          refine g_getC 127 dX11_isFree_30 fl_X11_47 rfl (by decide) ?_
          refine g_iln dX11_isFree_33 rfl rfl ?_
          refine g_il dX11_isFree_34 rfl ?_
          obtain ⟨r22, e21, h⟩ := xbp_e h
          refine g_cV3v dX11_isFree_36 ml_X11_296 rfl (s_X11_meet e21) (by decide) rfl ?_
          refine g_yne dX11_isFree_39 (tgt := 46) rfl rfl (fun q23 => ?_) (fun q23 => ?_)
          · replace h := xif_f q23 h
            refine g_drop_3 ?_
            exact hj13  h
          · replace h := xif_t q23 h
            refine g_drop_3 ?_
            exact hj19  h
theorem s_X11_isFree {a1 a2 : Int} {s0 : xW} {q : Int} (h : F_X11_isFree a1 a2 s0 = some q) : xC 1 0 0 mX11_isFree [vR 121, vI a1, vI a2] 155 s0 (xRv (vI q) s0) := by
  refine xC.of [vR 121, vI a1, vI a2, vX, vX] (by decide +kernel) (Nat.le_of_ble_eq_true rfl) rfl ?_
  unfold F_X11_isFree at h
  refine g_ic dX11_isFree_0 ?_
  refine g_istn_3 dX11_isFree_1 (by decide) rfl ?_
  refine g_ic dX11_isFree_2 ?_
  refine g_ist_4 dX11_isFree_3 (by decide) rfl ?_
  refine s_X11_isFree_5 (fun l3_26 l4_27 h => ?_) xN _ _ h
  refine g_iln dX11_isFree_54 rfl rfl ?_
  obtain ⟨hg28, h⟩ := xgd_e h
  exact g_pZ rfl dX11_isFree_55 hg28 h
theorem dX11_hands_0 : decode cX11_hands 0 = .ok (.aload_n 0, 1) := by decide +kernel
theorem dX11_hands_1 : decode cX11_hands 1 = .ok (.iconst 0, 1) := by decide +kernel
theorem dX11_hands_2 : decode cX11_hands 2 = .ok (.putfield 3, 3) := by decide +kernel
theorem dX11_hands_5 : decode cX11_hands 5 = .ok (.aload_n 0, 1) := by decide +kernel
theorem dX11_hands_6 : decode cX11_hands 6 = .ok (.aload_n 0, 1) := by decide +kernel
theorem dX11_hands_7 : decode cX11_hands 7 = .ok (.getfield 47, 3) := by decide +kernel
theorem dX11_hands_10 : decode cX11_hands 10 = .ok (.invokevirtual 303, 3) := by decide +kernel
theorem dX11_hands_13 : decode cX11_hands 13 = .ok (.aload_n 0, 1) := by decide +kernel
theorem dX11_hands_14 : decode cX11_hands 14 = .ok (.invokevirtual 394, 3) := by decide +kernel
theorem dX11_hands_17 : decode cX11_hands 17 = .ok (.iconst 0, 1) := by decide +kernel
theorem dX11_hands_18 : decode cX11_hands 18 = .ok (.istore_n 1, 1) := by decide +kernel
theorem dX11_hands_19 : decode cX11_hands 19 = .ok (.iconst 0, 1) := by decide +kernel
theorem dX11_hands_20 : decode cX11_hands 20 = .ok (.istore_n 2, 1) := by decide +kernel
theorem dX11_hands_21 : decode cX11_hands 21 = .ok (.iload_n 2, 1) := by decide +kernel
theorem dX11_hands_22 : decode cX11_hands 22 = .ok (.bipush 8, 2) := by decide +kernel
theorem dX11_hands_24 : decode cX11_hands 24 = .ok (.if_icmp .ge 16, 3) := by decide +kernel
theorem dX11_hands_27 : decode cX11_hands 27 = .ok (.aload_n 0, 1) := by decide +kernel
theorem dX11_hands_28 : decode cX11_hands 28 = .ok (.getfield 98, 3) := by decide +kernel
theorem dX11_hands_31 : decode cX11_hands 31 = .ok (.iload_n 2, 1) := by decide +kernel
theorem dX11_hands_32 : decode cX11_hands 32 = .ok (.iconst 0, 1) := by decide +kernel
theorem dX11_hands_33 : decode cX11_hands 33 = .ok (.iastore, 1) := by decide +kernel
theorem dX11_hands_34 : decode cX11_hands 34 = .ok (.iinc 2 1, 3) := by decide +kernel
theorem dX11_hands_37 : decode cX11_hands 37 = .ok (.goto (-16), 3) := by decide +kernel
theorem dX11_hands_40 : decode cX11_hands 40 = .ok (.iconst 0, 1) := by decide +kernel
theorem dX11_hands_41 : decode cX11_hands 41 = .ok (.istore_n 2, 1) := by decide +kernel
theorem dX11_hands_42 : decode cX11_hands 42 = .ok (.iload_n 2, 1) := by decide +kernel
theorem dX11_hands_43 : decode cX11_hands 43 = .ok (.aload_n 0, 1) := by decide +kernel
theorem dX11_hands_44 : decode cX11_hands 44 = .ok (.getfield 136, 3) := by decide +kernel
theorem dX11_hands_47 : decode cX11_hands 47 = .ok (.if_icmp .ge 73, 3) := by decide +kernel
theorem dX11_hands_50 : decode cX11_hands 50 = .ok (.iconst 0, 1) := by decide +kernel
theorem dX11_hands_51 : decode cX11_hands 51 = .ok (.istore_n 3, 1) := by decide +kernel
theorem dX11_hands_52 : decode cX11_hands 52 = .ok (.aload_n 0, 1) := by decide +kernel
theorem dX11_hands_53 : decode cX11_hands 53 = .ok (.aload_n 0, 1) := by decide +kernel
theorem dX11_hands_54 : decode cX11_hands 54 = .ok (.getfield 98, 3) := by decide +kernel
theorem dX11_hands_57 : decode cX11_hands 57 = .ok (.iload_n 3, 1) := by decide +kernel
theorem dX11_hands_58 : decode cX11_hands 58 = .ok (.iaload, 1) := by decide +kernel
theorem dX11_hands_59 : decode cX11_hands 59 = .ok (.aload_n 0, 1) := by decide +kernel
theorem dX11_hands_60 : decode cX11_hands 60 = .ok (.getfield 89, 3) := by decide +kernel
theorem dX11_hands_63 : decode cX11_hands 63 = .ok (.iload_n 2, 1) := by decide +kernel
theorem dX11_hands_64 : decode cX11_hands 64 = .ok (.iaload, 1) := by decide +kernel
theorem dX11_hands_65 : decode cX11_hands 65 = .ok (.invokevirtual 420, 3) := by decide +kernel
theorem dX11_hands_68 : decode cX11_hands 68 = .ok (.ifCond .ne 9, 3) := by decide +kernel
theorem dX11_hands_71 : decode cX11_hands 71 = .ok (.iinc 3 1, 3) := by decide +kernel
theorem dX11_hands_74 : decode cX11_hands 74 = .ok (.goto (-22), 3) := by decide +kernel
theorem dX11_hands_77 : decode cX11_hands 77 = .ok (.aload_n 0, 1) := by decide +kernel
theorem dX11_hands_78 : decode cX11_hands 78 = .ok (.getfield 98, 3) := by decide +kernel
theorem dX11_hands_81 : decode cX11_hands 81 = .ok (.iload_n 3, 1) := by decide +kernel
theorem dX11_hands_82 : decode cX11_hands 82 = .ok (.dup2, 1) := by decide +kernel
theorem dX11_hands_83 : decode cX11_hands 83 = .ok (.iaload, 1) := by decide +kernel
theorem dX11_hands_84 : decode cX11_hands 84 = .ok (.iconst 1, 1) := by decide +kernel
theorem dX11_hands_85 : decode cX11_hands 85 = .ok (.aload_n 0, 1) := by decide +kernel
theorem dX11_hands_86 : decode cX11_hands 86 = .ok (.getfield 89, 3) := by decide +kernel
theorem dX11_hands_89 : decode cX11_hands 89 = .ok (.iload_n 2, 1) := by decide +kernel
theorem dX11_hands_90 : decode cX11_hands 90 = .ok (.iaload, 1) := by decide +kernel
theorem dX11_hands_91 : decode cX11_hands 91 = .ok (.ishl, 1) := by decide +kernel
theorem dX11_hands_92 : decode cX11_hands 92 = .ok (.ior, 1) := by decide +kernel
theorem dX11_hands_93 : decode cX11_hands 93 = .ok (.iastore, 1) := by decide +kernel
theorem dX11_hands_94 : decode cX11_hands 94 = .ok (.aload_n 0, 1) := by decide +kernel
theorem dX11_hands_95 : decode cX11_hands 95 = .ok (.getfield 101, 3) := by decide +kernel
theorem dX11_hands_98 : decode cX11_hands 98 = .ok (.aload_n 0, 1) := by decide +kernel
theorem dX11_hands_99 : decode cX11_hands 99 = .ok (.getfield 89, 3) := by decide +kernel
theorem dX11_hands_102 : decode cX11_hands 102 = .ok (.iload_n 2, 1) := by decide +kernel
theorem dX11_hands_103 : decode cX11_hands 103 = .ok (.iaload, 1) := by decide +kernel
theorem dX11_hands_104 : decode cX11_hands 104 = .ok (.iload_n 3, 1) := by decide +kernel
theorem dX11_hands_105 : decode cX11_hands 105 = .ok (.iastore, 1) := by decide +kernel
theorem dX11_hands_106 : decode cX11_hands 106 = .ok (.iload_n 1, 1) := by decide +kernel
theorem dX11_hands_107 : decode cX11_hands 107 = .ok (.iload_n 3, 1) := by decide +kernel
theorem dX11_hands_108 : decode cX11_hands 108 = .ok (.iconst 1, 1) := by decide +kernel
theorem dX11_hands_109 : decode cX11_hands 109 = .ok (.iadd, 1) := by decide +kernel
theorem dX11_hands_110 : decode cX11_hands 110 = .ok (.invokestatic 279, 3) := by decide +kernel
theorem dX11_hands_113 : decode cX11_hands 113 = .ok (.istore_n 1, 1) := by decide +kernel
theorem dX11_hands_114 : decode cX11_hands 114 = .ok (.iinc 2 1, 3) := by decide +kernel
theorem dX11_hands_117 : decode cX11_hands 117 = .ok (.goto (-75), 3) := by decide +kernel
theorem dX11_hands_120 : decode cX11_hands 120 = .ok (.aload_n 0, 1) := by decide +kernel
theorem dX11_hands_121 : decode cX11_hands 121 = .ok (.iconst 0, 1) := by decide +kernel
theorem dX11_hands_122 : decode cX11_hands 122 = .ok (.putfield 15, 3) := by decide +kernel
theorem dX11_hands_125 : decode cX11_hands 125 = .ok (.iconst 0, 1) := by decide +kernel
theorem dX11_hands_126 : decode cX11_hands 126 = .ok (.istore_n 2, 1) := by decide +kernel
theorem dX11_hands_127 : decode cX11_hands 127 = .ok (.iload_n 2, 1) := by decide +kernel
theorem dX11_hands_128 : decode cX11_hands 128 = .ok (.aload_n 0, 1) := by decide +kernel
theorem dX11_hands_129 : decode cX11_hands 129 = .ok (.getfield 136, 3) := by decide +kernel
theorem dX11_hands_132 : decode cX11_hands 132 = .ok (.if_icmp .ge 20, 3) := by decide +kernel
theorem dX11_hands_135 : decode cX11_hands 135 = .ok (.aload_n 0, 1) := by decide +kernel
theorem dX11_hands_136 : decode cX11_hands 136 = .ok (.aload_n 0, 1) := by decide +kernel
theorem dX11_hands_137 : decode cX11_hands 137 = .ok (.getfield 101, 3) := by decide +kernel
theorem dX11_hands_140 : decode cX11_hands 140 = .ok (.iload_n 2, 1) := by decide +kernel
theorem dX11_hands_141 : decode cX11_hands 141 = .ok (.iaload, 1) := by decide +kernel
theorem dX11_hands_142 : decode cX11_hands 142 = .ok (.i2l, 1) := by decide +kernel
theorem dX11_hands_143 : decode cX11_hands 143 = .ok (.invokevirtual 18, 3) := by decide +kernel
theorem dX11_hands_146 : decode cX11_hands 146 = .ok (.iinc 2 1, 3) := by decide +kernel
theorem dX11_hands_149 : decode cX11_hands 149 = .ok (.goto (-22), 3) := by decide +kernel
theorem dX11_hands_152 : decode cX11_hands 152 = .ok (.iload_n 1, 1) := by decide +kernel
theorem dX11_hands_153 : decode cX11_hands 153 = .ok (.ireturn, 1) := by decide +kernel
theorem s_X11_hands_21 {l1_7 : Int} {q : Int × xW} {k : Int → xW → Option (Int × xW)} (hk : ∀ (l2_14 : Int) (s15 : xW), k l2_14 s15 = some q → xG 6 0 0 mX11_hands 40 [vR 121, vI l1_7, vI l2_14, vX] [] 155 s15 (xRv (vI q.1) q.2)) : ∀ (f : Nat) (l2_8 : Int) (s9 : xW), F_X11_hands_21 l1_7 f l2_8 s9 k = some q → xG 6 0 0 mX11_hands 21 [vR 121, vI l1_7, vI l2_8, vX] [] 155 s9 (xRv (vI q.1) q.2) := by
  intro f
  induction f with
  | zero => intro l2_8 s9 h; cases h
  | succ f ih =>
    intro l2_8 s9 h
    unfold F_X11_hands_21 at h
    refine g_iln dX11_hands_21 rfl rfl ?_
    refine g_bi dX11_hands_22 (by decide) ?_
    refine g_wge dX11_hands_24 (tgt := 40) rfl rfl (xw_id (by decide)) (fun q10 => ?_) (fun q10 => ?_)
    · replace h := xif_f q10 h
      exact hk l2_8 s9 h
    · replace h := xif_t q10 h
      refine g_aln dX11_hands_27 rfl rfl (by decide) ?_
      refine g_getC 144 dX11_hands_28 fl_X11_98 rfl (by decide) ?_
      refine g_iln dX11_hands_31 rfl rfl ?_
      refine g_ic dX11_hands_32 ?_
      obtain ⟨hg11, h⟩ := xgd_e h
      obtain ⟨s12, e13, h⟩ := xlt_e h
      refine h_iast 8 dX11_hands_33 rfl hg11 (by decide) e13 ?_
      refine g_inc_2 dX11_hands_34 (by decide) rfl ?_
      refine g_goto dX11_hands_37 (tgt := 21) rfl ?_
      exact ih (l2_8 + 1) s12 h
theorem s_X11_hands_52 {s25 : xW} {l1_22 l2_23 : Int} {q : Int × xW} {k : Int → Option (Int × xW)} (hk : ∀ (l3_31 : Int), k l3_31 = some q → xG 6 0 0 mX11_hands 77 [vR 121, vI l1_22, vI l2_23, vI l3_31] [] 155 s25 (xRv (vI q.1) q.2)) : ∀ (f : Nat) (l3_24 : Int), F_X11_hands_52 l1_22 l2_23 s25 f l3_24 k = some q → xG 6 0 0 mX11_hands 52 [vR 121, vI l1_22, vI l2_23, vI l3_24] [] 155 s25 (xRv (vI q.1) q.2) := by
  intro f
  induction f with
  | zero => intro l3_24 h; cases h
  | succ f ih =>
    intro l3_24 h
    unfold F_X11_hands_52 at h
    refine g_aln dX11_hands_52 rfl rfl (by decide) ?_
    refine g_aln dX11_hands_53 rfl rfl (by decide) ?_
    refine g_getC 144 dX11_hands_54 fl_X11_98 rfl (by decide) ?_
    refine g_iln dX11_hands_57 rfl rfl ?_
    obtain ⟨hg26, h⟩ := xgd_e h
    refine g_iald 8 dX11_hands_58 rfl hg26 (by decide) ?_
    refine g_aln dX11_hands_59 rfl rfl (by decide) ?_
    refine g_getC 141 dX11_hands_60 fl_X11_89 rfl (by decide) ?_
    refine g_iln dX11_hands_63 rfl rfl ?_
    obtain ⟨hg27, h⟩ := xgd_e h
    refine g_iald 8 dX11_hands_64 rfl hg27 (by decide) ?_
    obtain ⟨r29, e28, h⟩ := xbp_e h
    refine g_cV2v dX11_hands_65 ml_X11_420 rfl (s_X11_isFree e28) (by decide) rfl ?_
    refine g_yne dX11_hands_68 (tgt := 77) rfl rfl (fun q30 => ?_) (fun q30 => ?_)
    · replace h := xif_f q30 h
      exact hk l3_24 h
    · replace h := xif_t q30 h
      refine g_inc_3 dX11_hands_71 (by decide) rfl ?_
      refine g_goto dX11_hands_74 (tgt := 52) rfl ?_
      exact ih (l3_24 + 1) h
theorem s_X11_hands_42 {q : Int × xW} {k : Int → Int → xW → Option (Int × xW)} (hk : ∀ (l1_42 : Int) (l2_43 : Int) (s44 : xW), k l1_42 l2_43 s44 = some q → xG 6 0 0 mX11_hands 120 [vR 121, vI l1_42, vI l2_43, vX] [] 155 s44 (xRv (vI q.1) q.2)) : ∀ (f : Nat) (l1_18 : Int) (l2_19 : Int) (s20 : xW), F_X11_hands_42  f l1_18 l2_19 s20 k = some q → xG 6 0 0 mX11_hands 42 [vR 121, vI l1_18, vI l2_19, vX] [] 155 s20 (xRv (vI q.1) q.2) := by
  intro f
  induction f with
  | zero => intro l1_18 l2_19 s20 h; cases h
  | succ f ih =>
    intro l1_18 l2_19 s20 h
    unfold F_X11_hands_42 at h
    refine g_iln dX11_hands_42 rfl rfl ?_
    refine g_aln dX11_hands_43 rfl rfl (by decide) ?_
    refine g_getI 4 dX11_hands_44 fl_X11_136 rfl rfl ?_
    refine g_wge dX11_hands_47 (tgt := 120) rfl rfl rfl (fun q21 => ?_) (fun q21 => ?_)
    · replace h := xif_f q21 h
      exact hk l1_18 l2_19 s20 h
    · replace h := xif_t q21 h
      refine g_ic dX11_hands_50 ?_
      refine g_istn_3 dX11_hands_51 (by decide) rfl ?_
      refine s_X11_hands_52 (fun l3_32 h => ?_) xN _ h
      refine g_aln dX11_hands_77 rfl rfl (by decide) ?_
      refine g_getC 144 dX11_hands_78 fl_X11_98 rfl (by decide) ?_
      refine g_iln dX11_hands_81 rfl rfl ?_
      refine g_dup2 dX11_hands_82 rfl rfl ?_
      obtain ⟨hg33, h⟩ := xgd_e h
      refine g_iald 8 dX11_hands_83 rfl hg33 (by decide) ?_
      refine g_ic dX11_hands_84 ?_
      refine g_aln dX11_hands_85 rfl rfl (by decide) ?_
      refine g_getC 141 dX11_hands_86 fl_X11_89 rfl (by decide) ?_
      refine g_iln dX11_hands_89 rfl rfl ?_
      obtain ⟨hg34, h⟩ := xgd_e h
      refine g_iald 8 dX11_hands_90 rfl hg34 (by decide) ?_
      refine g_ishl dX11_hands_91 ?_
      refine g_ior dX11_hands_92 ?_
      obtain ⟨hg35, h⟩ := xgd_e h
      obtain ⟨s36, e37, h⟩ := xlt_e h
      refine h_iast 8 dX11_hands_93 rfl hg35 (by decide) e37 ?_
      refine g_aln dX11_hands_94 rfl rfl (by decide) ?_
      refine g_getC 145 dX11_hands_95 fl_X11_101 rfl (by decide) ?_
      refine g_aln dX11_hands_98 rfl rfl (by decide) ?_
      refine g_getC 141 dX11_hands_99 fl_X11_89 rfl (by decide) ?_
      refine g_iln dX11_hands_102 rfl rfl ?_
      obtain ⟨hg38, h⟩ := xgd_e h
      refine g_iald 8 dX11_hands_103 rfl hg38 (by decide) ?_
      refine g_iln dX11_hands_104 rfl rfl ?_
      obtain ⟨hg39, h⟩ := xgd_e h
      obtain ⟨s40, e41, h⟩ := xlt_e h
      refine h_iast 8 dX11_hands_105 rfl hg39 (by decide) e41 ?_
      refine g_iln dX11_hands_106 rfl rfl ?_
      refine g_iln dX11_hands_107 rfl rfl ?_
      refine g_ic dX11_hands_108 ?_
      refine g_iadd dX11_hands_109 ?_
      refine g_wmax dX11_hands_110 mx_X11_279 rfl rfl (by decide) rfl ?_
      refine g_istn_1 dX11_hands_113 (by decide) rfl ?_
      refine g_inc_2 dX11_hands_114 (by decide) rfl ?_
      refine g_goto dX11_hands_117 (tgt := 42) rfl ?_
      refine g_drop_3 ?_
      exact ih (max (xw l1_18) (xw (l3_32 + 1))) (l2_19 + 1) s40 h
theorem s_X11_hands_127 {l1_50 : Int} {q : Int × xW} {k : Int → xW → Option (Int × xW)} (hk : ∀ (l2_57 : Int) (s58 : xW), k l2_57 s58 = some q → xG 6 0 0 mX11_hands 152 [vR 121, vI l1_50, vI l2_57, vX] [] 155 s58 (xRv (vI q.1) q.2)) : ∀ (f : Nat) (l2_51 : Int) (s52 : xW), F_X11_hands_127 l1_50 f l2_51 s52 k = some q → xG 6 0 0 mX11_hands 127 [vR 121, vI l1_50, vI l2_51, vX] [] 155 s52 (xRv (vI q.1) q.2) := by
  intro f
  induction f with
  | zero => intro l2_51 s52 h; cases h
  | succ f ih =>
    intro l2_51 s52 h
    unfold F_X11_hands_127 at h
    refine g_iln dX11_hands_127 rfl rfl ?_
    refine g_aln dX11_hands_128 rfl rfl (by decide) ?_
    refine g_getI 4 dX11_hands_129 fl_X11_136 rfl rfl ?_
    refine g_wge dX11_hands_132 (tgt := 152) rfl rfl rfl (fun q53 => ?_) (fun q53 => ?_)
    · replace h := xif_f q53 h
      exact hk l2_51 s52 h
    · replace h := xif_t q53 h
      refine g_aln dX11_hands_135 rfl rfl (by decide) ?_
      refine g_aln dX11_hands_136 rfl rfl (by decide) ?_
      refine g_getC 145 dX11_hands_137 fl_X11_101 rfl (by decide) ?_
      refine g_iln dX11_hands_140 rfl rfl ?_
      obtain ⟨hg54, h⟩ := xgd_e h
      refine g_iald 8 dX11_hands_141 rfl hg54 (by decide) ?_
      refine g_wi2l dX11_hands_142 rfl ?_
      obtain ⟨s56, e55, h⟩ := xbp_e h
      refine g_cV10 dX11_hands_143 ml_X11_18 rfl (s_X11_enters e55) (by decide) rfl ?_
      refine g_inc_2 dX11_hands_146 (by decide) rfl ?_
      refine g_goto dX11_hands_149 (tgt := 127) rfl ?_
      exact ih (l2_51 + 1) s56 h
theorem s_X11_hands {s0 : xW} {q : Int × xW} (h : F_X11_hands  s0 = some q) : xC 6 0 0 mX11_hands [vR 121] 155 s0 (xRv (vI q.1) q.2) := by
  refine xC.of [vR 121, vX, vX, vX] (by decide +kernel) (Nat.le_of_ble_eq_true rfl) rfl ?_
  unfold F_X11_hands at h
  refine g_aln dX11_hands_0 rfl rfl (by decide) ?_
  refine g_ic dX11_hands_1 ?_
  obtain ⟨s1, e2, h⟩ := xlt_e h
  refine h_putI 0 dX11_hands_2 fl_X11_3 rfl rfl e2 ?_
  refine g_aln dX11_hands_5 rfl rfl (by decide) ?_
  refine g_aln dX11_hands_6 rfl rfl (by decide) ?_
  refine g_getC 127 dX11_hands_7 fl_X11_47 rfl (by decide) ?_
  obtain ⟨s4, e3, h⟩ := xbp_e h
  refine g_cV10 dX11_hands_10 ml_X11_303 rfl (s_X11_laysBegins e3) (by decide) rfl ?_
  refine g_aln dX11_hands_13 rfl rfl (by decide) ?_
  obtain ⟨s6, e5, h⟩ := xbp_e h
  refine g_cV00 dX11_hands_14 ml_X11_394 rfl (s_X11_laysLine e5) (by decide) rfl ?_
  refine g_ic dX11_hands_17 ?_
  refine g_istn_1 dX11_hands_18 (by decide) rfl ?_
  refine g_ic dX11_hands_19 ?_
  refine g_istn_2 dX11_hands_20 (by decide) rfl ?_
  refine s_X11_hands_21 (fun l2_16 s17 h => ?_) xN _ _ h
  refine g_ic dX11_hands_40 ?_
  refine g_istn_2 dX11_hands_41 (by decide) rfl ?_
  refine s_X11_hands_42 (fun l1_45 l2_46 s47 h => ?_) xN _ _ _ h
  refine g_aln dX11_hands_120 rfl rfl (by decide) ?_
  refine g_ic dX11_hands_121 ?_
  obtain ⟨s48, e49, h⟩ := xlt_e h
  refine h_putI 1 dX11_hands_122 fl_X11_15 rfl rfl e49 ?_
  refine g_ic dX11_hands_125 ?_
  refine g_istn_2 dX11_hands_126 (by decide) rfl ?_
  refine s_X11_hands_127 (fun l2_59 s60 h => ?_) xN _ _ h
  refine g_iln dX11_hands_152 rfl rfl ?_
  exact g_rI rfl dX11_hands_153 h
theorem dX11_hauls_0 : decode cX11_hauls 0 = .ok (.aload_n 0, 1) := by decide +kernel
theorem dX11_hauls_1 : decode cX11_hauls 1 = .ok (.iconst 0, 1) := by decide +kernel
theorem dX11_hauls_2 : decode cX11_hauls 2 = .ok (.putfield 3, 3) := by decide +kernel
theorem dX11_hauls_5 : decode cX11_hauls 5 = .ok (.aload_n 0, 1) := by decide +kernel
theorem dX11_hauls_6 : decode cX11_hauls 6 = .ok (.invokevirtual 361, 3) := by decide +kernel
theorem dX11_hauls_9 : decode cX11_hauls 9 = .ok (.aload_n 0, 1) := by decide +kernel
theorem dX11_hauls_10 : decode cX11_hauls 10 = .ok (.aload_n 0, 1) := by decide +kernel
theorem dX11_hauls_11 : decode cX11_hauls 11 = .ok (.getfield 47, 3) := by decide +kernel
theorem dX11_hauls_14 : decode cX11_hauls 14 = .ok (.iload_n 1, 1) := by decide +kernel
theorem dX11_hauls_15 : decode cX11_hauls 15 = .ok (.iload_n 2, 1) := by decide +kernel
theorem dX11_hauls_16 : decode cX11_hauls 16 = .ok (.invokestatic 373, 3) := by decide +kernel
theorem dX11_hauls_19 : decode cX11_hauls 19 = .ok (.invokevirtual 370, 3) := by decide +kernel
theorem dX11_hauls_22 : decode cX11_hauls 22 = .ok (.ireturn, 1) := by decide +kernel
theorem s_X11_hauls {a1 a2 : Int} {s0 : xW} {q : Int × xW} (h : F_X11_hauls a1 a2 s0 = some q) : xC 4 0 0 mX11_hauls [vR 121, vI a1, vI a2] 155 s0 (xRv (vI q.1) q.2) := by
  refine xC.of [vR 121, vI a1, vI a2] (by decide +kernel) (Nat.le_of_ble_eq_true rfl) rfl ?_
  unfold F_X11_hauls at h
  refine g_aln dX11_hauls_0 rfl rfl (by decide) ?_
  refine g_ic dX11_hauls_1 ?_
  obtain ⟨s1, e2, h⟩ := xlt_e h
  refine h_putI 0 dX11_hauls_2 fl_X11_3 rfl rfl e2 ?_
  refine g_aln dX11_hauls_5 rfl rfl (by decide) ?_
  obtain ⟨s4, e3, h⟩ := xbp_e h
  refine g_cV00 dX11_hauls_6 ml_X11_361 rfl (s_X11_putsBy e3) (by decide) rfl ?_
  refine g_aln dX11_hauls_9 rfl rfl (by decide) ?_
  refine g_aln dX11_hauls_10 rfl rfl (by decide) ?_
  refine g_getC 127 dX11_hauls_11 fl_X11_47 rfl (by decide) ?_
  refine g_iln dX11_hauls_14 rfl rfl ?_
  refine g_iln dX11_hauls_15 rfl rfl ?_
  obtain ⟨r6, s7, e5, h⟩ := xbd_e h
  refine g_cS3v dX11_hauls_16 ml_X11_373 (s_X11_haulsTo e5) (by decide) rfl ?_
  obtain ⟨r9, s10, e8, h⟩ := xbd_e h
  refine g_cV1v dX11_hauls_19 ml_X11_370 rfl (s_X11_counted e8) (by decide) rfl ?_
  exact g_rI rfl dX11_hauls_22 h
theorem dX11_heard_0 : decode cX11_heard 0 = .ok (.aload_n 0, 1) := by decide +kernel
theorem dX11_heard_1 : decode cX11_heard 1 = .ok (.iconst 0, 1) := by decide +kernel
theorem dX11_heard_2 : decode cX11_heard 2 = .ok (.putfield 3, 3) := by decide +kernel
theorem dX11_heard_5 : decode cX11_heard 5 = .ok (.aload_n 0, 1) := by decide +kernel
theorem dX11_heard_6 : decode cX11_heard 6 = .ok (.iload_n 1, 1) := by decide +kernel
theorem dX11_heard_7 : decode cX11_heard 7 = .ok (.invokevirtual 315, 3) := by decide +kernel
theorem dX11_heard_10 : decode cX11_heard 10 = .ok (.ifCond .eq 24, 3) := by decide +kernel
theorem dX11_heard_13 : decode cX11_heard 13 = .ok (.iload_n 2, 1) := by decide +kernel
theorem dX11_heard_14 : decode cX11_heard 14 = .ok (.i2l, 1) := by decide +kernel
theorem dX11_heard_15 : decode cX11_heard 15 = .ok (.lconst 0, 1) := by decide +kernel
theorem dX11_heard_16 : decode cX11_heard 16 = .ok (.ldc2_w 423, 3) := by decide +kernel
theorem dX11_heard_19 : decode cX11_heard 19 = .ok (.invokestatic 132, 3) := by decide +kernel
theorem dX11_heard_22 : decode cX11_heard 22 = .ok (.ifCond .eq 12, 3) := by decide +kernel
theorem dX11_heard_25 : decode cX11_heard 25 = .ok (.aload_n 0, 1) := by decide +kernel
theorem dX11_heard_26 : decode cX11_heard 26 = .ok (.getfield 425, 3) := by decide +kernel
theorem dX11_heard_29 : decode cX11_heard 29 = .ok (.bipush 10, 2) := by decide +kernel
theorem dX11_heard_31 : decode cX11_heard 31 = .ok (.if_icmp .ne 5, 3) := by decide +kernel
theorem dX11_heard_34 : decode cX11_heard 34 = .ok (.iconst (-1), 1) := by decide +kernel
theorem dX11_heard_35 : decode cX11_heard 35 = .ok (.ireturn, 1) := by decide +kernel
theorem dX11_heard_36 : decode cX11_heard 36 = .ok (.aload_n 0, 1) := by decide +kernel
theorem dX11_heard_37 : decode cX11_heard 37 = .ok (.getfield 104, 3) := by decide +kernel
theorem dX11_heard_40 : decode cX11_heard 40 = .ok (.aload_n 0, 1) := by decide +kernel
theorem dX11_heard_41 : decode cX11_heard 41 = .ok (.getfield 425, 3) := by decide +kernel
theorem dX11_heard_44 : decode cX11_heard 44 = .ok (.iload_n 1, 1) := by decide +kernel
theorem dX11_heard_45 : decode cX11_heard 45 = .ok (.iastore, 1) := by decide +kernel
theorem dX11_heard_46 : decode cX11_heard 46 = .ok (.aload_n 0, 1) := by decide +kernel
theorem dX11_heard_47 : decode cX11_heard 47 = .ok (.getfield 107, 3) := by decide +kernel
theorem dX11_heard_50 : decode cX11_heard 50 = .ok (.aload_n 0, 1) := by decide +kernel
theorem dX11_heard_51 : decode cX11_heard 51 = .ok (.getfield 425, 3) := by decide +kernel
theorem dX11_heard_54 : decode cX11_heard 54 = .ok (.iload_n 2, 1) := by decide +kernel
theorem dX11_heard_55 : decode cX11_heard 55 = .ok (.iastore, 1) := by decide +kernel
theorem dX11_heard_56 : decode cX11_heard 56 = .ok (.aload_n 0, 1) := by decide +kernel
theorem dX11_heard_57 : decode cX11_heard 57 = .ok (.dup, 1) := by decide +kernel
theorem dX11_heard_58 : decode cX11_heard 58 = .ok (.getfield 425, 3) := by decide +kernel
theorem dX11_heard_61 : decode cX11_heard 61 = .ok (.iconst 1, 1) := by decide +kernel
theorem dX11_heard_62 : decode cX11_heard 62 = .ok (.iadd, 1) := by decide +kernel
theorem dX11_heard_63 : decode cX11_heard 63 = .ok (.putfield 425, 3) := by decide +kernel
theorem dX11_heard_66 : decode cX11_heard 66 = .ok (.aload_n 0, 1) := by decide +kernel
theorem dX11_heard_67 : decode cX11_heard 67 = .ok (.getfield 425, 3) := by decide +kernel
theorem dX11_heard_70 : decode cX11_heard 70 = .ok (.ireturn, 1) := by decide +kernel
theorem s_X11_heard {a1 a2 : Int} {s0 : xW} {q : Int × xW} (h : F_X11_heard a1 a2 s0 = some q) : xC 2 0 0 mX11_heard [vR 121, vI a1, vI a2] 155 s0 (xRv (vI q.1) q.2) := by
  refine xC.of [vR 121, vI a1, vI a2] (by decide +kernel) (Nat.le_of_ble_eq_true rfl) rfl ?_
  unfold F_X11_heard at h
  refine g_aln dX11_heard_0 rfl rfl (by decide) ?_
  refine g_ic dX11_heard_1 ?_
  obtain ⟨s1, e2, h⟩ := xlt_e h
  refine h_putI 0 dX11_heard_2 fl_X11_3 rfl rfl e2 ?_
  refine g_aln dX11_heard_5 rfl rfl (by decide) ?_
  refine g_iln dX11_heard_6 rfl rfl ?_
  obtain ⟨r4, e3, h⟩ := xbp_e h
  refine g_cV1v dX11_heard_7 ml_X11_315 rfl (s_X11_isHouse e3) (by decide) rfl ?_
  obtain ⟨j5, ej6, h⟩ := xjn_e h
  have hj7 : j5  = some q → xG 2 0 0 mX11_heard 34 [vX, vX, vX] [] 155 s1 (xRv (vI q.1) q.2) := by
    intro  h
    rw [ej6] at h
    refine g_ic dX11_heard_34 ?_
    exact g_rI rfl dX11_heard_35 h
  clear ej6
  refine g_yeq dX11_heard_10 (tgt := 34) rfl rfl (fun q8 => ?_) (fun q8 => ?_)
  · replace h := xif_f q8 h
    refine g_drop_0 ?_
    refine g_drop_1 ?_
    refine g_drop_2 ?_
    exact hj7  h
  · replace h := xif_t q8 h
    refine g_iln dX11_heard_13 rfl rfl ?_
    refine g_wi2l dX11_heard_14 rfl ?_
    refine g_lc dX11_heard_15 (w := 0) rfl ?_
    refine g_ldc2 dX11_heard_16 ct_X11_423 (w := 199) rfl ?_
    obtain ⟨r10, e9, h⟩ := xbp_e h
    refine g_cS3v dX11_heard_19 ml_X11_132 (s_X11_in e9) (by decide) rfl ?_
    refine g_yeq dX11_heard_22 (tgt := 34) rfl rfl (fun q11 => ?_) (fun q11 => ?_)
    · replace h := xif_f q11 h
      refine g_drop_0 ?_
      refine g_drop_1 ?_
      refine g_drop_2 ?_
      exact hj7  h
    · replace h := xif_t q11 h
      refine g_aln dX11_heard_25 rfl rfl (by decide) ?_
      refine g_getI 42 dX11_heard_26 fl_X11_425 rfl rfl ?_
      refine g_bi dX11_heard_29 (by decide) ?_
      refine g_wne dX11_heard_31 (tgt := 36) rfl rfl (xw_id (by decide)) (fun q12 => ?_) (fun q12 => ?_)
      · replace h := xif_f q12 h
        refine g_aln dX11_heard_36 rfl rfl (by decide) ?_
        refine g_getC 146 dX11_heard_37 fl_X11_104 rfl (by decide) ?_
        refine g_aln dX11_heard_40 rfl rfl (by decide) ?_
        refine g_getI 42 dX11_heard_41 fl_X11_425 rfl rfl ?_
        refine g_iln dX11_heard_44 rfl rfl ?_
        obtain ⟨hg13, h⟩ := xgd_e h
        obtain ⟨s14, e15, h⟩ := xlt_e h
        refine h_iast 10 dX11_heard_45 rfl hg13 (by decide) e15 ?_
        refine g_aln dX11_heard_46 rfl rfl (by decide) ?_
        refine g_getC 147 dX11_heard_47 fl_X11_107 rfl (by decide) ?_
        refine g_aln dX11_heard_50 rfl rfl (by decide) ?_
        refine g_getI 42 dX11_heard_51 fl_X11_425 rfl rfl ?_
        refine g_iln dX11_heard_54 rfl rfl ?_
        obtain ⟨hg16, h⟩ := xgd_e h
        obtain ⟨s17, e18, h⟩ := xlt_e h
        refine h_iast 10 dX11_heard_55 rfl hg16 (by decide) e18 ?_
        refine g_aln dX11_heard_56 rfl rfl (by decide) ?_
        refine g_dup dX11_heard_57 rfl ?_
        refine g_getI 42 dX11_heard_58 fl_X11_425 rfl rfl ?_
        refine g_ic dX11_heard_61 ?_
        refine g_iadd dX11_heard_62 ?_
        obtain ⟨s19, e20, h⟩ := xlt_e h
        refine h_putI 42 dX11_heard_63 fl_X11_425 rfl rfl e20 ?_
        refine g_aln dX11_heard_66 rfl rfl (by decide) ?_
        refine g_getI 42 dX11_heard_67 fl_X11_425 rfl rfl ?_
        exact g_rI rfl dX11_heard_70 h
      · replace h := xif_t q12 h
        refine g_drop_0 ?_
        refine g_drop_1 ?_
        refine g_drop_2 ?_
        exact hj7  h
theorem dX11_hill_0 : decode cX11_hill 0 = .ok (.aload_n 0, 1) := by decide +kernel
theorem dX11_hill_1 : decode cX11_hill 1 = .ok (.iconst 0, 1) := by decide +kernel
theorem dX11_hill_2 : decode cX11_hill 2 = .ok (.putfield 3, 3) := by decide +kernel
theorem dX11_hill_5 : decode cX11_hill 5 = .ok (.iload_n 1, 1) := by decide +kernel
theorem dX11_hill_6 : decode cX11_hill 6 = .ok (.iload_n 2, 1) := by decide +kernel
theorem dX11_hill_7 : decode cX11_hill 7 = .ok (.invokestatic 351, 3) := by decide +kernel
theorem dX11_hill_10 : decode cX11_hill 10 = .ok (.ifCond .ne 5, 3) := by decide +kernel
theorem dX11_hill_13 : decode cX11_hill 13 = .ok (.iconst (-1), 1) := by decide +kernel
theorem dX11_hill_14 : decode cX11_hill 14 = .ok (.ireturn, 1) := by decide +kernel
theorem dX11_hill_15 : decode cX11_hill 15 = .ok (.aload_n 0, 1) := by decide +kernel
theorem dX11_hill_16 : decode cX11_hill 16 = .ok (.invokevirtual 361, 3) := by decide +kernel
theorem dX11_hill_19 : decode cX11_hill 19 = .ok (.aload_n 0, 1) := by decide +kernel
theorem dX11_hill_20 : decode cX11_hill 20 = .ok (.aload_n 0, 1) := by decide +kernel
theorem dX11_hill_21 : decode cX11_hill 21 = .ok (.getfield 47, 3) := by decide +kernel
theorem dX11_hill_24 : decode cX11_hill 24 = .ok (.bipush 34, 2) := by decide +kernel
theorem dX11_hill_26 : decode cX11_hill 26 = .ok (.bipush 35, 2) := by decide +kernel
theorem dX11_hill_28 : decode cX11_hill 28 = .ok (.iload_n 1, 1) := by decide +kernel
theorem dX11_hill_29 : decode cX11_hill 29 = .ok (.iload_n 2, 1) := by decide +kernel
theorem dX11_hill_30 : decode cX11_hill 30 = .ok (.invokestatic 355, 3) := by decide +kernel
theorem dX11_hill_33 : decode cX11_hill 33 = .ok (.invokevirtual 333, 3) := by decide +kernel
theorem dX11_hill_36 : decode cX11_hill 36 = .ok (.ireturn, 1) := by decide +kernel
theorem s_X11_hill {a1 a2 : Int} {s0 : xW} {q : Int × xW} (h : F_X11_hill a1 a2 s0 = some q) : xC 3 0 0 mX11_hill [vR 121, vI a1, vI a2] 155 s0 (xRv (vI q.1) q.2) := by
  refine xC.of [vR 121, vI a1, vI a2] (by decide +kernel) (Nat.le_of_ble_eq_true rfl) rfl ?_
  unfold F_X11_hill at h
  refine g_aln dX11_hill_0 rfl rfl (by decide) ?_
  refine g_ic dX11_hill_1 ?_
  obtain ⟨s1, e2, h⟩ := xlt_e h
  refine h_putI 0 dX11_hill_2 fl_X11_3 rfl rfl e2 ?_
  refine g_iln dX11_hill_5 rfl rfl ?_
  refine g_iln dX11_hill_6 rfl rfl ?_
  obtain ⟨r4, e3, h⟩ := xbp_e h
  refine g_cS2v dX11_hill_7 ml_X11_351 (s_X11_isPlace e3) (by decide) rfl ?_
  refine g_yne dX11_hill_10 (tgt := 15) rfl rfl (fun q5 => ?_) (fun q5 => ?_)
  · replace h := xif_f q5 h
    refine g_aln dX11_hill_15 rfl rfl (by decide) ?_
    obtain ⟨s7, e6, h⟩ := xbp_e h
    refine g_cV00 dX11_hill_16 ml_X11_361 rfl (s_X11_putsBy e6) (by decide) rfl ?_
    refine g_aln dX11_hill_19 rfl rfl (by decide) ?_
    refine g_aln dX11_hill_20 rfl rfl (by decide) ?_
    refine g_getC 127 dX11_hill_21 fl_X11_47 rfl (by decide) ?_
    refine g_bi dX11_hill_24 (by decide) ?_
    refine g_bi dX11_hill_26 (by decide) ?_
    refine g_iln dX11_hill_28 rfl rfl ?_
    refine g_iln dX11_hill_29 rfl rfl ?_
    obtain ⟨r9, s10, e8, h⟩ := xbd_e h
    refine g_cS5v dX11_hill_30 ml_X11_355 (s_X11_puts e8) (by decide) rfl ?_
    obtain ⟨r12, s13, e11, h⟩ := xbd_e h
    refine g_cV1v dX11_hill_33 ml_X11_333 rfl (s_X11_adds e11) (by decide) rfl ?_
    exact g_rI rfl dX11_hill_36 h
  · replace h := xif_t q5 h
    refine g_ic dX11_hill_13 ?_
    exact g_rI rfl dX11_hill_14 h
theorem dX11_holds_0 : decode cX11_holds 0 = .ok (.aload_n 0, 1) := by decide +kernel
theorem dX11_holds_1 : decode cX11_holds 1 = .ok (.iconst 0, 1) := by decide +kernel
theorem dX11_holds_2 : decode cX11_holds 2 = .ok (.putfield 3, 3) := by decide +kernel
theorem dX11_holds_5 : decode cX11_holds 5 = .ok (.aload_n 0, 1) := by decide +kernel
theorem dX11_holds_6 : decode cX11_holds 6 = .ok (.iload_n 1, 1) := by decide +kernel
theorem dX11_holds_7 : decode cX11_holds 7 = .ok (.invokevirtual 326, 3) := by decide +kernel
theorem dX11_holds_10 : decode cX11_holds 10 = .ok (.ifCond .ne 5, 3) := by decide +kernel
theorem dX11_holds_13 : decode cX11_holds 13 = .ok (.iconst (-1), 1) := by decide +kernel
theorem dX11_holds_14 : decode cX11_holds 14 = .ok (.ireturn, 1) := by decide +kernel
theorem dX11_holds_15 : decode cX11_holds 15 = .ok (.aload_n 0, 1) := by decide +kernel
theorem dX11_holds_16 : decode cX11_holds 16 = .ok (.aload_n 0, 1) := by decide +kernel
theorem dX11_holds_17 : decode cX11_holds 17 = .ok (.getfield 47, 3) := by decide +kernel
theorem dX11_holds_20 : decode cX11_holds 20 = .ok (.invokevirtual 303, 3) := by decide +kernel
theorem dX11_holds_23 : decode cX11_holds 23 = .ok (.iconst 0, 1) := by decide +kernel
theorem dX11_holds_24 : decode cX11_holds 24 = .ok (.istore_n 2, 1) := by decide +kernel
theorem dX11_holds_25 : decode cX11_holds 25 = .ok (.iload_n 2, 1) := by decide +kernel
theorem dX11_holds_26 : decode cX11_holds 26 = .ok (.bipush 9, 2) := by decide +kernel
theorem dX11_holds_28 : decode cX11_holds 28 = .ok (.if_icmp .gt 49, 3) := by decide +kernel
theorem dX11_holds_31 : decode cX11_holds 31 = .ok (.aload_n 0, 1) := by decide +kernel
theorem dX11_holds_32 : decode cX11_holds 32 = .ok (.aload_n 0, 1) := by decide +kernel
theorem dX11_holds_33 : decode cX11_holds 33 = .ok (.getfield 47, 3) := by decide +kernel
theorem dX11_holds_36 : decode cX11_holds 36 = .ok (.iload_n 1, 1) := by decide +kernel
theorem dX11_holds_37 : decode cX11_holds 37 = .ok (.invokevirtual 307, 3) := by decide +kernel
theorem dX11_holds_40 : decode cX11_holds 40 = .ok (.ifCond .ne 21, 3) := by decide +kernel
theorem dX11_holds_43 : decode cX11_holds 43 = .ok (.aload_n 0, 1) := by decide +kernel
theorem dX11_holds_44 : decode cX11_holds 44 = .ok (.iconst 0, 1) := by decide +kernel
theorem dX11_holds_45 : decode cX11_holds 45 = .ok (.putfield 15, 3) := by decide +kernel
theorem dX11_holds_48 : decode cX11_holds 48 = .ok (.aload_n 0, 1) := by decide +kernel
theorem dX11_holds_49 : decode cX11_holds 49 = .ok (.aload_n 0, 1) := by decide +kernel
theorem dX11_holds_50 : decode cX11_holds 50 = .ok (.getfield 71, 3) := by decide +kernel
theorem dX11_holds_53 : decode cX11_holds 53 = .ok (.iload_n 1, 1) := by decide +kernel
theorem dX11_holds_54 : decode cX11_holds 54 = .ok (.iaload, 1) := by decide +kernel
theorem dX11_holds_55 : decode cX11_holds 55 = .ok (.i2l, 1) := by decide +kernel
theorem dX11_holds_56 : decode cX11_holds 56 = .ok (.invokevirtual 18, 3) := by decide +kernel
theorem dX11_holds_59 : decode cX11_holds 59 = .ok (.iload_n 2, 1) := by decide +kernel
theorem dX11_holds_60 : decode cX11_holds 60 = .ok (.ireturn, 1) := by decide +kernel
theorem dX11_holds_61 : decode cX11_holds 61 = .ok (.aload_n 0, 1) := by decide +kernel
theorem dX11_holds_62 : decode cX11_holds 62 = .ok (.getfield 71, 3) := by decide +kernel
theorem dX11_holds_65 : decode cX11_holds 65 = .ok (.iload_n 1, 1) := by decide +kernel
theorem dX11_holds_66 : decode cX11_holds 66 = .ok (.dup2, 1) := by decide +kernel
theorem dX11_holds_67 : decode cX11_holds 67 = .ok (.iaload, 1) := by decide +kernel
theorem dX11_holds_68 : decode cX11_holds 68 = .ok (.iconst 1, 1) := by decide +kernel
theorem dX11_holds_69 : decode cX11_holds 69 = .ok (.iadd, 1) := by decide +kernel
theorem dX11_holds_70 : decode cX11_holds 70 = .ok (.iastore, 1) := by decide +kernel
theorem dX11_holds_71 : decode cX11_holds 71 = .ok (.iinc 2 1, 3) := by decide +kernel
theorem dX11_holds_74 : decode cX11_holds 74 = .ok (.goto (-49), 3) := by decide +kernel
theorem dX11_holds_77 : decode cX11_holds 77 = .ok (.bipush (-2), 2) := by decide +kernel
theorem dX11_holds_79 : decode cX11_holds 79 = .ok (.ireturn, 1) := by decide +kernel
theorem s_X11_holds_25 {l1_8 : Int} {q : Int × xW} {k : Int → xW → Option (Int × xW)} (hk : ∀ (l2_24 : Int) (s25 : xW), k l2_24 s25 = some q → xG 6 0 0 mX11_holds 77 [vR 121, vI l1_8, vI l2_24] [] 155 s25 (xRv (vI q.1) q.2)) : ∀ (f : Nat) (l2_9 : Int) (s10 : xW), F_X11_holds_25 l1_8 f l2_9 s10 k = some q → xG 6 0 0 mX11_holds 25 [vR 121, vI l1_8, vI l2_9] [] 155 s10 (xRv (vI q.1) q.2) := by
  intro f
  induction f with
  | zero => intro l2_9 s10 h; cases h
  | succ f ih =>
    intro l2_9 s10 h
    unfold F_X11_holds_25 at h
    refine g_iln dX11_holds_25 rfl rfl ?_
    refine g_bi dX11_holds_26 (by decide) ?_
    refine g_wgt dX11_holds_28 (tgt := 77) rfl rfl (xw_id (by decide)) (fun q11 => ?_) (fun q11 => ?_)
    · replace h := xif_f q11 h
      exact hk l2_9 s10 h
    · replace h := xif_t q11 h
      refine g_aln dX11_holds_31 rfl rfl (by decide) ?_
      refine g_aln dX11_holds_32 rfl rfl (by decide) ?_
      refine g_getC 127 dX11_holds_33 fl_X11_47 rfl (by decide) ?_
      refine g_iln dX11_holds_36 rfl rfl ?_
      obtain ⟨r13, e12, h⟩ := xbp_e h
      refine g_cV2v dX11_holds_37 ml_X11_307 rfl (s_X11_clashing e12) (by decide) rfl ?_
      refine g_yne dX11_holds_40 (tgt := 61) rfl rfl (fun q14 => ?_) (fun q14 => ?_)
      · replace h := xif_f q14 h
        refine g_aln dX11_holds_61 rfl rfl (by decide) ?_
        refine g_getC 135 dX11_holds_62 fl_X11_71 rfl (by decide) ?_
        refine g_iln dX11_holds_65 rfl rfl ?_
        refine g_dup2 dX11_holds_66 rfl rfl ?_
        obtain ⟨hg15, h⟩ := xgd_e h
        refine g_iald 8 dX11_holds_67 rfl hg15 (by decide) ?_
        refine g_ic dX11_holds_68 ?_
        refine g_iadd dX11_holds_69 ?_
        obtain ⟨hg16, h⟩ := xgd_e h
        obtain ⟨s17, e18, h⟩ := xlt_e h
        refine h_iast 8 dX11_holds_70 rfl hg16 (by decide) e18 ?_
        refine g_inc_2 dX11_holds_71 (by decide) rfl ?_
        refine g_goto dX11_holds_74 (tgt := 25) rfl ?_
        exact ih (l2_9 + 1) s17 h
      · replace h := xif_t q14 h
        refine g_aln dX11_holds_43 rfl rfl (by decide) ?_
        refine g_ic dX11_holds_44 ?_
        obtain ⟨s19, e20, h⟩ := xlt_e h
        refine h_putI 1 dX11_holds_45 fl_X11_15 rfl rfl e20 ?_
        refine g_aln dX11_holds_48 rfl rfl (by decide) ?_
        refine g_aln dX11_holds_49 rfl rfl (by decide) ?_
        refine g_getC 135 dX11_holds_50 fl_X11_71 rfl (by decide) ?_
        refine g_iln dX11_holds_53 rfl rfl ?_
        obtain ⟨hg21, h⟩ := xgd_e h
        refine g_iald 8 dX11_holds_54 rfl hg21 (by decide) ?_
        refine g_wi2l dX11_holds_55 rfl ?_
        obtain ⟨s23, e22, h⟩ := xbp_e h
        refine g_cV10 dX11_holds_56 ml_X11_18 rfl (s_X11_enters e22) (by decide) rfl ?_
        refine g_iln dX11_holds_59 rfl rfl ?_
        exact g_rI rfl dX11_holds_60 h
theorem s_X11_holds {a1 : Int} {s0 : xW} {q : Int × xW} (h : F_X11_holds a1 s0 = some q) : xC 6 0 0 mX11_holds [vR 121, vI a1] 155 s0 (xRv (vI q.1) q.2) := by
  refine xC.of [vR 121, vI a1, vX] (by decide +kernel) (Nat.le_of_ble_eq_true rfl) rfl ?_
  unfold F_X11_holds at h
  refine g_aln dX11_holds_0 rfl rfl (by decide) ?_
  refine g_ic dX11_holds_1 ?_
  obtain ⟨s1, e2, h⟩ := xlt_e h
  refine h_putI 0 dX11_holds_2 fl_X11_3 rfl rfl e2 ?_
  refine g_aln dX11_holds_5 rfl rfl (by decide) ?_
  refine g_iln dX11_holds_6 rfl rfl ?_
  obtain ⟨r4, e3, h⟩ := xbp_e h
  refine g_cV1v dX11_holds_7 ml_X11_326 rfl (s_X11_isDeed e3) (by decide) rfl ?_
  refine g_yne dX11_holds_10 (tgt := 15) rfl rfl (fun q5 => ?_) (fun q5 => ?_)
  · replace h := xif_f q5 h
    refine g_aln dX11_holds_15 rfl rfl (by decide) ?_
    refine g_aln dX11_holds_16 rfl rfl (by decide) ?_
    refine g_getC 127 dX11_holds_17 fl_X11_47 rfl (by decide) ?_
    obtain ⟨s7, e6, h⟩ := xbp_e h
    refine g_cV10 dX11_holds_20 ml_X11_303 rfl (s_X11_laysBegins e6) (by decide) rfl ?_
    refine g_ic dX11_holds_23 ?_
    refine g_istn_2 dX11_holds_24 (by decide) rfl ?_
    refine s_X11_holds_25 (fun l2_26 s27 h => ?_) xN _ _ h
    refine g_bi dX11_holds_77 (by decide) ?_
    exact g_rI rfl dX11_holds_79 h
  · replace h := xif_t q5 h
    refine g_ic dX11_holds_13 ?_
    exact g_rI rfl dX11_holds_14 h
theorem dX11_house_0 : decode cX11_house 0 = .ok (.aload_n 0, 1) := by decide +kernel
theorem dX11_house_1 : decode cX11_house 1 = .ok (.iconst 0, 1) := by decide +kernel
theorem dX11_house_2 : decode cX11_house 2 = .ok (.putfield 3, 3) := by decide +kernel
theorem dX11_house_5 : decode cX11_house 5 = .ok (.aload_n 0, 1) := by decide +kernel
theorem dX11_house_6 : decode cX11_house 6 = .ok (.iload_n 1, 1) := by decide +kernel
theorem dX11_house_7 : decode cX11_house 7 = .ok (.invokevirtual 315, 3) := by decide +kernel
theorem dX11_house_10 : decode cX11_house 10 = .ok (.ifCond .eq 15, 3) := by decide +kernel
theorem dX11_house_13 : decode cX11_house 13 = .ok (.iload_n 2, 1) := by decide +kernel
theorem dX11_house_14 : decode cX11_house 14 = .ok (.i2l, 1) := by decide +kernel
theorem dX11_house_15 : decode cX11_house 15 = .ok (.lconst 0, 1) := by decide +kernel
theorem dX11_house_16 : decode cX11_house 16 = .ok (.ldc2_w 318, 3) := by decide +kernel
theorem dX11_house_19 : decode cX11_house 19 = .ok (.invokestatic 132, 3) := by decide +kernel
theorem dX11_house_22 : decode cX11_house 22 = .ok (.ifCond .ne 8, 3) := by decide +kernel
theorem dX11_house_25 : decode cX11_house 25 = .ok (.aload_n 0, 1) := by decide +kernel
theorem dX11_house_26 : decode cX11_house 26 = .ok (.invokevirtual 320, 3) := by decide +kernel
theorem dX11_house_29 : decode cX11_house 29 = .ok (.ireturn, 1) := by decide +kernel
theorem dX11_house_30 : decode cX11_house 30 = .ok (.iconst 0, 1) := by decide +kernel
theorem dX11_house_31 : decode cX11_house 31 = .ok (.istore_n 3, 1) := by decide +kernel
theorem dX11_house_32 : decode cX11_house 32 = .ok (.iconst 0, 1) := by decide +kernel
theorem dX11_house_33 : decode cX11_house 33 = .ok (.istore 4, 2) := by decide +kernel
theorem dX11_house_35 : decode cX11_house 35 = .ok (.iload 4, 2) := by decide +kernel
theorem dX11_house_37 : decode cX11_house 37 = .ok (.aload_n 0, 1) := by decide +kernel
theorem dX11_house_38 : decode cX11_house 38 = .ok (.getfield 136, 3) := by decide +kernel
theorem dX11_house_41 : decode cX11_house 41 = .ok (.if_icmp .ge 31, 3) := by decide +kernel
theorem dX11_house_44 : decode cX11_house 44 = .ok (.iload_n 3, 1) := by decide +kernel
theorem dX11_house_45 : decode cX11_house 45 = .ok (.aload_n 0, 1) := by decide +kernel
theorem dX11_house_46 : decode cX11_house 46 = .ok (.getfield 41, 3) := by decide +kernel
theorem dX11_house_49 : decode cX11_house 49 = .ok (.iload 4, 2) := by decide +kernel
theorem dX11_house_51 : decode cX11_house 51 = .ok (.iaload, 1) := by decide +kernel
theorem dX11_house_52 : decode cX11_house 52 = .ok (.iload_n 1, 1) := by decide +kernel
theorem dX11_house_53 : decode cX11_house 53 = .ok (.if_icmp .ne 10, 3) := by decide +kernel
theorem dX11_house_56 : decode cX11_house 56 = .ok (.iconst 1, 1) := by decide +kernel
theorem dX11_house_57 : decode cX11_house 57 = .ok (.iload 4, 2) := by decide +kernel
theorem dX11_house_59 : decode cX11_house 59 = .ok (.ishl, 1) := by decide +kernel
theorem dX11_house_60 : decode cX11_house 60 = .ok (.goto 4, 3) := by decide +kernel
theorem dX11_house_63 : decode cX11_house 63 = .ok (.iconst 0, 1) := by decide +kernel
theorem dX11_house_64 : decode cX11_house 64 = .ok (.ior, 1) := by decide +kernel
theorem dX11_house_65 : decode cX11_house 65 = .ok (.istore_n 3, 1) := by decide +kernel
theorem dX11_house_66 : decode cX11_house 66 = .ok (.iinc 4 1, 3) := by decide +kernel
theorem dX11_house_69 : decode cX11_house 69 = .ok (.goto (-34), 3) := by decide +kernel
theorem dX11_house_72 : decode cX11_house 72 = .ok (.iload_n 2, 1) := by decide +kernel
theorem dX11_house_73 : decode cX11_house 73 = .ok (.tableswitch 82 0 4 #[35, 42, 52, 62, 72], 35) := by decide +kernel
theorem dX11_house_108 : decode cX11_house 108 = .ok (.aload_n 0, 1) := by decide +kernel
theorem dX11_house_109 : decode cX11_house 109 = .ok (.getfield 47, 3) := by decide +kernel
theorem dX11_house_112 : decode cX11_house 112 = .ok (.iload_n 1, 1) := by decide +kernel
theorem dX11_house_113 : decode cX11_house 113 = .ok (.iaload, 1) := by decide +kernel
theorem dX11_house_114 : decode cX11_house 114 = .ok (.ireturn, 1) := by decide +kernel
theorem dX11_house_115 : decode cX11_house 115 = .ok (.aload_n 0, 1) := by decide +kernel
theorem dX11_house_116 : decode cX11_house 116 = .ok (.getfield 47, 3) := by decide +kernel
theorem dX11_house_119 : decode cX11_house 119 = .ok (.bipush 8, 2) := by decide +kernel
theorem dX11_house_121 : decode cX11_house 121 = .ok (.iload_n 1, 1) := by decide +kernel
theorem dX11_house_122 : decode cX11_house 122 = .ok (.iadd, 1) := by decide +kernel
theorem dX11_house_123 : decode cX11_house 123 = .ok (.iaload, 1) := by decide +kernel
theorem dX11_house_124 : decode cX11_house 124 = .ok (.ireturn, 1) := by decide +kernel
theorem dX11_house_125 : decode cX11_house 125 = .ok (.aload_n 0, 1) := by decide +kernel
theorem dX11_house_126 : decode cX11_house 126 = .ok (.getfield 47, 3) := by decide +kernel
theorem dX11_house_129 : decode cX11_house 129 = .ok (.bipush 16, 2) := by decide +kernel
theorem dX11_house_131 : decode cX11_house 131 = .ok (.iload_n 1, 1) := by decide +kernel
theorem dX11_house_132 : decode cX11_house 132 = .ok (.iadd, 1) := by decide +kernel
theorem dX11_house_133 : decode cX11_house 133 = .ok (.iaload, 1) := by decide +kernel
theorem dX11_house_134 : decode cX11_house 134 = .ok (.ireturn, 1) := by decide +kernel
theorem dX11_house_135 : decode cX11_house 135 = .ok (.aload_n 0, 1) := by decide +kernel
theorem dX11_house_136 : decode cX11_house 136 = .ok (.aload_n 0, 1) := by decide +kernel
theorem dX11_house_137 : decode cX11_house 137 = .ok (.getfield 47, 3) := by decide +kernel
theorem dX11_house_140 : decode cX11_house 140 = .ok (.iload_n 1, 1) := by decide +kernel
theorem dX11_house_141 : decode cX11_house 141 = .ok (.invokevirtual 292, 3) := by decide +kernel
theorem dX11_house_144 : decode cX11_house 144 = .ok (.ireturn, 1) := by decide +kernel
theorem dX11_house_145 : decode cX11_house 145 = .ok (.aload_n 0, 1) := by decide +kernel
theorem dX11_house_146 : decode cX11_house 146 = .ok (.aload_n 0, 1) := by decide +kernel
theorem dX11_house_147 : decode cX11_house 147 = .ok (.getfield 47, 3) := by decide +kernel
theorem dX11_house_150 : decode cX11_house 150 = .ok (.iload_n 1, 1) := by decide +kernel
theorem dX11_house_151 : decode cX11_house 151 = .ok (.invokevirtual 323, 3) := by decide +kernel
theorem dX11_house_154 : decode cX11_house 154 = .ok (.ireturn, 1) := by decide +kernel
theorem dX11_house_155 : decode cX11_house 155 = .ok (.iload_n 3, 1) := by decide +kernel
theorem dX11_house_156 : decode cX11_house 156 = .ok (.ireturn, 1) := by decide +kernel
theorem s_X11_house_35 {s19 : xW} {l1_15 l2_16 : Int} {q : Int × xW} {k : Int → Int → Option (Int × xW)} (hk : ∀ (l3_26 : Int) (l4_27 : Int), k l3_26 l4_27 = some q → xG 5 0 0 mX11_house 72 [vR 121, vI l1_15, vI l2_16, vI l3_26, vI l4_27] [] 155 s19 (xRv (vI q.1) q.2)) : ∀ (f : Nat) (l3_17 : Int) (l4_18 : Int), F_X11_house_35 l1_15 l2_16 s19 f l3_17 l4_18 k = some q → xG 5 0 0 mX11_house 35 [vR 121, vI l1_15, vI l2_16, vI l3_17, vI l4_18] [] 155 s19 (xRv (vI q.1) q.2) := by
  intro f
  induction f with
  | zero => intro l3_17 l4_18 h; cases h
  | succ f ih =>
    intro l3_17 l4_18 h
    unfold F_X11_house_35 at h
    refine g_il dX11_house_35 rfl ?_
    refine g_aln dX11_house_37 rfl rfl (by decide) ?_
    refine g_getI 4 dX11_house_38 fl_X11_136 rfl rfl ?_
    refine g_wge dX11_house_41 (tgt := 72) rfl rfl rfl (fun q20 => ?_) (fun q20 => ?_)
    · replace h := xif_f q20 h
      exact hk l3_17 l4_18 h
    · replace h := xif_t q20 h
      refine g_iln dX11_house_44 rfl rfl ?_
      refine g_aln dX11_house_45 rfl rfl (by decide) ?_
      refine g_getC 125 dX11_house_46 fl_X11_41 rfl (by decide) ?_
      refine g_il dX11_house_49 rfl ?_
      obtain ⟨hg21, h⟩ := xgd_e h
      refine g_iald 8 dX11_house_51 rfl hg21 (by decide) ?_
      refine g_iln dX11_house_52 rfl rfl ?_
      obtain ⟨v23, e24, h⟩ := xlt_e h
      have hj25 : xG 5 0 0 mX11_house 64 [vR 121, vI l1_15, vI l2_16, vX, vI l4_18] [vI v23, vI l3_17] 155 s19 (xRv (vI q.1) q.2) := by
        refine g_ior dX11_house_64 ?_
        refine g_istn_3 dX11_house_65 (by decide) rfl ?_
        refine g_inc_4 dX11_house_66 (by decide) rfl ?_
        refine g_goto dX11_house_69 (tgt := 35) rfl ?_
        exact ih (xor' l3_17 v23) (l4_18 + 1) h
      refine g_wne dX11_house_53 (tgt := 63) rfl rfl rfl (fun c22 => ?_) (fun c22 => ?_)
      · skip
        refine g_ic dX11_house_63 ?_
        refine g_drop_3 ?_
        exact g_vq ((if_neg c22).symm.trans e24) hj25
      · skip
        refine g_ic dX11_house_56 ?_
        refine g_il dX11_house_57 rfl ?_
        refine g_ishl dX11_house_59 ?_
        refine g_goto dX11_house_60 (tgt := 64) rfl ?_
        refine g_drop_3 ?_
        exact g_vq ((if_pos c22).symm.trans e24) hj25
theorem s_X11_house {a1 a2 : Int} {s0 : xW} {q : Int × xW} (h : F_X11_house a1 a2 s0 = some q) : xC 5 0 0 mX11_house [vR 121, vI a1, vI a2] 155 s0 (xRv (vI q.1) q.2) := by
  refine xC.of [vR 121, vI a1, vI a2, vX, vX] (by decide +kernel) (Nat.le_of_ble_eq_true rfl) rfl ?_
  unfold F_X11_house at h
  refine g_aln dX11_house_0 rfl rfl (by decide) ?_
  refine g_ic dX11_house_1 ?_
  obtain ⟨s1, e2, h⟩ := xlt_e h
  refine h_putI 0 dX11_house_2 fl_X11_3 rfl rfl e2 ?_
  refine g_aln dX11_house_5 rfl rfl (by decide) ?_
  refine g_iln dX11_house_6 rfl rfl ?_
  obtain ⟨r4, e3, h⟩ := xbp_e h
  refine g_cV1v dX11_house_7 ml_X11_315 rfl (s_X11_isHouse e3) (by decide) rfl ?_
  obtain ⟨j5, ej6, h⟩ := xjn_e h
  have hj7 : j5  = some q → xG 5 0 0 mX11_house 25 [vR 121, vX, vX, vX, vX] [] 155 s1 (xRv (vI q.1) q.2) := by
    intro  h
    rw [ej6] at h
    refine g_aln dX11_house_25 rfl rfl (by decide) ?_
    obtain ⟨r9, s10, e8, h⟩ := xbd_e h
    refine g_cV0v dX11_house_26 ml_X11_320 rfl (s_X11_refuse e8) (by decide) rfl ?_
    exact g_rI rfl dX11_house_29 h
  clear ej6
  refine g_yeq dX11_house_10 (tgt := 25) rfl rfl (fun q11 => ?_) (fun q11 => ?_)
  · replace h := xif_f q11 h
    refine g_drop_1 ?_
    refine g_drop_2 ?_
    exact hj7  h
  · replace h := xif_t q11 h
    refine g_iln dX11_house_13 rfl rfl ?_
    refine g_wi2l dX11_house_14 rfl ?_
    refine g_lc dX11_house_15 (w := 0) rfl ?_
    refine g_ldc2 dX11_house_16 ct_X11_318 (w := 5) rfl ?_
    obtain ⟨r13, e12, h⟩ := xbp_e h
    refine g_cS3v dX11_house_19 ml_X11_132 (s_X11_in e12) (by decide) rfl ?_
    refine g_yne dX11_house_22 (tgt := 30) rfl rfl (fun q14 => ?_) (fun q14 => ?_)
    · replace h := xif_f q14 h
      refine g_ic dX11_house_30 ?_
      refine g_istn_3 dX11_house_31 (by decide) rfl ?_
      refine g_ic dX11_house_32 ?_
      refine g_ist_4 dX11_house_33 (by decide) rfl ?_
      refine s_X11_house_35 (fun l3_28 l4_29 h => ?_) xN _ _ h
      refine g_iln dX11_house_72 rfl rfl ?_
      by_cases q30 : (xw a2) = 0
      · replace h := xif_t q30 h
        refine g_wtK dX11_house_73 q30 (by decide) (off := 35) rfl (tgt := 108) rfl ?_
        refine g_aln dX11_house_108 rfl rfl (by decide) ?_
        refine g_getC 127 dX11_house_109 fl_X11_47 rfl (by decide) ?_
        refine g_iln dX11_house_112 rfl rfl ?_
        obtain ⟨hg31, h⟩ := xgd_e h
        refine g_iald 40 dX11_house_113 rfl hg31 (by decide) ?_
        exact g_rI rfl dX11_house_114 h
      replace h := xif_f q30 h
      by_cases q32 : (xw a2) = 1
      · replace h := xif_t q32 h
        refine g_wtK dX11_house_73 q32 (by decide) (off := 42) rfl (tgt := 115) rfl ?_
        refine g_aln dX11_house_115 rfl rfl (by decide) ?_
        refine g_getC 127 dX11_house_116 fl_X11_47 rfl (by decide) ?_
        refine g_bi dX11_house_119 (by decide) ?_
        refine g_iln dX11_house_121 rfl rfl ?_
        refine g_iadd dX11_house_122 ?_
        obtain ⟨hg33, h⟩ := xgd_e h
        refine g_iald 40 dX11_house_123 rfl hg33 (by decide) ?_
        exact g_rI rfl dX11_house_124 h
      replace h := xif_f q32 h
      by_cases q34 : (xw a2) = 2
      · replace h := xif_t q34 h
        refine g_wtK dX11_house_73 q34 (by decide) (off := 52) rfl (tgt := 125) rfl ?_
        refine g_aln dX11_house_125 rfl rfl (by decide) ?_
        refine g_getC 127 dX11_house_126 fl_X11_47 rfl (by decide) ?_
        refine g_bi dX11_house_129 (by decide) ?_
        refine g_iln dX11_house_131 rfl rfl ?_
        refine g_iadd dX11_house_132 ?_
        obtain ⟨hg35, h⟩ := xgd_e h
        refine g_iald 40 dX11_house_133 rfl hg35 (by decide) ?_
        exact g_rI rfl dX11_house_134 h
      replace h := xif_f q34 h
      by_cases q36 : (xw a2) = 3
      · replace h := xif_t q36 h
        refine g_wtK dX11_house_73 q36 (by decide) (off := 62) rfl (tgt := 135) rfl ?_
        refine g_aln dX11_house_135 rfl rfl (by decide) ?_
        refine g_aln dX11_house_136 rfl rfl (by decide) ?_
        refine g_getC 127 dX11_house_137 fl_X11_47 rfl (by decide) ?_
        refine g_iln dX11_house_140 rfl rfl ?_
        obtain ⟨r38, s39, e37, h⟩ := xbd_e h
        refine g_cV2v dX11_house_141 ml_X11_292 rfl (s_X11_hears e37) (by decide) rfl ?_
        exact g_rI rfl dX11_house_144 h
      replace h := xif_f q36 h
      by_cases q40 : (xw a2) = 4
      · replace h := xif_t q40 h
        refine g_wtK dX11_house_73 q40 (by decide) (off := 72) rfl (tgt := 145) rfl ?_
        refine g_aln dX11_house_145 rfl rfl (by decide) ?_
        refine g_aln dX11_house_146 rfl rfl (by decide) ?_
        refine g_getC 127 dX11_house_147 fl_X11_47 rfl (by decide) ?_
        refine g_iln dX11_house_150 rfl rfl ?_
        obtain ⟨r42, s43, e41, h⟩ := xbd_e h
        refine g_cV2v dX11_house_151 ml_X11_323 rfl (s_X11_echoes e41) (by decide) rfl ?_
        exact g_rI rfl dX11_house_154 h
      replace h := xif_f q40 h
      refine g_wtO dX11_house_73 rfl (by omega) (tgt := 155) rfl ?_
      refine g_iln dX11_house_155 rfl rfl ?_
      exact g_rI rfl dX11_house_156 h
    · replace h := xif_t q14 h
      refine g_drop_1 ?_
      refine g_drop_2 ?_
      exact hj7  h
