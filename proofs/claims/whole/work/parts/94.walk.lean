theorem dX11_buysSome_0 : decode cX11_buysSome 0 = .ok (.iload_n 1, 1) := by decide +kernel
theorem dX11_buysSome_1 : decode cX11_buysSome 1 = .ok (.i2l, 1) := by decide +kernel
theorem dX11_buysSome_2 : decode cX11_buysSome 2 = .ok (.lconst 1, 1) := by decide +kernel
theorem dX11_buysSome_3 : decode cX11_buysSome 3 = .ok (.ldc2_w 349, 3) := by decide +kernel
theorem dX11_buysSome_6 : decode cX11_buysSome 6 = .ok (.invokestatic 132, 3) := by decide +kernel
theorem dX11_buysSome_9 : decode cX11_buysSome 9 = .ok (.ifCond .ne 5, 3) := by decide +kernel
theorem dX11_buysSome_12 : decode cX11_buysSome 12 = .ok (.iconst (-1), 1) := by decide +kernel
theorem dX11_buysSome_13 : decode cX11_buysSome 13 = .ok (.ireturn, 1) := by decide +kernel
theorem dX11_buysSome_14 : decode cX11_buysSome 14 = .ok (.aload_n 0, 1) := by decide +kernel
theorem dX11_buysSome_15 : decode cX11_buysSome 15 = .ok (.getfield 47, 3) := by decide +kernel
theorem dX11_buysSome_18 : decode cX11_buysSome 18 = .ok (.bipush 36, 2) := by decide +kernel
theorem dX11_buysSome_20 : decode cX11_buysSome 20 = .ok (.iaload, 1) := by decide +kernel
theorem dX11_buysSome_21 : decode cX11_buysSome 21 = .ok (.iload_n 1, 1) := by decide +kernel
theorem dX11_buysSome_22 : decode cX11_buysSome 22 = .ok (.iadd, 1) := by decide +kernel
theorem dX11_buysSome_23 : decode cX11_buysSome 23 = .ok (.bipush 99, 2) := by decide +kernel
theorem dX11_buysSome_25 : decode cX11_buysSome 25 = .ok (.if_icmp .le 6, 3) := by decide +kernel
theorem dX11_buysSome_28 : decode cX11_buysSome 28 = .ok (.bipush (-3), 2) := by decide +kernel
theorem dX11_buysSome_30 : decode cX11_buysSome 30 = .ok (.ireturn, 1) := by decide +kernel
theorem dX11_buysSome_31 : decode cX11_buysSome 31 = .ok (.aload_n 0, 1) := by decide +kernel
theorem dX11_buysSome_32 : decode cX11_buysSome 32 = .ok (.getfield 47, 3) := by decide +kernel
theorem dX11_buysSome_35 : decode cX11_buysSome 35 = .ok (.bipush 36, 2) := by decide +kernel
theorem dX11_buysSome_37 : decode cX11_buysSome 37 = .ok (.dup2, 1) := by decide +kernel
theorem dX11_buysSome_38 : decode cX11_buysSome 38 = .ok (.iaload, 1) := by decide +kernel
theorem dX11_buysSome_39 : decode cX11_buysSome 39 = .ok (.iload_n 1, 1) := by decide +kernel
theorem dX11_buysSome_40 : decode cX11_buysSome 40 = .ok (.iadd, 1) := by decide +kernel
theorem dX11_buysSome_41 : decode cX11_buysSome 41 = .ok (.iastore, 1) := by decide +kernel
theorem dX11_buysSome_42 : decode cX11_buysSome 42 = .ok (.aload_n 0, 1) := by decide +kernel
theorem dX11_buysSome_43 : decode cX11_buysSome 43 = .ok (.getfield 47, 3) := by decide +kernel
theorem dX11_buysSome_46 : decode cX11_buysSome 46 = .ok (.bipush 36, 2) := by decide +kernel
theorem dX11_buysSome_48 : decode cX11_buysSome 48 = .ok (.iaload, 1) := by decide +kernel
theorem dX11_buysSome_49 : decode cX11_buysSome 49 = .ok (.ireturn, 1) := by decide +kernel
theorem s_X11_buysSome {a1 : Int} {s0 : xW} {q : Int × xW} (h : F_X11_buysSome a1 s0 = some q) : xC 1 0 0 mX11_buysSome [vR 121, vI a1] 155 s0 (xRv (vI q.1) q.2) := by
  refine xC.of [vR 121, vI a1] (by decide +kernel) (Nat.le_of_ble_eq_true rfl) rfl ?_
  unfold F_X11_buysSome at h
  refine g_iln dX11_buysSome_0 rfl rfl ?_
  refine g_wi2l dX11_buysSome_1 rfl ?_
  refine g_lc dX11_buysSome_2 (w := 1) rfl ?_
  refine g_ldc2 dX11_buysSome_3 ct_X11_349 (w := 99) rfl ?_
  obtain ⟨r2, e1, h⟩ := xbp_e h
  refine g_cS3v dX11_buysSome_6 ml_X11_132 (s_X11_in e1) (by decide) rfl ?_
  refine g_yne dX11_buysSome_9 (tgt := 14) rfl rfl (fun q3 => ?_) (fun q3 => ?_)
  · replace h := xif_f q3 h
    refine g_aln dX11_buysSome_14 rfl rfl (by decide) ?_
    refine g_getC 127 dX11_buysSome_15 fl_X11_47 rfl (by decide) ?_
    refine g_bi dX11_buysSome_18 (by decide) ?_
    refine g_iald 40 dX11_buysSome_20 rfl (by decide) (by decide) ?_
    refine g_iln dX11_buysSome_21 rfl rfl ?_
    refine g_iadd dX11_buysSome_22 ?_
    refine g_bi dX11_buysSome_23 (by decide) ?_
    refine g_wle dX11_buysSome_25 (tgt := 31) rfl rfl (xw_id (by decide)) (fun q4 => ?_) (fun q4 => ?_)
    · replace h := xif_f q4 h
      refine g_aln dX11_buysSome_31 rfl rfl (by decide) ?_
      refine g_getC 127 dX11_buysSome_32 fl_X11_47 rfl (by decide) ?_
      refine g_bi dX11_buysSome_35 (by decide) ?_
      refine g_dup2 dX11_buysSome_37 rfl rfl ?_
      refine g_iald 40 dX11_buysSome_38 rfl (by decide) (by decide) ?_
      refine g_iln dX11_buysSome_39 rfl rfl ?_
      refine g_iadd dX11_buysSome_40 ?_
      obtain ⟨s5, e6, h⟩ := xlt_e h
      refine h_iast 40 dX11_buysSome_41 rfl (by decide) (by decide) e6 ?_
      refine g_aln dX11_buysSome_42 rfl rfl (by decide) ?_
      refine g_getC 127 dX11_buysSome_43 fl_X11_47 rfl (by decide) ?_
      refine g_bi dX11_buysSome_46 (by decide) ?_
      refine g_iald 40 dX11_buysSome_48 rfl (by decide) (by decide) ?_
      exact g_rI rfl dX11_buysSome_49 h
    · replace h := xif_t q4 h
      refine g_bi dX11_buysSome_28 (by decide) ?_
      exact g_rI rfl dX11_buysSome_30 h
  · replace h := xif_t q3 h
    refine g_ic dX11_buysSome_12 ?_
    exact g_rI rfl dX11_buysSome_13 h
theorem dX11_counted_0 : decode cX11_counted 0 = .ok (.iload_n 1, 1) := by decide +kernel
theorem dX11_counted_1 : decode cX11_counted 1 = .ok (.ifCond .ge 7, 3) := by decide +kernel
theorem dX11_counted_4 : decode cX11_counted 4 = .ok (.iload_n 1, 1) := by decide +kernel
theorem dX11_counted_5 : decode cX11_counted 5 = .ok (.goto 8, 3) := by decide +kernel
theorem dX11_counted_8 : decode cX11_counted 8 = .ok (.aload_n 0, 1) := by decide +kernel
theorem dX11_counted_9 : decode cX11_counted 9 = .ok (.iload_n 1, 1) := by decide +kernel
theorem dX11_counted_10 : decode cX11_counted 10 = .ok (.invokevirtual 333, 3) := by decide +kernel
theorem dX11_counted_13 : decode cX11_counted 13 = .ok (.ireturn, 1) := by decide +kernel
theorem s_X11_counted {a1 : Int} {s0 : xW} {q : Int × xW} (h : F_X11_counted a1 s0 = some q) : xC 1 0 0 mX11_counted [vR 121, vI a1] 155 s0 (xRv (vI q.1) q.2) := by
  refine xC.of [vR 121, vI a1] (by decide +kernel) (Nat.le_of_ble_eq_true rfl) rfl ?_
  unfold F_X11_counted at h
  refine g_iln dX11_counted_0 rfl rfl ?_
  obtain ⟨j3, ej4, h⟩ := xjn_e h
  have hj5 : ∀ (t1 : Int) (s2 : xW), j3 t1 s2 = some q → xG 1 0 0 mX11_counted 13 [vX, vX] [vI t1] 155 s2 (xRv (vI q.1) q.2) := by
    intro t1 s2 h
    rw [ej4] at h
    exact g_rI rfl dX11_counted_13 h
  clear ej4
  refine g_yge dX11_counted_1 (tgt := 8) rfl rfl (fun q6 => ?_) (fun q6 => ?_)
  · replace h := xif_f q6 h
    refine g_aln dX11_counted_8 rfl rfl (by decide) ?_
    refine g_iln dX11_counted_9 rfl rfl ?_
    obtain ⟨r8, s9, e7, h⟩ := xbd_e h
    refine g_cV1v dX11_counted_10 ml_X11_333 rfl (s_X11_adds e7) (by decide) rfl ?_
    refine g_drop_0 ?_
    refine g_drop_1 ?_
    exact hj5 r8 s9 h
  · replace h := xif_t q6 h
    refine g_iln dX11_counted_4 rfl rfl ?_
    refine g_goto dX11_counted_5 (tgt := 13) rfl ?_
    refine g_drop_0 ?_
    refine g_drop_1 ?_
    exact hj5 a1 s0 h
theorem dX11_buys_0 : decode cX11_buys 0 = .ok (.aload_n 0, 1) := by decide +kernel
theorem dX11_buys_1 : decode cX11_buys 1 = .ok (.iconst 0, 1) := by decide +kernel
theorem dX11_buys_2 : decode cX11_buys 2 = .ok (.putfield 3, 3) := by decide +kernel
theorem dX11_buys_5 : decode cX11_buys 5 = .ok (.aload_n 0, 1) := by decide +kernel
theorem dX11_buys_6 : decode cX11_buys 6 = .ok (.invokevirtual 361, 3) := by decide +kernel
theorem dX11_buys_9 : decode cX11_buys 9 = .ok (.aload_n 0, 1) := by decide +kernel
theorem dX11_buys_10 : decode cX11_buys 10 = .ok (.aload_n 0, 1) := by decide +kernel
theorem dX11_buys_11 : decode cX11_buys 11 = .ok (.iload_n 1, 1) := by decide +kernel
theorem dX11_buys_12 : decode cX11_buys 12 = .ok (.invokevirtual 367, 3) := by decide +kernel
theorem dX11_buys_15 : decode cX11_buys 15 = .ok (.invokevirtual 370, 3) := by decide +kernel
theorem dX11_buys_18 : decode cX11_buys 18 = .ok (.ireturn, 1) := by decide +kernel
theorem s_X11_buys {a1 : Int} {s0 : xW} {q : Int × xW} (h : F_X11_buys a1 s0 = some q) : xC 2 0 0 mX11_buys [vR 121, vI a1] 155 s0 (xRv (vI q.1) q.2) := by
  refine xC.of [vR 121, vI a1] (by decide +kernel) (Nat.le_of_ble_eq_true rfl) rfl ?_
  unfold F_X11_buys at h
  refine g_aln dX11_buys_0 rfl rfl (by decide) ?_
  refine g_ic dX11_buys_1 ?_
  obtain ⟨s1, e2, h⟩ := xlt_e h
  refine h_putI 0 dX11_buys_2 fl_X11_3 rfl rfl e2 ?_
  refine g_aln dX11_buys_5 rfl rfl (by decide) ?_
  obtain ⟨s4, e3, h⟩ := xbp_e h
  refine g_cV00 dX11_buys_6 ml_X11_361 rfl (s_X11_putsBy e3) (by decide) rfl ?_
  refine g_aln dX11_buys_9 rfl rfl (by decide) ?_
  refine g_aln dX11_buys_10 rfl rfl (by decide) ?_
  refine g_iln dX11_buys_11 rfl rfl ?_
  obtain ⟨r6, s7, e5, h⟩ := xbd_e h
  refine g_cV1v dX11_buys_12 ml_X11_367 rfl (s_X11_buysSome e5) (by decide) rfl ?_
  obtain ⟨r9, s10, e8, h⟩ := xbd_e h
  refine g_cV1v dX11_buys_15 ml_X11_370 rfl (s_X11_counted e8) (by decide) rfl ?_
  exact g_rI rfl dX11_buys_18 h
theorem dX11_clashes_0 : decode cX11_clashes 0 = .ok (.aload_n 0, 1) := by decide +kernel
theorem dX11_clashes_1 : decode cX11_clashes 1 = .ok (.iconst 0, 1) := by decide +kernel
theorem dX11_clashes_2 : decode cX11_clashes 2 = .ok (.putfield 3, 3) := by decide +kernel
theorem dX11_clashes_5 : decode cX11_clashes 5 = .ok (.aload_n 0, 1) := by decide +kernel
theorem dX11_clashes_6 : decode cX11_clashes 6 = .ok (.aload_n 0, 1) := by decide +kernel
theorem dX11_clashes_7 : decode cX11_clashes 7 = .ok (.getfield 47, 3) := by decide +kernel
theorem dX11_clashes_10 : decode cX11_clashes 10 = .ok (.invokevirtual 336, 3) := by decide +kernel
theorem dX11_clashes_13 : decode cX11_clashes 13 = .ok (.istore_n 1, 1) := by decide +kernel
theorem dX11_clashes_14 : decode cX11_clashes 14 = .ok (.aload_n 0, 1) := by decide +kernel
theorem dX11_clashes_15 : decode cX11_clashes 15 = .ok (.iconst 0, 1) := by decide +kernel
theorem dX11_clashes_16 : decode cX11_clashes 16 = .ok (.putfield 15, 3) := by decide +kernel
theorem dX11_clashes_19 : decode cX11_clashes 19 = .ok (.iconst 0, 1) := by decide +kernel
theorem dX11_clashes_20 : decode cX11_clashes 20 = .ok (.istore_n 2, 1) := by decide +kernel
theorem dX11_clashes_21 : decode cX11_clashes 21 = .ok (.iload_n 2, 1) := by decide +kernel
theorem dX11_clashes_22 : decode cX11_clashes 22 = .ok (.aload_n 0, 1) := by decide +kernel
theorem dX11_clashes_23 : decode cX11_clashes 23 = .ok (.getfield 136, 3) := by decide +kernel
theorem dX11_clashes_26 : decode cX11_clashes 26 = .ok (.if_icmp .ge 59, 3) := by decide +kernel
theorem dX11_clashes_29 : decode cX11_clashes 29 = .ok (.iload_n 2, 1) := by decide +kernel
theorem dX11_clashes_30 : decode cX11_clashes 30 = .ok (.iconst 1, 1) := by decide +kernel
theorem dX11_clashes_31 : decode cX11_clashes 31 = .ok (.iadd, 1) := by decide +kernel
theorem dX11_clashes_32 : decode cX11_clashes 32 = .ok (.istore_n 3, 1) := by decide +kernel
theorem dX11_clashes_33 : decode cX11_clashes 33 = .ok (.iload_n 3, 1) := by decide +kernel
theorem dX11_clashes_34 : decode cX11_clashes 34 = .ok (.aload_n 0, 1) := by decide +kernel
theorem dX11_clashes_35 : decode cX11_clashes 35 = .ok (.getfield 136, 3) := by decide +kernel
theorem dX11_clashes_38 : decode cX11_clashes 38 = .ok (.if_icmp .ge 41, 3) := by decide +kernel
theorem dX11_clashes_41 : decode cX11_clashes 41 = .ok (.aload_n 0, 1) := by decide +kernel
theorem dX11_clashes_42 : decode cX11_clashes 42 = .ok (.getfield 15, 3) := by decide +kernel
theorem dX11_clashes_45 : decode cX11_clashes 45 = .ok (.ifCond .ne 28, 3) := by decide +kernel
theorem dX11_clashes_48 : decode cX11_clashes 48 = .ok (.aload_n 0, 1) := by decide +kernel
theorem dX11_clashes_49 : decode cX11_clashes 49 = .ok (.aload_n 0, 1) := by decide +kernel
theorem dX11_clashes_50 : decode cX11_clashes 50 = .ok (.getfield 47, 3) := by decide +kernel
theorem dX11_clashes_53 : decode cX11_clashes 53 = .ok (.iload_n 2, 1) := by decide +kernel
theorem dX11_clashes_54 : decode cX11_clashes 54 = .ok (.iload_n 3, 1) := by decide +kernel
theorem dX11_clashes_55 : decode cX11_clashes 55 = .ok (.invokevirtual 300, 3) := by decide +kernel
theorem dX11_clashes_58 : decode cX11_clashes 58 = .ok (.ifCond .eq 15, 3) := by decide +kernel
theorem dX11_clashes_61 : decode cX11_clashes 61 = .ok (.aload_n 0, 1) := by decide +kernel
theorem dX11_clashes_62 : decode cX11_clashes 62 = .ok (.iload_n 2, 1) := by decide +kernel
theorem dX11_clashes_63 : decode cX11_clashes 63 = .ok (.i2l, 1) := by decide +kernel
theorem dX11_clashes_64 : decode cX11_clashes 64 = .ok (.invokevirtual 18, 3) := by decide +kernel
theorem dX11_clashes_67 : decode cX11_clashes 67 = .ok (.aload_n 0, 1) := by decide +kernel
theorem dX11_clashes_68 : decode cX11_clashes 68 = .ok (.iload_n 3, 1) := by decide +kernel
theorem dX11_clashes_69 : decode cX11_clashes 69 = .ok (.i2l, 1) := by decide +kernel
theorem dX11_clashes_70 : decode cX11_clashes 70 = .ok (.invokevirtual 18, 3) := by decide +kernel
theorem dX11_clashes_73 : decode cX11_clashes 73 = .ok (.iinc 3 1, 3) := by decide +kernel
theorem dX11_clashes_76 : decode cX11_clashes 76 = .ok (.goto (-43), 3) := by decide +kernel
theorem dX11_clashes_79 : decode cX11_clashes 79 = .ok (.iinc 2 1, 3) := by decide +kernel
theorem dX11_clashes_82 : decode cX11_clashes 82 = .ok (.goto (-61), 3) := by decide +kernel
theorem dX11_clashes_85 : decode cX11_clashes 85 = .ok (.iload_n 1, 1) := by decide +kernel
theorem dX11_clashes_86 : decode cX11_clashes 86 = .ok (.ireturn, 1) := by decide +kernel
theorem s_X11_clashes_33 {l1_12 l2_13 : Int} {q : Int × xW} {k : Int → xW → Option (Int × xW)} (hk : ∀ (l3_29 : Int) (s30 : xW), k l3_29 s30 = some q → xG 7 0 0 mX11_clashes 79 [vR 121, vI l1_12, vI l2_13, vI l3_29] [] 155 s30 (xRv (vI q.1) q.2)) : ∀ (f : Nat) (l3_14 : Int) (s15 : xW), F_X11_clashes_33 l1_12 l2_13 f l3_14 s15 k = some q → xG 7 0 0 mX11_clashes 33 [vR 121, vI l1_12, vI l2_13, vI l3_14] [] 155 s15 (xRv (vI q.1) q.2) := by
  intro f
  induction f with
  | zero => intro l3_14 s15 h; cases h
  | succ f ih =>
    intro l3_14 s15 h
    unfold F_X11_clashes_33 at h
    refine g_iln dX11_clashes_33 rfl rfl ?_
    refine g_aln dX11_clashes_34 rfl rfl (by decide) ?_
    refine g_getI 4 dX11_clashes_35 fl_X11_136 rfl rfl ?_
    refine g_wge dX11_clashes_38 (tgt := 79) rfl rfl rfl (fun q16 => ?_) (fun q16 => ?_)
    · replace h := xif_f q16 h
      exact hk l3_14 s15 h
    · replace h := xif_t q16 h
      refine g_aln dX11_clashes_41 rfl rfl (by decide) ?_
      refine g_getI 1 dX11_clashes_42 fl_X11_15 rfl rfl ?_
      obtain ⟨j18, ej19, h⟩ := xjn_e h
      have hj20 : ∀ (s17 : xW), j18 s17 = some q → xG 7 0 0 mX11_clashes 73 [vR 121, vI l1_12, vI l2_13, vI l3_14] [] 155 s17 (xRv (vI q.1) q.2) := by
        intro s17 h
        rw [ej19] at h
        refine g_inc_3 dX11_clashes_73 (by decide) rfl ?_
        refine g_goto dX11_clashes_76 (tgt := 33) rfl ?_
        exact ih (l3_14 + 1) s17 h
      clear ej19
      refine g_yne dX11_clashes_45 (tgt := 73) rfl rfl (fun q21 => ?_) (fun q21 => ?_)
      · replace h := xif_f q21 h
        exact hj20 s15 h
      · replace h := xif_t q21 h
        refine g_aln dX11_clashes_48 rfl rfl (by decide) ?_
        refine g_aln dX11_clashes_49 rfl rfl (by decide) ?_
        refine g_getC 127 dX11_clashes_50 fl_X11_47 rfl (by decide) ?_
        refine g_iln dX11_clashes_53 rfl rfl ?_
        refine g_iln dX11_clashes_54 rfl rfl ?_
        obtain ⟨r23, e22, h⟩ := xbp_e h
        refine g_cV3v dX11_clashes_55 ml_X11_300 rfl (s_X11_clash e22) (by decide) rfl ?_
        refine g_yeq dX11_clashes_58 (tgt := 73) rfl rfl (fun q24 => ?_) (fun q24 => ?_)
        · replace h := xif_f q24 h
          exact hj20 s15 h
        · replace h := xif_t q24 h
          refine g_aln dX11_clashes_61 rfl rfl (by decide) ?_
          refine g_iln dX11_clashes_62 rfl rfl ?_
          refine g_wi2l dX11_clashes_63 rfl ?_
          obtain ⟨s26, e25, h⟩ := xbp_e h
          refine g_cV10 dX11_clashes_64 ml_X11_18 rfl (s_X11_enters e25) (by decide) rfl ?_
          refine g_aln dX11_clashes_67 rfl rfl (by decide) ?_
          refine g_iln dX11_clashes_68 rfl rfl ?_
          refine g_wi2l dX11_clashes_69 rfl ?_
          obtain ⟨s28, e27, h⟩ := xbp_e h
          refine g_cV10 dX11_clashes_70 ml_X11_18 rfl (s_X11_enters e27) (by decide) rfl ?_
          exact hj20 s28 h
theorem s_X11_clashes_21 {l1_8 : Int} {q : Int × xW} {k : Int → xW → Option (Int × xW)} (hk : ∀ (l2_33 : Int) (s34 : xW), k l2_33 s34 = some q → xG 7 0 0 mX11_clashes 85 [vR 121, vI l1_8, vI l2_33, vX] [] 155 s34 (xRv (vI q.1) q.2)) : ∀ (f : Nat) (l2_9 : Int) (s10 : xW), F_X11_clashes_21 l1_8 f l2_9 s10 k = some q → xG 7 0 0 mX11_clashes 21 [vR 121, vI l1_8, vI l2_9, vX] [] 155 s10 (xRv (vI q.1) q.2) := by
  intro f
  induction f with
  | zero => intro l2_9 s10 h; cases h
  | succ f ih =>
    intro l2_9 s10 h
    unfold F_X11_clashes_21 at h
    refine g_iln dX11_clashes_21 rfl rfl ?_
    refine g_aln dX11_clashes_22 rfl rfl (by decide) ?_
    refine g_getI 4 dX11_clashes_23 fl_X11_136 rfl rfl ?_
    refine g_wge dX11_clashes_26 (tgt := 85) rfl rfl rfl (fun q11 => ?_) (fun q11 => ?_)
    · replace h := xif_f q11 h
      exact hk l2_9 s10 h
    · replace h := xif_t q11 h
      refine g_iln dX11_clashes_29 rfl rfl ?_
      refine g_ic dX11_clashes_30 ?_
      refine g_iadd dX11_clashes_31 ?_
      refine g_istn_3 dX11_clashes_32 (by decide) rfl ?_
      refine s_X11_clashes_33 (fun l3_31 s32 h => ?_) xN _ _ h
      refine g_inc_2 dX11_clashes_79 (by decide) rfl ?_
      refine g_goto dX11_clashes_82 (tgt := 21) rfl ?_
      refine g_drop_3 ?_
      exact ih (l2_9 + 1) s32 h
theorem s_X11_clashes {s0 : xW} {q : Int × xW} (h : F_X11_clashes  s0 = some q) : xC 7 0 0 mX11_clashes [vR 121] 155 s0 (xRv (vI q.1) q.2) := by
  refine xC.of [vR 121, vX, vX, vX] (by decide +kernel) (Nat.le_of_ble_eq_true rfl) rfl ?_
  unfold F_X11_clashes at h
  refine g_aln dX11_clashes_0 rfl rfl (by decide) ?_
  refine g_ic dX11_clashes_1 ?_
  obtain ⟨s1, e2, h⟩ := xlt_e h
  refine h_putI 0 dX11_clashes_2 fl_X11_3 rfl rfl e2 ?_
  refine g_aln dX11_clashes_5 rfl rfl (by decide) ?_
  refine g_aln dX11_clashes_6 rfl rfl (by decide) ?_
  refine g_getC 127 dX11_clashes_7 fl_X11_47 rfl (by decide) ?_
  obtain ⟨r4, s5, e3, h⟩ := xbd_e h
  refine g_cV1v dX11_clashes_10 ml_X11_336 rfl (s_X11_clashesOn e3) (by decide) rfl ?_
  refine g_istn_1 dX11_clashes_13 (by decide) rfl ?_
  refine g_aln dX11_clashes_14 rfl rfl (by decide) ?_
  refine g_ic dX11_clashes_15 ?_
  obtain ⟨s6, e7, h⟩ := xlt_e h
  refine h_putI 1 dX11_clashes_16 fl_X11_15 rfl rfl e7 ?_
  refine g_ic dX11_clashes_19 ?_
  refine g_istn_2 dX11_clashes_20 (by decide) rfl ?_
  refine s_X11_clashes_21 (fun l2_35 s36 h => ?_) xN _ _ h
  refine g_iln dX11_clashes_85 rfl rfl ?_
  exact g_rI rfl dX11_clashes_86 h
theorem dX11_codes_0 : decode cX11_codes 0 = .ok (.aload_n 0, 1) := by decide +kernel
theorem dX11_codes_1 : decode cX11_codes 1 = .ok (.getfield 62, 3) := by decide +kernel
theorem dX11_codes_4 : decode cX11_codes 4 = .ok (.aload_n 0, 1) := by decide +kernel
theorem dX11_codes_5 : decode cX11_codes 5 = .ok (.getfield 234, 3) := by decide +kernel
theorem dX11_codes_8 : decode cX11_codes 8 = .ok (.iload_n 1, 1) := by decide +kernel
theorem dX11_codes_9 : decode cX11_codes 9 = .ok (.iastore, 1) := by decide +kernel
theorem dX11_codes_10 : decode cX11_codes 10 = .ok (.aload_n 0, 1) := by decide +kernel
theorem dX11_codes_11 : decode cX11_codes 11 = .ok (.dup, 1) := by decide +kernel
theorem dX11_codes_12 : decode cX11_codes 12 = .ok (.getfield 234, 3) := by decide +kernel
theorem dX11_codes_15 : decode cX11_codes 15 = .ok (.iconst 1, 1) := by decide +kernel
theorem dX11_codes_16 : decode cX11_codes 16 = .ok (.iadd, 1) := by decide +kernel
theorem dX11_codes_17 : decode cX11_codes 17 = .ok (.putfield 234, 3) := by decide +kernel
theorem dX11_codes_20 : decode cX11_codes 20 = .ok (.return_, 1) := by decide +kernel
theorem s_X11_codes {a1 : Int} {s0 : xW} {q : xW} (h : F_X11_codes a1 s0 = some q) : xC 0 0 0 mX11_codes [vR 121, vI a1] 155 s0 (xR0 q) := by
  refine xC.of [vR 121, vI a1] (by decide +kernel) (Nat.le_of_ble_eq_true rfl) rfl ?_
  unfold F_X11_codes at h
  refine g_aln dX11_codes_0 rfl rfl (by decide) ?_
  refine g_getC 132 dX11_codes_1 fl_X11_62 rfl (by decide) ?_
  refine g_aln dX11_codes_4 rfl rfl (by decide) ?_
  refine g_getI 24 dX11_codes_5 fl_X11_234 rfl rfl ?_
  refine g_iln dX11_codes_8 rfl rfl ?_
  obtain ⟨hg1, h⟩ := xgd_e h
  obtain ⟨s2, e3, h⟩ := xlt_e h
  refine h_iast 80 dX11_codes_9 rfl hg1 (by decide) e3 ?_
  refine g_aln dX11_codes_10 rfl rfl (by decide) ?_
  refine g_dup dX11_codes_11 rfl ?_
  refine g_getI 24 dX11_codes_12 fl_X11_234 rfl rfl ?_
  refine g_ic dX11_codes_15 ?_
  refine g_iadd dX11_codes_16 ?_
  obtain ⟨s4, e5, h⟩ := xlt_e h
  refine h_putI 24 dX11_codes_17 fl_X11_234 rfl rfl e5 ?_
  exact g_rV rfl dX11_codes_20 h
theorem dX11_common_0 : decode cX11_common 0 = .ok (.lload_n 2, 1) := by decide +kernel
theorem dX11_common_1 : decode cX11_common 1 = .ok (.lconst 0, 1) := by decide +kernel
theorem dX11_common_2 : decode cX11_common 2 = .ok (.lcmp, 1) := by decide +kernel
theorem dX11_common_3 : decode cX11_common 3 = .ok (.ifCond .ne 7, 3) := by decide +kernel
theorem dX11_common_6 : decode cX11_common 6 = .ok (.lload_n 0, 1) := by decide +kernel
theorem dX11_common_7 : decode cX11_common 7 = .ok (.goto 10, 3) := by decide +kernel
theorem dX11_common_10 : decode cX11_common 10 = .ok (.lload_n 2, 1) := by decide +kernel
theorem dX11_common_11 : decode cX11_common 11 = .ok (.lload_n 0, 1) := by decide +kernel
theorem dX11_common_12 : decode cX11_common 12 = .ok (.lload_n 2, 1) := by decide +kernel
theorem dX11_common_13 : decode cX11_common 13 = .ok (.lrem, 1) := by decide +kernel
theorem dX11_common_14 : decode cX11_common 14 = .ok (.invokestatic 7, 3) := by decide +kernel
theorem dX11_common_17 : decode cX11_common 17 = .ok (.lreturn, 1) := by decide +kernel
theorem s_common_f : ∀ (f : Nat) {a0 a2 : Int} {s0 : xW} {q : Int} (h : F_common f a0 a2 = some q), xC f 0 0 mX11_common [vL a0, vL a2] 155 s0 (xRv (vL q) s0)
  | 0, _, _, _, _, h => by cases h
  | f + 1, a0, a2, s0, q, h => by
    have ih : ∀ {a0 a2 : Int} {s0 : xW} {q : Int} (h : F_common f a0 a2 = some q), xC f 0 0 mX11_common [vL a0, vL a2] 155 s0 (xRv (vL q) s0) := fun h => s_common_f f h
    refine xC.of [vL a0, vX, vL a2, vX] (by decide +kernel) (Nat.le_of_ble_eq_true rfl) rfl ?_
    unfold F_common F_X11_common_b at h
    refine g_lln dX11_common_0 rfl rfl ?_
    refine g_lc dX11_common_1 (w := 0) rfl ?_
    refine g_vne dX11_common_2 dX11_common_3 (tgt := 10) rfl rfl (xwl_id (by decide)) (fun q1 => ?_) (fun q1 => ?_)
    · replace h := xif_f q1 h
      refine g_lln dX11_common_10 rfl rfl ?_
      refine g_lln dX11_common_11 rfl rfl ?_
      refine g_lln dX11_common_12 rfl rfl ?_
      obtain ⟨hg2, h⟩ := xgd_e h
      refine g_wlrem dX11_common_13 rfl rfl hg2 ?_
      obtain ⟨r4, e3, h⟩ := xbp_e h
      refine g_cS2v dX11_common_14 ml_X11_7 (ih e3) (Nat.le_refl _) rfl ?_
      exact g_pL rfl dX11_common_17 h
    · replace h := xif_t q1 h
      refine g_lln dX11_common_6 rfl rfl ?_
      refine g_goto dX11_common_7 (tgt := 17) rfl ?_
      exact g_pL rfl dX11_common_17 h
theorem s_X11_common {a0 a2 : Int} {s0 : xW} {q : Int} (h : F_X11_common a0 a2 s0 = some q) : xC 200 0 0 mX11_common [vL a0, vL a2] 155 s0 (xRv (vL q) s0) := s_common_f 200 h
theorem dX11_count_0 : decode cX11_count 0 = .ok (.aload_n 0, 1) := by decide +kernel
theorem dX11_count_1 : decode cX11_count 1 = .ok (.iconst 0, 1) := by decide +kernel
theorem dX11_count_2 : decode cX11_count 2 = .ok (.putfield 3, 3) := by decide +kernel
theorem dX11_count_5 : decode cX11_count 5 = .ok (.iload_n 1, 1) := by decide +kernel
theorem dX11_count_6 : decode cX11_count 6 = .ok (.tableswitch 172 0 13 #[70, 75, 80, 88, 96, 104, 112, 120, 128, 140, 152, 157, 162, 167], 70) := by decide +kernel
theorem dX11_count_76 : decode cX11_count 76 = .ok (.aload_n 0, 1) := by decide +kernel
theorem dX11_count_77 : decode cX11_count 77 = .ok (.getfield 129, 3) := by decide +kernel
theorem dX11_count_80 : decode cX11_count 80 = .ok (.ireturn, 1) := by decide +kernel
theorem dX11_count_81 : decode cX11_count 81 = .ok (.aload_n 0, 1) := by decide +kernel
theorem dX11_count_82 : decode cX11_count 82 = .ok (.getfield 136, 3) := by decide +kernel
theorem dX11_count_85 : decode cX11_count 85 = .ok (.ireturn, 1) := by decide +kernel
theorem dX11_count_86 : decode cX11_count 86 = .ok (.aload_n 0, 1) := by decide +kernel
theorem dX11_count_87 : decode cX11_count 87 = .ok (.getfield 47, 3) := by decide +kernel
theorem dX11_count_90 : decode cX11_count 90 = .ok (.bipush 39, 2) := by decide +kernel
theorem dX11_count_92 : decode cX11_count 92 = .ok (.iaload, 1) := by decide +kernel
theorem dX11_count_93 : decode cX11_count 93 = .ok (.ireturn, 1) := by decide +kernel
theorem dX11_count_94 : decode cX11_count 94 = .ok (.aload_n 0, 1) := by decide +kernel
theorem dX11_count_95 : decode cX11_count 95 = .ok (.getfield 47, 3) := by decide +kernel
theorem dX11_count_98 : decode cX11_count 98 = .ok (.bipush 36, 2) := by decide +kernel
theorem dX11_count_100 : decode cX11_count 100 = .ok (.iaload, 1) := by decide +kernel
theorem dX11_count_101 : decode cX11_count 101 = .ok (.ireturn, 1) := by decide +kernel
theorem dX11_count_102 : decode cX11_count 102 = .ok (.aload_n 0, 1) := by decide +kernel
theorem dX11_count_103 : decode cX11_count 103 = .ok (.getfield 47, 3) := by decide +kernel
theorem dX11_count_106 : decode cX11_count 106 = .ok (.bipush 37, 2) := by decide +kernel
theorem dX11_count_108 : decode cX11_count 108 = .ok (.iaload, 1) := by decide +kernel
theorem dX11_count_109 : decode cX11_count 109 = .ok (.ireturn, 1) := by decide +kernel
theorem dX11_count_110 : decode cX11_count 110 = .ok (.aload_n 0, 1) := by decide +kernel
theorem dX11_count_111 : decode cX11_count 111 = .ok (.getfield 47, 3) := by decide +kernel
theorem dX11_count_114 : decode cX11_count 114 = .ok (.bipush 38, 2) := by decide +kernel
theorem dX11_count_116 : decode cX11_count 116 = .ok (.iaload, 1) := by decide +kernel
theorem dX11_count_117 : decode cX11_count 117 = .ok (.ireturn, 1) := by decide +kernel
theorem dX11_count_118 : decode cX11_count 118 = .ok (.aload_n 0, 1) := by decide +kernel
theorem dX11_count_119 : decode cX11_count 119 = .ok (.getfield 47, 3) := by decide +kernel
theorem dX11_count_122 : decode cX11_count 122 = .ok (.bipush 32, 2) := by decide +kernel
theorem dX11_count_124 : decode cX11_count 124 = .ok (.iaload, 1) := by decide +kernel
theorem dX11_count_125 : decode cX11_count 125 = .ok (.ireturn, 1) := by decide +kernel
theorem dX11_count_126 : decode cX11_count 126 = .ok (.aload_n 0, 1) := by decide +kernel
theorem dX11_count_127 : decode cX11_count 127 = .ok (.getfield 47, 3) := by decide +kernel
theorem dX11_count_130 : decode cX11_count 130 = .ok (.bipush 33, 2) := by decide +kernel
theorem dX11_count_132 : decode cX11_count 132 = .ok (.iaload, 1) := by decide +kernel
theorem dX11_count_133 : decode cX11_count 133 = .ok (.ireturn, 1) := by decide +kernel
theorem dX11_count_134 : decode cX11_count 134 = .ok (.aload_n 0, 1) := by decide +kernel
theorem dX11_count_135 : decode cX11_count 135 = .ok (.aload_n 0, 1) := by decide +kernel
theorem dX11_count_136 : decode cX11_count 136 = .ok (.getfield 47, 3) := by decide +kernel
theorem dX11_count_139 : decode cX11_count 139 = .ok (.bipush 39, 2) := by decide +kernel
theorem dX11_count_141 : decode cX11_count 141 = .ok (.iaload, 1) := by decide +kernel
theorem dX11_count_142 : decode cX11_count 142 = .ok (.invokevirtual 285, 3) := by decide +kernel
theorem dX11_count_145 : decode cX11_count 145 = .ok (.ireturn, 1) := by decide +kernel
theorem dX11_count_146 : decode cX11_count 146 = .ok (.aload_n 0, 1) := by decide +kernel
theorem dX11_count_147 : decode cX11_count 147 = .ok (.aload_n 0, 1) := by decide +kernel
theorem dX11_count_148 : decode cX11_count 148 = .ok (.getfield 47, 3) := by decide +kernel
theorem dX11_count_151 : decode cX11_count 151 = .ok (.bipush 39, 2) := by decide +kernel
theorem dX11_count_153 : decode cX11_count 153 = .ok (.iaload, 1) := by decide +kernel
theorem dX11_count_154 : decode cX11_count 154 = .ok (.invokevirtual 282, 3) := by decide +kernel
theorem dX11_count_157 : decode cX11_count 157 = .ok (.ireturn, 1) := by decide +kernel
theorem dX11_count_158 : decode cX11_count 158 = .ok (.aload_n 0, 1) := by decide +kernel
theorem dX11_count_159 : decode cX11_count 159 = .ok (.getfield 425, 3) := by decide +kernel
theorem dX11_count_162 : decode cX11_count 162 = .ok (.ireturn, 1) := by decide +kernel
theorem dX11_count_163 : decode cX11_count 163 = .ok (.aload_n 0, 1) := by decide +kernel
theorem dX11_count_164 : decode cX11_count 164 = .ok (.getfield 218, 3) := by decide +kernel
theorem dX11_count_167 : decode cX11_count 167 = .ok (.ireturn, 1) := by decide +kernel
theorem dX11_count_168 : decode cX11_count 168 = .ok (.aload_n 0, 1) := by decide +kernel
theorem dX11_count_169 : decode cX11_count 169 = .ok (.getfield 15, 3) := by decide +kernel
theorem dX11_count_172 : decode cX11_count 172 = .ok (.ireturn, 1) := by decide +kernel
theorem dX11_count_173 : decode cX11_count 173 = .ok (.aload_n 0, 1) := by decide +kernel
theorem dX11_count_174 : decode cX11_count 174 = .ok (.getfield 141, 3) := by decide +kernel
theorem dX11_count_177 : decode cX11_count 177 = .ok (.ireturn, 1) := by decide +kernel
theorem dX11_count_178 : decode cX11_count 178 = .ok (.bipush (-100), 2) := by decide +kernel
theorem dX11_count_180 : decode cX11_count 180 = .ok (.ireturn, 1) := by decide +kernel
theorem s_X11_count {a1 : Int} {s0 : xW} {q : Int × xW} (h : F_X11_count a1 s0 = some q) : xC 1 0 0 mX11_count [vR 121, vI a1] 155 s0 (xRv (vI q.1) q.2) := by
  refine xC.of [vR 121, vI a1] (by decide +kernel) (Nat.le_of_ble_eq_true rfl) rfl ?_
  unfold F_X11_count at h
  refine g_aln dX11_count_0 rfl rfl (by decide) ?_
  refine g_ic dX11_count_1 ?_
  obtain ⟨s1, e2, h⟩ := xlt_e h
  refine h_putI 0 dX11_count_2 fl_X11_3 rfl rfl e2 ?_
  refine g_iln dX11_count_5 rfl rfl ?_
  by_cases q3 : (xw a1) = 0
  · replace h := xif_t q3 h
    refine g_wtK dX11_count_6 q3 (by decide) (off := 70) rfl (tgt := 76) rfl ?_
    refine g_aln dX11_count_76 rfl rfl (by decide) ?_
    refine g_getI 3 dX11_count_77 fl_X11_129 rfl rfl ?_
    exact g_rI rfl dX11_count_80 h
  replace h := xif_f q3 h
  by_cases q4 : (xw a1) = 1
  · replace h := xif_t q4 h
    refine g_wtK dX11_count_6 q4 (by decide) (off := 75) rfl (tgt := 81) rfl ?_
    refine g_aln dX11_count_81 rfl rfl (by decide) ?_
    refine g_getI 4 dX11_count_82 fl_X11_136 rfl rfl ?_
    exact g_rI rfl dX11_count_85 h
  replace h := xif_f q4 h
  by_cases q5 : (xw a1) = 2
  · replace h := xif_t q5 h
    refine g_wtK dX11_count_6 q5 (by decide) (off := 80) rfl (tgt := 86) rfl ?_
    refine g_aln dX11_count_86 rfl rfl (by decide) ?_
    refine g_getC 127 dX11_count_87 fl_X11_47 rfl (by decide) ?_
    refine g_bi dX11_count_90 (by decide) ?_
    refine g_iald 40 dX11_count_92 rfl (by decide) (by decide) ?_
    exact g_rI rfl dX11_count_93 h
  replace h := xif_f q5 h
  by_cases q6 : (xw a1) = 3
  · replace h := xif_t q6 h
    refine g_wtK dX11_count_6 q6 (by decide) (off := 88) rfl (tgt := 94) rfl ?_
    refine g_aln dX11_count_94 rfl rfl (by decide) ?_
    refine g_getC 127 dX11_count_95 fl_X11_47 rfl (by decide) ?_
    refine g_bi dX11_count_98 (by decide) ?_
    refine g_iald 40 dX11_count_100 rfl (by decide) (by decide) ?_
    exact g_rI rfl dX11_count_101 h
  replace h := xif_f q6 h
  by_cases q7 : (xw a1) = 4
  · replace h := xif_t q7 h
    refine g_wtK dX11_count_6 q7 (by decide) (off := 96) rfl (tgt := 102) rfl ?_
    refine g_aln dX11_count_102 rfl rfl (by decide) ?_
    refine g_getC 127 dX11_count_103 fl_X11_47 rfl (by decide) ?_
    refine g_bi dX11_count_106 (by decide) ?_
    refine g_iald 40 dX11_count_108 rfl (by decide) (by decide) ?_
    exact g_rI rfl dX11_count_109 h
  replace h := xif_f q7 h
  by_cases q8 : (xw a1) = 5
  · replace h := xif_t q8 h
    refine g_wtK dX11_count_6 q8 (by decide) (off := 104) rfl (tgt := 110) rfl ?_
    refine g_aln dX11_count_110 rfl rfl (by decide) ?_
    refine g_getC 127 dX11_count_111 fl_X11_47 rfl (by decide) ?_
    refine g_bi dX11_count_114 (by decide) ?_
    refine g_iald 40 dX11_count_116 rfl (by decide) (by decide) ?_
    exact g_rI rfl dX11_count_117 h
  replace h := xif_f q8 h
  by_cases q9 : (xw a1) = 6
  · replace h := xif_t q9 h
    refine g_wtK dX11_count_6 q9 (by decide) (off := 112) rfl (tgt := 118) rfl ?_
    refine g_aln dX11_count_118 rfl rfl (by decide) ?_
    refine g_getC 127 dX11_count_119 fl_X11_47 rfl (by decide) ?_
    refine g_bi dX11_count_122 (by decide) ?_
    refine g_iald 40 dX11_count_124 rfl (by decide) (by decide) ?_
    exact g_rI rfl dX11_count_125 h
  replace h := xif_f q9 h
  by_cases q10 : (xw a1) = 7
  · replace h := xif_t q10 h
    refine g_wtK dX11_count_6 q10 (by decide) (off := 120) rfl (tgt := 126) rfl ?_
    refine g_aln dX11_count_126 rfl rfl (by decide) ?_
    refine g_getC 127 dX11_count_127 fl_X11_47 rfl (by decide) ?_
    refine g_bi dX11_count_130 (by decide) ?_
    refine g_iald 40 dX11_count_132 rfl (by decide) (by decide) ?_
    exact g_rI rfl dX11_count_133 h
  replace h := xif_f q10 h
  by_cases q11 : (xw a1) = 8
  · replace h := xif_t q11 h
    refine g_wtK dX11_count_6 q11 (by decide) (off := 128) rfl (tgt := 134) rfl ?_
    refine g_aln dX11_count_134 rfl rfl (by decide) ?_
    refine g_aln dX11_count_135 rfl rfl (by decide) ?_
    refine g_getC 127 dX11_count_136 fl_X11_47 rfl (by decide) ?_
    refine g_bi dX11_count_139 (by decide) ?_
    refine g_iald 40 dX11_count_141 rfl (by decide) (by decide) ?_
    obtain ⟨r13, e12, h⟩ := xbp_e h
    refine g_cV1v dX11_count_142 ml_X11_285 rfl (s_X11_windOn e12) (by decide) rfl ?_
    exact g_rI rfl dX11_count_145 h
  replace h := xif_f q11 h
  by_cases q14 : (xw a1) = 9
  · replace h := xif_t q14 h
    refine g_wtK dX11_count_6 q14 (by decide) (off := 140) rfl (tgt := 146) rfl ?_
    refine g_aln dX11_count_146 rfl rfl (by decide) ?_
    refine g_aln dX11_count_147 rfl rfl (by decide) ?_
    refine g_getC 127 dX11_count_148 fl_X11_47 rfl (by decide) ?_
    refine g_bi dX11_count_151 (by decide) ?_
    refine g_iald 40 dX11_count_153 rfl (by decide) (by decide) ?_
    obtain ⟨r16, e15, h⟩ := xbp_e h
    refine g_cV1v dX11_count_154 ml_X11_282 rfl (s_X11_dampOn e15) (by decide) rfl ?_
    exact g_rI rfl dX11_count_157 h
  replace h := xif_f q14 h
  by_cases q17 : (xw a1) = 10
  · replace h := xif_t q17 h
    refine g_wtK dX11_count_6 q17 (by decide) (off := 152) rfl (tgt := 158) rfl ?_
    refine g_aln dX11_count_158 rfl rfl (by decide) ?_
    refine g_getI 42 dX11_count_159 fl_X11_425 rfl rfl ?_
    exact g_rI rfl dX11_count_162 h
  replace h := xif_f q17 h
  by_cases q18 : (xw a1) = 11
  · replace h := xif_t q18 h
    refine g_wtK dX11_count_6 q18 (by decide) (off := 157) rfl (tgt := 163) rfl ?_
    refine g_aln dX11_count_163 rfl rfl (by decide) ?_
    refine g_getI 28 dX11_count_164 fl_X11_218 rfl rfl ?_
    exact g_rI rfl dX11_count_167 h
  replace h := xif_f q18 h
  by_cases q19 : (xw a1) = 12
  · replace h := xif_t q19 h
    refine g_wtK dX11_count_6 q19 (by decide) (off := 162) rfl (tgt := 168) rfl ?_
    refine g_aln dX11_count_168 rfl rfl (by decide) ?_
    refine g_getI 1 dX11_count_169 fl_X11_15 rfl rfl ?_
    exact g_rI rfl dX11_count_172 h
  replace h := xif_f q19 h
  by_cases q20 : (xw a1) = 13
  · replace h := xif_t q20 h
    refine g_wtK dX11_count_6 q20 (by decide) (off := 167) rfl (tgt := 173) rfl ?_
    refine g_aln dX11_count_173 rfl rfl (by decide) ?_
    refine g_getI 15 dX11_count_174 fl_X11_141 rfl rfl ?_
    exact g_rI rfl dX11_count_177 h
  replace h := xif_f q20 h
  refine g_wtO dX11_count_6 rfl (by omega) (tgt := 178) rfl ?_
  refine g_bi dX11_count_178 (by decide) ?_
  exact g_rI rfl dX11_count_180 h
theorem dX11_isDigit_0 : decode cX11_isDigit 0 = .ok (.aload_n 0, 1) := by decide +kernel
theorem dX11_isDigit_1 : decode cX11_isDigit 1 = .ok (.getfield 144, 3) := by decide +kernel
theorem dX11_isDigit_4 : decode cX11_isDigit 4 = .ok (.aload_n 0, 1) := by decide +kernel
theorem dX11_isDigit_5 : decode cX11_isDigit 5 = .ok (.getfield 156, 3) := by decide +kernel
theorem dX11_isDigit_8 : decode cX11_isDigit 8 = .ok (.if_icmp .ge 29, 3) := by decide +kernel
theorem dX11_isDigit_11 : decode cX11_isDigit 11 = .ok (.aload_n 0, 1) := by decide +kernel
theorem dX11_isDigit_12 : decode cX11_isDigit 12 = .ok (.getfield 53, 3) := by decide +kernel
theorem dX11_isDigit_15 : decode cX11_isDigit 15 = .ok (.aload_n 0, 1) := by decide +kernel
theorem dX11_isDigit_16 : decode cX11_isDigit 16 = .ok (.getfield 144, 3) := by decide +kernel
theorem dX11_isDigit_19 : decode cX11_isDigit 19 = .ok (.iaload, 1) := by decide +kernel
theorem dX11_isDigit_20 : decode cX11_isDigit 20 = .ok (.i2l, 1) := by decide +kernel
theorem dX11_isDigit_21 : decode cX11_isDigit 21 = .ok (.ldc2_w 163, 3) := by decide +kernel
theorem dX11_isDigit_24 : decode cX11_isDigit 24 = .ok (.ldc2_w 165, 3) := by decide +kernel
theorem dX11_isDigit_27 : decode cX11_isDigit 27 = .ok (.invokestatic 132, 3) := by decide +kernel
theorem dX11_isDigit_30 : decode cX11_isDigit 30 = .ok (.ifCond .eq 7, 3) := by decide +kernel
theorem dX11_isDigit_33 : decode cX11_isDigit 33 = .ok (.iconst 1, 1) := by decide +kernel
theorem dX11_isDigit_34 : decode cX11_isDigit 34 = .ok (.goto 4, 3) := by decide +kernel
theorem dX11_isDigit_37 : decode cX11_isDigit 37 = .ok (.iconst 0, 1) := by decide +kernel
theorem dX11_isDigit_38 : decode cX11_isDigit 38 = .ok (.ireturn, 1) := by decide +kernel
theorem s_X11_isDigit {s0 : xW} {q : Int} (h : F_X11_isDigit  s0 = some q) : xC 1 0 0 mX11_isDigit [vR 121] 155 s0 (xRv (vI q) s0) := by
  refine xC.of [vR 121] (by decide +kernel) (Nat.le_of_ble_eq_true rfl) rfl ?_
  unfold F_X11_isDigit at h
  refine g_aln dX11_isDigit_0 rfl rfl (by decide) ?_
  refine g_getI 16 dX11_isDigit_1 fl_X11_144 rfl rfl ?_
  refine g_aln dX11_isDigit_4 rfl rfl (by decide) ?_
  refine g_getI 17 dX11_isDigit_5 fl_X11_156 rfl rfl ?_
  obtain ⟨j2, ej3, h⟩ := xjn_e h
  have hj4 : ∀ (t1 : Int), j2 t1 = some q → xG 1 0 0 mX11_isDigit 38 [vX] [vI t1] 155 s0 (xRv (vI q) s0) := by
    intro t1 h
    rw [ej3] at h
    obtain ⟨hg5, h⟩ := xgd_e h
    exact g_pZ rfl dX11_isDigit_38 hg5 h
  clear ej3
  obtain ⟨j6, ej7, h⟩ := xjn_e h
  have hj8 : j6  = some q → xG 1 0 0 mX11_isDigit 37 [vX] [] 155 s0 (xRv (vI q) s0) := by
    intro  h
    rw [ej7] at h
    refine g_ic dX11_isDigit_37 ?_
    exact hj4 0 h
  clear ej7
  refine g_wge dX11_isDigit_8 (tgt := 37) rfl rfl rfl (fun q9 => ?_) (fun q9 => ?_)
  · replace h := xif_f q9 h
    refine g_drop_0 ?_
    exact hj8  h
  · replace h := xif_t q9 h
    refine g_aln dX11_isDigit_11 rfl rfl (by decide) ?_
    refine g_getC 129 dX11_isDigit_12 fl_X11_53 rfl (by decide) ?_
    refine g_aln dX11_isDigit_15 rfl rfl (by decide) ?_
    refine g_getI 16 dX11_isDigit_16 fl_X11_144 rfl rfl ?_
    obtain ⟨hg10, h⟩ := xgd_e h
    refine g_iald 80 dX11_isDigit_19 rfl hg10 (by decide) ?_
    refine g_wi2l dX11_isDigit_20 rfl ?_
    refine g_ldc2 dX11_isDigit_21 ct_X11_163 (w := 48) rfl ?_
    refine g_ldc2 dX11_isDigit_24 ct_X11_165 (w := 57) rfl ?_
    obtain ⟨r12, e11, h⟩ := xbp_e h
    refine g_cS3v dX11_isDigit_27 ml_X11_132 (s_X11_in e11) (by decide) rfl ?_
    refine g_yeq dX11_isDigit_30 (tgt := 37) rfl rfl (fun q13 => ?_) (fun q13 => ?_)
    · replace h := xif_f q13 h
      refine g_drop_0 ?_
      exact hj8  h
    · replace h := xif_t q13 h
      refine g_ic dX11_isDigit_33 ?_
      refine g_goto dX11_isDigit_34 (tgt := 38) rfl ?_
      refine g_drop_0 ?_
      exact hj4 1 h
theorem dX11_number_0 : decode cX11_number 0 = .ok (.aload_n 0, 1) := by decide +kernel
theorem dX11_number_1 : decode cX11_number 1 = .ok (.invokevirtual 177, 3) := by decide +kernel
theorem dX11_number_4 : decode cX11_number 4 = .ok (.ifCond .ne 5, 3) := by decide +kernel
theorem dX11_number_7 : decode cX11_number 7 = .ok (.iconst (-1), 1) := by decide +kernel
theorem dX11_number_8 : decode cX11_number 8 = .ok (.ireturn, 1) := by decide +kernel
theorem dX11_number_9 : decode cX11_number 9 = .ok (.iconst 0, 1) := by decide +kernel
theorem dX11_number_10 : decode cX11_number 10 = .ok (.istore_n 2, 1) := by decide +kernel
theorem dX11_number_11 : decode cX11_number 11 = .ok (.iconst 0, 1) := by decide +kernel
theorem dX11_number_12 : decode cX11_number 12 = .ok (.istore_n 3, 1) := by decide +kernel
theorem dX11_number_13 : decode cX11_number 13 = .ok (.iload_n 3, 1) := by decide +kernel
theorem dX11_number_14 : decode cX11_number 14 = .ok (.iload_n 1, 1) := by decide +kernel
theorem dX11_number_15 : decode cX11_number 15 = .ok (.if_icmp .ge 44, 3) := by decide +kernel
theorem dX11_number_18 : decode cX11_number 18 = .ok (.aload_n 0, 1) := by decide +kernel
theorem dX11_number_19 : decode cX11_number 19 = .ok (.invokevirtual 177, 3) := by decide +kernel
theorem dX11_number_22 : decode cX11_number 22 = .ok (.ifCond .eq 37, 3) := by decide +kernel
theorem dX11_number_25 : decode cX11_number 25 = .ok (.bipush 10, 2) := by decide +kernel
theorem dX11_number_27 : decode cX11_number 27 = .ok (.iload_n 2, 1) := by decide +kernel
theorem dX11_number_28 : decode cX11_number 28 = .ok (.imul, 1) := by decide +kernel
theorem dX11_number_29 : decode cX11_number 29 = .ok (.aload_n 0, 1) := by decide +kernel
theorem dX11_number_30 : decode cX11_number 30 = .ok (.getfield 53, 3) := by decide +kernel
theorem dX11_number_33 : decode cX11_number 33 = .ok (.aload_n 0, 1) := by decide +kernel
theorem dX11_number_34 : decode cX11_number 34 = .ok (.getfield 144, 3) := by decide +kernel
theorem dX11_number_37 : decode cX11_number 37 = .ok (.iaload, 1) := by decide +kernel
theorem dX11_number_38 : decode cX11_number 38 = .ok (.iadd, 1) := by decide +kernel
theorem dX11_number_39 : decode cX11_number 39 = .ok (.bipush 48, 2) := by decide +kernel
theorem dX11_number_41 : decode cX11_number 41 = .ok (.isub, 1) := by decide +kernel
theorem dX11_number_42 : decode cX11_number 42 = .ok (.istore_n 2, 1) := by decide +kernel
theorem dX11_number_43 : decode cX11_number 43 = .ok (.aload_n 0, 1) := by decide +kernel
theorem dX11_number_44 : decode cX11_number 44 = .ok (.dup, 1) := by decide +kernel
theorem dX11_number_45 : decode cX11_number 45 = .ok (.getfield 144, 3) := by decide +kernel
theorem dX11_number_48 : decode cX11_number 48 = .ok (.iconst 1, 1) := by decide +kernel
theorem dX11_number_49 : decode cX11_number 49 = .ok (.iadd, 1) := by decide +kernel
theorem dX11_number_50 : decode cX11_number 50 = .ok (.putfield 144, 3) := by decide +kernel
theorem dX11_number_53 : decode cX11_number 53 = .ok (.iinc 3 1, 3) := by decide +kernel
theorem dX11_number_56 : decode cX11_number 56 = .ok (.goto (-43), 3) := by decide +kernel
theorem dX11_number_59 : decode cX11_number 59 = .ok (.iload_n 2, 1) := by decide +kernel
theorem dX11_number_60 : decode cX11_number 60 = .ok (.ireturn, 1) := by decide +kernel
theorem s_X11_number_13 {l1_4 : Int} {q : Int × xW} {k : Int → Int → xW → Option (Int × xW)} (hk : ∀ (l2_15 : Int) (l3_16 : Int) (s17 : xW), k l2_15 l3_16 s17 = some q → xG 2 0 0 mX11_number 59 [vR 121, vI l1_4, vI l2_15, vI l3_16] [] 155 s17 (xRv (vI q.1) q.2)) : ∀ (f : Nat) (l2_5 : Int) (l3_6 : Int) (s7 : xW), F_X11_number_13 l1_4 f l2_5 l3_6 s7 k = some q → xG 2 0 0 mX11_number 13 [vR 121, vI l1_4, vI l2_5, vI l3_6] [] 155 s7 (xRv (vI q.1) q.2) := by
  intro f
  induction f with
  | zero => intro l2_5 l3_6 s7 h; cases h
  | succ f ih =>
    intro l2_5 l3_6 s7 h
    unfold F_X11_number_13 at h
    refine g_iln dX11_number_13 rfl rfl ?_
    refine g_iln dX11_number_14 rfl rfl ?_
    refine g_wge dX11_number_15 (tgt := 59) rfl rfl rfl (fun q8 => ?_) (fun q8 => ?_)
    · replace h := xif_f q8 h
      exact hk l2_5 l3_6 s7 h
    · replace h := xif_t q8 h
      refine g_aln dX11_number_18 rfl rfl (by decide) ?_
      obtain ⟨r10, e9, h⟩ := xbp_e h
      refine g_cV0v dX11_number_19 ml_X11_177 rfl (s_X11_isDigit e9) (by decide) rfl ?_
      refine g_yeq dX11_number_22 (tgt := 59) rfl rfl (fun q11 => ?_) (fun q11 => ?_)
      · replace h := xif_f q11 h
        exact hk l2_5 l3_6 s7 h
      · replace h := xif_t q11 h
        refine g_bi dX11_number_25 (by decide) ?_
        refine g_iln dX11_number_27 rfl rfl ?_
        refine g_imul dX11_number_28 ?_
        refine g_aln dX11_number_29 rfl rfl (by decide) ?_
        refine g_getC 129 dX11_number_30 fl_X11_53 rfl (by decide) ?_
        refine g_aln dX11_number_33 rfl rfl (by decide) ?_
        refine g_getI 16 dX11_number_34 fl_X11_144 rfl rfl ?_
        obtain ⟨hg12, h⟩ := xgd_e h
        refine g_iald 80 dX11_number_37 rfl hg12 (by decide) ?_
        refine g_iadd dX11_number_38 ?_
        refine g_bi dX11_number_39 (by decide) ?_
        refine g_isub dX11_number_41 ?_
        refine g_istn_2 dX11_number_42 (by decide) rfl ?_
        refine g_aln dX11_number_43 rfl rfl (by decide) ?_
        refine g_dup dX11_number_44 rfl ?_
        refine g_getI 16 dX11_number_45 fl_X11_144 rfl rfl ?_
        refine g_ic dX11_number_48 ?_
        refine g_iadd dX11_number_49 ?_
        obtain ⟨s13, e14, h⟩ := xlt_e h
        refine h_putI 16 dX11_number_50 fl_X11_144 rfl rfl e14 ?_
        refine g_inc_3 dX11_number_53 (by decide) rfl ?_
        refine g_goto dX11_number_56 (tgt := 13) rfl ?_
        exact ih (((10 * l2_5) + (s7 129 (s7 121 16))) - 48) (l3_6 + 1) s13 h
theorem s_X11_number {a1 : Int} {s0 : xW} {q : Int × xW} (h : F_X11_number a1 s0 = some q) : xC 2 0 0 mX11_number [vR 121, vI a1] 155 s0 (xRv (vI q.1) q.2) := by
  refine xC.of [vR 121, vI a1, vX, vX] (by decide +kernel) (Nat.le_of_ble_eq_true rfl) rfl ?_
  unfold F_X11_number at h
  refine g_aln dX11_number_0 rfl rfl (by decide) ?_
  obtain ⟨r2, e1, h⟩ := xbp_e h
  refine g_cV0v dX11_number_1 ml_X11_177 rfl (s_X11_isDigit e1) (by decide) rfl ?_
  refine g_yne dX11_number_4 (tgt := 9) rfl rfl (fun q3 => ?_) (fun q3 => ?_)
  · replace h := xif_f q3 h
    refine g_ic dX11_number_9 ?_
    refine g_istn_2 dX11_number_10 (by decide) rfl ?_
    refine g_ic dX11_number_11 ?_
    refine g_istn_3 dX11_number_12 (by decide) rfl ?_
    refine s_X11_number_13 (fun l2_18 l3_19 s20 h => ?_) xN _ _ _ h
    refine g_iln dX11_number_59 rfl rfl ?_
    exact g_rI rfl dX11_number_60 h
  · replace h := xif_t q3 h
    refine g_ic dX11_number_7 ?_
    exact g_rI rfl dX11_number_8 h
theorem dX11_readsDigits_0 : decode cX11_readsDigits 0 = .ok (.aload_n 0, 1) := by decide +kernel
theorem dX11_readsDigits_1 : decode cX11_readsDigits 1 = .ok (.bipush 80, 2) := by decide +kernel
theorem dX11_readsDigits_3 : decode cX11_readsDigits 3 = .ok (.invokevirtual 201, 3) := by decide +kernel
theorem dX11_readsDigits_6 : decode cX11_readsDigits 6 = .ok (.pop, 1) := by decide +kernel
theorem dX11_readsDigits_7 : decode cX11_readsDigits 7 = .ok (.iconst 0, 1) := by decide +kernel
theorem dX11_readsDigits_8 : decode cX11_readsDigits 8 = .ok (.istore_n 1, 1) := by decide +kernel
theorem dX11_readsDigits_9 : decode cX11_readsDigits 9 = .ok (.iload_n 1, 1) := by decide +kernel
theorem dX11_readsDigits_10 : decode cX11_readsDigits 10 = .ok (.bipush 20, 2) := by decide +kernel
theorem dX11_readsDigits_12 : decode cX11_readsDigits 12 = .ok (.if_icmp .ge 27, 3) := by decide +kernel
theorem dX11_readsDigits_15 : decode cX11_readsDigits 15 = .ok (.aload_n 0, 1) := by decide +kernel
theorem dX11_readsDigits_16 : decode cX11_readsDigits 16 = .ok (.invokevirtual 177, 3) := by decide +kernel
theorem dX11_readsDigits_19 : decode cX11_readsDigits 19 = .ok (.ifCond .eq 20, 3) := by decide +kernel
theorem dX11_readsDigits_22 : decode cX11_readsDigits 22 = .ok (.aload_n 0, 1) := by decide +kernel
theorem dX11_readsDigits_23 : decode cX11_readsDigits 23 = .ok (.getfield 56, 3) := by decide +kernel
theorem dX11_readsDigits_26 : decode cX11_readsDigits 26 = .ok (.iload_n 1, 1) := by decide +kernel
theorem dX11_readsDigits_27 : decode cX11_readsDigits 27 = .ok (.aload_n 0, 1) := by decide +kernel
theorem dX11_readsDigits_28 : decode cX11_readsDigits 28 = .ok (.iconst 1, 1) := by decide +kernel
theorem dX11_readsDigits_29 : decode cX11_readsDigits 29 = .ok (.invokevirtual 184, 3) := by decide +kernel
theorem dX11_readsDigits_32 : decode cX11_readsDigits 32 = .ok (.iastore, 1) := by decide +kernel
theorem dX11_readsDigits_33 : decode cX11_readsDigits 33 = .ok (.iinc 1 1, 3) := by decide +kernel
theorem dX11_readsDigits_36 : decode cX11_readsDigits 36 = .ok (.goto (-27), 3) := by decide +kernel
theorem dX11_readsDigits_39 : decode cX11_readsDigits 39 = .ok (.iload_n 1, 1) := by decide +kernel
theorem dX11_readsDigits_40 : decode cX11_readsDigits 40 = .ok (.ifCond .eq 14, 3) := by decide +kernel
theorem dX11_readsDigits_43 : decode cX11_readsDigits 43 = .ok (.aload_n 0, 1) := by decide +kernel
theorem dX11_readsDigits_44 : decode cX11_readsDigits 44 = .ok (.getfield 144, 3) := by decide +kernel
theorem dX11_readsDigits_47 : decode cX11_readsDigits 47 = .ok (.aload_n 0, 1) := by decide +kernel
theorem dX11_readsDigits_48 : decode cX11_readsDigits 48 = .ok (.getfield 156, 3) := by decide +kernel
theorem dX11_readsDigits_51 : decode cX11_readsDigits 51 = .ok (.if_icmp .ge 12, 3) := by decide +kernel
theorem dX11_readsDigits_54 : decode cX11_readsDigits 54 = .ok (.iconst (-1), 1) := by decide +kernel
theorem dX11_readsDigits_55 : decode cX11_readsDigits 55 = .ok (.aload_n 0, 1) := by decide +kernel
theorem dX11_readsDigits_56 : decode cX11_readsDigits 56 = .ok (.getfield 144, 3) := by decide +kernel
theorem dX11_readsDigits_59 : decode cX11_readsDigits 59 = .ok (.isub, 1) := by decide +kernel
theorem dX11_readsDigits_60 : decode cX11_readsDigits 60 = .ok (.goto 4, 3) := by decide +kernel
theorem dX11_readsDigits_63 : decode cX11_readsDigits 63 = .ok (.iload_n 1, 1) := by decide +kernel
theorem dX11_readsDigits_64 : decode cX11_readsDigits 64 = .ok (.ireturn, 1) := by decide +kernel
theorem s_X11_readsDigits_9 {q : Int × xW} {k : Int → xW → Option (Int × xW)} (hk : ∀ (l1_16 : Int) (s17 : xW), k l1_16 s17 = some q → xG 3 0 0 mX11_readsDigits 39 [vR 121, vI l1_16] [] 155 s17 (xRv (vI q.1) q.2)) : ∀ (f : Nat) (l1_4 : Int) (s5 : xW), F_X11_readsDigits_9  f l1_4 s5 k = some q → xG 3 0 0 mX11_readsDigits 9 [vR 121, vI l1_4] [] 155 s5 (xRv (vI q.1) q.2) := by
  intro f
  induction f with
  | zero => intro l1_4 s5 h; cases h
  | succ f ih =>
    intro l1_4 s5 h
    unfold F_X11_readsDigits_9 at h
    refine g_iln dX11_readsDigits_9 rfl rfl ?_
    refine g_bi dX11_readsDigits_10 (by decide) ?_
    refine g_wge dX11_readsDigits_12 (tgt := 39) rfl rfl (xw_id (by decide)) (fun q6 => ?_) (fun q6 => ?_)
    · replace h := xif_f q6 h
      exact hk l1_4 s5 h
    · replace h := xif_t q6 h
      refine g_aln dX11_readsDigits_15 rfl rfl (by decide) ?_
      obtain ⟨r8, e7, h⟩ := xbp_e h
      refine g_cV0v dX11_readsDigits_16 ml_X11_177 rfl (s_X11_isDigit e7) (by decide) rfl ?_
      refine g_yeq dX11_readsDigits_19 (tgt := 39) rfl rfl (fun q9 => ?_) (fun q9 => ?_)
      · replace h := xif_f q9 h
        exact hk l1_4 s5 h
      · replace h := xif_t q9 h
        refine g_aln dX11_readsDigits_22 rfl rfl (by decide) ?_
        refine g_getC 130 dX11_readsDigits_23 fl_X11_56 rfl (by decide) ?_
        refine g_iln dX11_readsDigits_26 rfl rfl ?_
        refine g_aln dX11_readsDigits_27 rfl rfl (by decide) ?_
        refine g_ic dX11_readsDigits_28 ?_
        obtain ⟨r11, s12, e10, h⟩ := xbd_e h
        refine g_cV1v dX11_readsDigits_29 ml_X11_184 rfl (s_X11_number e10) (by decide) rfl ?_
        obtain ⟨hg13, h⟩ := xgd_e h
        obtain ⟨s14, e15, h⟩ := xlt_e h
        refine h_iast 24 dX11_readsDigits_32 rfl hg13 (by decide) e15 ?_
        refine g_inc_1 dX11_readsDigits_33 (by decide) rfl ?_
        refine g_goto dX11_readsDigits_36 (tgt := 9) rfl ?_
        exact ih (l1_4 + 1) s14 h
theorem s_X11_readsDigits {s0 : xW} {q : Int × xW} (h : F_X11_readsDigits  s0 = some q) : xC 3 0 0 mX11_readsDigits [vR 121] 155 s0 (xRv (vI q.1) q.2) := by
  refine xC.of [vR 121, vX] (by decide +kernel) (Nat.le_of_ble_eq_true rfl) rfl ?_
  unfold F_X11_readsDigits at h
  refine g_aln dX11_readsDigits_0 rfl rfl (by decide) ?_
  refine g_bi dX11_readsDigits_1 (by decide) ?_
  obtain ⟨r2, s3, e1, h⟩ := xbd_e h
  refine g_cV1v dX11_readsDigits_3 ml_X11_201 rfl (s_X11_begins e1) (by decide) rfl ?_
  refine g_pop dX11_readsDigits_6 rfl ?_
  refine g_ic dX11_readsDigits_7 ?_
  refine g_istn_1 dX11_readsDigits_8 (by decide) rfl ?_
  refine s_X11_readsDigits_9 (fun l1_18 s19 h => ?_) xN _ _ h
  refine g_iln dX11_readsDigits_39 rfl rfl ?_
  obtain ⟨v22, e23, h⟩ := xlt_e h
  have hj24 : xG 3 0 0 mX11_readsDigits 64 [vX, vX] [vI v22] 155 s19 (xRv (vI q.1) q.2) := by
    exact g_rI rfl dX11_readsDigits_64 h
  refine g_yeq dX11_readsDigits_40 (tgt := 54) rfl rfl (fun c20 => ?_) (fun c20 => ?_)
  · skip
    refine g_ic dX11_readsDigits_54 ?_
    refine g_aln dX11_readsDigits_55 rfl rfl (by decide) ?_
    refine g_getI 16 dX11_readsDigits_56 fl_X11_144 rfl rfl ?_
    refine g_isub dX11_readsDigits_59 ?_
    refine g_goto dX11_readsDigits_60 (tgt := 64) rfl ?_
    refine g_drop_0 ?_
    refine g_drop_1 ?_
    exact g_vq ((if_neg c20).symm.trans e23) hj24
  · skip
    refine g_aln dX11_readsDigits_43 rfl rfl (by decide) ?_
    refine g_getI 16 dX11_readsDigits_44 fl_X11_144 rfl rfl ?_
    refine g_aln dX11_readsDigits_47 rfl rfl (by decide) ?_
    refine g_getI 17 dX11_readsDigits_48 fl_X11_156 rfl rfl ?_
    refine g_wge dX11_readsDigits_51 (tgt := 63) rfl rfl rfl (fun c21 => ?_) (fun c21 => ?_)
    · skip
      refine g_iln dX11_readsDigits_63 rfl rfl ?_
      refine g_drop_0 ?_
      refine g_drop_1 ?_
      exact g_vq (((if_pos c20).trans (if_neg c21)).symm.trans e23) hj24
    · skip
      refine g_ic dX11_readsDigits_54 ?_
      refine g_aln dX11_readsDigits_55 rfl rfl (by decide) ?_
      refine g_getI 16 dX11_readsDigits_56 fl_X11_144 rfl rfl ?_
      refine g_isub dX11_readsDigits_59 ?_
      refine g_goto dX11_readsDigits_60 (tgt := 64) rfl ?_
      refine g_drop_0 ?_
      refine g_drop_1 ?_
      exact g_vq (((if_pos c20).trans (if_pos c21)).symm.trans e23) hj24
theorem dX11_damps_0 : decode cX11_damps 0 = .ok (.aload_n 0, 1) := by decide +kernel
theorem dX11_damps_1 : decode cX11_damps 1 = .ok (.iconst 0, 1) := by decide +kernel
theorem dX11_damps_2 : decode cX11_damps 2 = .ok (.putfield 3, 3) := by decide +kernel
theorem dX11_damps_5 : decode cX11_damps 5 = .ok (.aload_n 0, 1) := by decide +kernel
theorem dX11_damps_6 : decode cX11_damps 6 = .ok (.invokevirtual 231, 3) := by decide +kernel
theorem dX11_damps_9 : decode cX11_damps 9 = .ok (.istore_n 1, 1) := by decide +kernel
theorem dX11_damps_10 : decode cX11_damps 10 = .ok (.iload_n 1, 1) := by decide +kernel
theorem dX11_damps_11 : decode cX11_damps 11 = .ok (.ifCond .ge 5, 3) := by decide +kernel
theorem dX11_damps_14 : decode cX11_damps 14 = .ok (.iload_n 1, 1) := by decide +kernel
theorem dX11_damps_15 : decode cX11_damps 15 = .ok (.ireturn, 1) := by decide +kernel
theorem dX11_damps_16 : decode cX11_damps 16 = .ok (.aload_n 0, 1) := by decide +kernel
theorem dX11_damps_17 : decode cX11_damps 17 = .ok (.iload_n 1, 1) := by decide +kernel
theorem dX11_damps_18 : decode cX11_damps 18 = .ok (.putfield 31, 3) := by decide +kernel
theorem dX11_damps_21 : decode cX11_damps 21 = .ok (.iconst 0, 1) := by decide +kernel
theorem dX11_damps_22 : decode cX11_damps 22 = .ok (.istore_n 2, 1) := by decide +kernel
theorem dX11_damps_23 : decode cX11_damps 23 = .ok (.iload_n 2, 1) := by decide +kernel
theorem dX11_damps_24 : decode cX11_damps 24 = .ok (.iload_n 1, 1) := by decide +kernel
theorem dX11_damps_25 : decode cX11_damps 25 = .ok (.if_icmp .ge 21, 3) := by decide +kernel
theorem dX11_damps_28 : decode cX11_damps 28 = .ok (.aload_n 0, 1) := by decide +kernel
theorem dX11_damps_29 : decode cX11_damps 29 = .ok (.getfield 38, 3) := by decide +kernel
theorem dX11_damps_32 : decode cX11_damps 32 = .ok (.iload_n 2, 1) := by decide +kernel
theorem dX11_damps_33 : decode cX11_damps 33 = .ok (.aload_n 0, 1) := by decide +kernel
theorem dX11_damps_34 : decode cX11_damps 34 = .ok (.getfield 56, 3) := by decide +kernel
theorem dX11_damps_37 : decode cX11_damps 37 = .ok (.iload_n 2, 1) := by decide +kernel
theorem dX11_damps_38 : decode cX11_damps 38 = .ok (.iaload, 1) := by decide +kernel
theorem dX11_damps_39 : decode cX11_damps 39 = .ok (.iastore, 1) := by decide +kernel
theorem dX11_damps_40 : decode cX11_damps 40 = .ok (.iinc 2 1, 3) := by decide +kernel
theorem dX11_damps_43 : decode cX11_damps 43 = .ok (.goto (-20), 3) := by decide +kernel
theorem dX11_damps_46 : decode cX11_damps 46 = .ok (.iload_n 1, 1) := by decide +kernel
theorem dX11_damps_47 : decode cX11_damps 47 = .ok (.ireturn, 1) := by decide +kernel
theorem s_X11_damps_23 {l1_9 : Int} {q : Int × xW} {k : Int → xW → Option (Int × xW)} (hk : ∀ (l2_17 : Int) (s18 : xW), k l2_17 s18 = some q → xG 4 0 0 mX11_damps 46 [vR 121, vI l1_9, vI l2_17] [] 155 s18 (xRv (vI q.1) q.2)) : ∀ (f : Nat) (l2_10 : Int) (s11 : xW), F_X11_damps_23 l1_9 f l2_10 s11 k = some q → xG 4 0 0 mX11_damps 23 [vR 121, vI l1_9, vI l2_10] [] 155 s11 (xRv (vI q.1) q.2) := by
  intro f
  induction f with
  | zero => intro l2_10 s11 h; cases h
  | succ f ih =>
    intro l2_10 s11 h
    unfold F_X11_damps_23 at h
    refine g_iln dX11_damps_23 rfl rfl ?_
    refine g_iln dX11_damps_24 rfl rfl ?_
    refine g_wge dX11_damps_25 (tgt := 46) rfl rfl rfl (fun q12 => ?_) (fun q12 => ?_)
    · replace h := xif_f q12 h
      exact hk l2_10 s11 h
    · replace h := xif_t q12 h
      refine g_aln dX11_damps_28 rfl rfl (by decide) ?_
      refine g_getC 124 dX11_damps_29 fl_X11_38 rfl (by decide) ?_
      refine g_iln dX11_damps_32 rfl rfl ?_
      refine g_aln dX11_damps_33 rfl rfl (by decide) ?_
      refine g_getC 130 dX11_damps_34 fl_X11_56 rfl (by decide) ?_
      refine g_iln dX11_damps_37 rfl rfl ?_
      obtain ⟨hg13, h⟩ := xgd_e h
      refine g_iald 24 dX11_damps_38 rfl hg13 (by decide) ?_
      obtain ⟨hg14, h⟩ := xgd_e h
      obtain ⟨s15, e16, h⟩ := xlt_e h
      refine h_iast 20 dX11_damps_39 rfl hg14 (by decide) e16 ?_
      refine g_inc_2 dX11_damps_40 (by decide) rfl ?_
      refine g_goto dX11_damps_43 (tgt := 23) rfl ?_
      exact ih (l2_10 + 1) s15 h
theorem s_X11_damps {s0 : xW} {q : Int × xW} (h : F_X11_damps  s0 = some q) : xC 4 0 0 mX11_damps [vR 121] 155 s0 (xRv (vI q.1) q.2) := by
  refine xC.of [vR 121, vX, vX] (by decide +kernel) (Nat.le_of_ble_eq_true rfl) rfl ?_
  unfold F_X11_damps at h
  refine g_aln dX11_damps_0 rfl rfl (by decide) ?_
  refine g_ic dX11_damps_1 ?_
  obtain ⟨s1, e2, h⟩ := xlt_e h
  refine h_putI 0 dX11_damps_2 fl_X11_3 rfl rfl e2 ?_
  refine g_aln dX11_damps_5 rfl rfl (by decide) ?_
  obtain ⟨r4, s5, e3, h⟩ := xbd_e h
  refine g_cV0v dX11_damps_6 ml_X11_231 rfl (s_X11_readsDigits e3) (by decide) rfl ?_
  refine g_istn_1 dX11_damps_9 (by decide) rfl ?_
  refine g_iln dX11_damps_10 rfl rfl ?_
  refine g_yge dX11_damps_11 (tgt := 16) rfl rfl (fun q6 => ?_) (fun q6 => ?_)
  · replace h := xif_f q6 h
    refine g_aln dX11_damps_16 rfl rfl (by decide) ?_
    refine g_iln dX11_damps_17 rfl rfl ?_
    obtain ⟨s7, e8, h⟩ := xlt_e h
    refine h_putI 7 dX11_damps_18 fl_X11_31 rfl rfl e8 ?_
    refine g_ic dX11_damps_21 ?_
    refine g_istn_2 dX11_damps_22 (by decide) rfl ?_
    refine s_X11_damps_23 (fun l2_19 s20 h => ?_) xN _ _ h
    refine g_iln dX11_damps_46 rfl rfl ?_
    exact g_rI rfl dX11_damps_47 h
  · replace h := xif_t q6 h
    refine g_iln dX11_damps_14 rfl rfl ?_
    exact g_rI rfl dX11_damps_15 h
theorem dX11_dayGoes_0 : decode cX11_dayGoes 0 = .ok (.aload_n 1, 1) := by decide +kernel
theorem dX11_dayGoes_1 : decode cX11_dayGoes 1 = .ok (.bipush 36, 2) := by decide +kernel
theorem dX11_dayGoes_3 : decode cX11_dayGoes 3 = .ok (.iaload, 1) := by decide +kernel
theorem dX11_dayGoes_4 : decode cX11_dayGoes 4 = .ok (.ifCond .le 74, 3) := by decide +kernel
theorem dX11_dayGoes_7 : decode cX11_dayGoes 7 = .ok (.aload_n 0, 1) := by decide +kernel
theorem dX11_dayGoes_8 : decode cX11_dayGoes 8 = .ok (.aload_n 1, 1) := by decide +kernel
theorem dX11_dayGoes_9 : decode cX11_dayGoes 9 = .ok (.invokevirtual 336, 3) := by decide +kernel
theorem dX11_dayGoes_12 : decode cX11_dayGoes 12 = .ok (.istore_n 2, 1) := by decide +kernel
theorem dX11_dayGoes_13 : decode cX11_dayGoes 13 = .ok (.aload_n 1, 1) := by decide +kernel
theorem dX11_dayGoes_14 : decode cX11_dayGoes 14 = .ok (.bipush 36, 2) := by decide +kernel
theorem dX11_dayGoes_16 : decode cX11_dayGoes 16 = .ok (.dup2, 1) := by decide +kernel
theorem dX11_dayGoes_17 : decode cX11_dayGoes 17 = .ok (.iaload, 1) := by decide +kernel
theorem dX11_dayGoes_18 : decode cX11_dayGoes 18 = .ok (.iconst 1, 1) := by decide +kernel
theorem dX11_dayGoes_19 : decode cX11_dayGoes 19 = .ok (.isub, 1) := by decide +kernel
theorem dX11_dayGoes_20 : decode cX11_dayGoes 20 = .ok (.iastore, 1) := by decide +kernel
theorem dX11_dayGoes_21 : decode cX11_dayGoes 21 = .ok (.aload_n 1, 1) := by decide +kernel
theorem dX11_dayGoes_22 : decode cX11_dayGoes 22 = .ok (.bipush 37, 2) := by decide +kernel
theorem dX11_dayGoes_24 : decode cX11_dayGoes 24 = .ok (.sipush 9999, 3) := by decide +kernel
theorem dX11_dayGoes_27 : decode cX11_dayGoes 27 = .ok (.aload_n 1, 1) := by decide +kernel
theorem dX11_dayGoes_28 : decode cX11_dayGoes 28 = .ok (.bipush 37, 2) := by decide +kernel
theorem dX11_dayGoes_30 : decode cX11_dayGoes 30 = .ok (.iaload, 1) := by decide +kernel
theorem dX11_dayGoes_31 : decode cX11_dayGoes 31 = .ok (.iload_n 2, 1) := by decide +kernel
theorem dX11_dayGoes_32 : decode cX11_dayGoes 32 = .ok (.iadd, 1) := by decide +kernel
theorem dX11_dayGoes_33 : decode cX11_dayGoes 33 = .ok (.invokestatic 150, 3) := by decide +kernel
theorem dX11_dayGoes_36 : decode cX11_dayGoes 36 = .ok (.iastore, 1) := by decide +kernel
theorem dX11_dayGoes_37 : decode cX11_dayGoes 37 = .ok (.aload_n 0, 1) := by decide +kernel
theorem dX11_dayGoes_38 : decode cX11_dayGoes 38 = .ok (.dup, 1) := by decide +kernel
theorem dX11_dayGoes_39 : decode cX11_dayGoes 39 = .ok (.getfield 340, 3) := by decide +kernel
theorem dX11_dayGoes_42 : decode cX11_dayGoes 42 = .ok (.iload_n 2, 1) := by decide +kernel
theorem dX11_dayGoes_43 : decode cX11_dayGoes 43 = .ok (.iadd, 1) := by decide +kernel
theorem dX11_dayGoes_44 : decode cX11_dayGoes 44 = .ok (.putfield 340, 3) := by decide +kernel
theorem dX11_dayGoes_47 : decode cX11_dayGoes 47 = .ok (.iconst 0, 1) := by decide +kernel
theorem dX11_dayGoes_48 : decode cX11_dayGoes 48 = .ok (.istore_n 3, 1) := by decide +kernel
theorem dX11_dayGoes_49 : decode cX11_dayGoes 49 = .ok (.iload_n 3, 1) := by decide +kernel
theorem dX11_dayGoes_50 : decode cX11_dayGoes 50 = .ok (.aload_n 0, 1) := by decide +kernel
theorem dX11_dayGoes_51 : decode cX11_dayGoes 51 = .ok (.getfield 129, 3) := by decide +kernel
theorem dX11_dayGoes_54 : decode cX11_dayGoes 54 = .ok (.if_icmp .ge 21, 3) := by decide +kernel
theorem dX11_dayGoes_57 : decode cX11_dayGoes 57 = .ok (.aload_n 1, 1) := by decide +kernel
theorem dX11_dayGoes_58 : decode cX11_dayGoes 58 = .ok (.bipush 16, 2) := by decide +kernel
theorem dX11_dayGoes_60 : decode cX11_dayGoes 60 = .ok (.iload_n 3, 1) := by decide +kernel
theorem dX11_dayGoes_61 : decode cX11_dayGoes 61 = .ok (.iadd, 1) := by decide +kernel
theorem dX11_dayGoes_62 : decode cX11_dayGoes 62 = .ok (.aload_n 0, 1) := by decide +kernel
theorem dX11_dayGoes_63 : decode cX11_dayGoes 63 = .ok (.aload_n 1, 1) := by decide +kernel
theorem dX11_dayGoes_64 : decode cX11_dayGoes 64 = .ok (.iload_n 3, 1) := by decide +kernel
theorem dX11_dayGoes_65 : decode cX11_dayGoes 65 = .ok (.invokevirtual 292, 3) := by decide +kernel
theorem dX11_dayGoes_68 : decode cX11_dayGoes 68 = .ok (.iastore, 1) := by decide +kernel
theorem dX11_dayGoes_69 : decode cX11_dayGoes 69 = .ok (.iinc 3 1, 3) := by decide +kernel
theorem dX11_dayGoes_72 : decode cX11_dayGoes 72 = .ok (.goto (-23), 3) := by decide +kernel
theorem dX11_dayGoes_75 : decode cX11_dayGoes 75 = .ok (.goto 29, 3) := by decide +kernel
theorem dX11_dayGoes_78 : decode cX11_dayGoes 78 = .ok (.aload_n 1, 1) := by decide +kernel
theorem dX11_dayGoes_79 : decode cX11_dayGoes 79 = .ok (.bipush 38, 2) := by decide +kernel
theorem dX11_dayGoes_81 : decode cX11_dayGoes 81 = .ok (.sipush 999, 3) := by decide +kernel
theorem dX11_dayGoes_84 : decode cX11_dayGoes 84 = .ok (.aload_n 1, 1) := by decide +kernel
theorem dX11_dayGoes_85 : decode cX11_dayGoes 85 = .ok (.bipush 38, 2) := by decide +kernel
theorem dX11_dayGoes_87 : decode cX11_dayGoes 87 = .ok (.iaload, 1) := by decide +kernel
theorem dX11_dayGoes_88 : decode cX11_dayGoes 88 = .ok (.iconst 1, 1) := by decide +kernel
theorem dX11_dayGoes_89 : decode cX11_dayGoes 89 = .ok (.iadd, 1) := by decide +kernel
theorem dX11_dayGoes_90 : decode cX11_dayGoes 90 = .ok (.invokestatic 150, 3) := by decide +kernel
theorem dX11_dayGoes_93 : decode cX11_dayGoes 93 = .ok (.iastore, 1) := by decide +kernel
theorem dX11_dayGoes_94 : decode cX11_dayGoes 94 = .ok (.aload_n 0, 1) := by decide +kernel
theorem dX11_dayGoes_95 : decode cX11_dayGoes 95 = .ok (.dup, 1) := by decide +kernel
theorem dX11_dayGoes_96 : decode cX11_dayGoes 96 = .ok (.getfield 343, 3) := by decide +kernel
theorem dX11_dayGoes_99 : decode cX11_dayGoes 99 = .ok (.iconst 1, 1) := by decide +kernel
theorem dX11_dayGoes_100 : decode cX11_dayGoes 100 = .ok (.iadd, 1) := by decide +kernel
theorem dX11_dayGoes_101 : decode cX11_dayGoes 101 = .ok (.putfield 343, 3) := by decide +kernel
theorem dX11_dayGoes_104 : decode cX11_dayGoes 104 = .ok (.aload_n 1, 1) := by decide +kernel
theorem dX11_dayGoes_105 : decode cX11_dayGoes 105 = .ok (.bipush 39, 2) := by decide +kernel
theorem dX11_dayGoes_107 : decode cX11_dayGoes 107 = .ok (.dup2, 1) := by decide +kernel
theorem dX11_dayGoes_108 : decode cX11_dayGoes 108 = .ok (.iaload, 1) := by decide +kernel
theorem dX11_dayGoes_109 : decode cX11_dayGoes 109 = .ok (.iconst 1, 1) := by decide +kernel
theorem dX11_dayGoes_110 : decode cX11_dayGoes 110 = .ok (.iadd, 1) := by decide +kernel
theorem dX11_dayGoes_111 : decode cX11_dayGoes 111 = .ok (.iastore, 1) := by decide +kernel
theorem dX11_dayGoes_112 : decode cX11_dayGoes 112 = .ok (.return_, 1) := by decide +kernel
theorem s_X11_dayGoes_49 {l1_21 : Int} (hm22 : l1_21 ∈ xNows) {q : xW} {k : Int → xW → Option (xW)} (hk : ∀ (l3_32 : Int) (s33 : xW), k l3_32 s33 = some q → xG 7 0 0 mX11_dayGoes 75 [vR 121, vR l1_21, vX, vI l3_32] [] 155 s33 (xR0 q)) : ∀ (f : Nat) (l3_23 : Int) (s24 : xW), F_X11_dayGoes_49 l1_21 f l3_23 s24 k = some q → xG 7 0 0 mX11_dayGoes 49 [vR 121, vR l1_21, vX, vI l3_23] [] 155 s24 (xR0 q) := by
  intro f
  induction f with
  | zero => intro l3_23 s24 h; cases h
  | succ f ih =>
    intro l3_23 s24 h
    unfold F_X11_dayGoes_49 at h
    refine g_iln dX11_dayGoes_49 rfl rfl ?_
    refine g_aln dX11_dayGoes_50 rfl rfl (by decide) ?_
    refine g_getI 3 dX11_dayGoes_51 fl_X11_129 rfl rfl ?_
    refine g_wge dX11_dayGoes_54 (tgt := 75) rfl rfl rfl (fun q25 => ?_) (fun q25 => ?_)
    · replace h := xif_f q25 h
      exact hk l3_23 s24 h
    · replace h := xif_t q25 h
      refine g_aln dX11_dayGoes_57 rfl rfl (xf_now_39 _ hm22) ?_
      refine g_bi dX11_dayGoes_58 (by decide) ?_
      refine g_iln dX11_dayGoes_60 rfl rfl ?_
      refine g_iadd dX11_dayGoes_61 ?_
      refine g_aln dX11_dayGoes_62 rfl rfl (by decide) ?_
      refine g_aln dX11_dayGoes_63 rfl rfl (xf_now_39 _ hm22) ?_
      refine g_iln dX11_dayGoes_64 rfl rfl ?_
      obtain ⟨r27, s28, e26, h⟩ := xbd_e h
      refine g_cV2v dX11_dayGoes_65 ml_X11_292 rfl (s_X11_hears e26) (by decide) rfl ?_
      obtain ⟨hg29, h⟩ := xgd_e h
      obtain ⟨s30, e31, h⟩ := xlt_e h
      refine h_iast 40 dX11_dayGoes_68 (xf_now_40 _ hm22) hg29 (by decide) e31 ?_
      refine g_inc_3 dX11_dayGoes_69 (by decide) rfl ?_
      refine g_goto dX11_dayGoes_72 (tgt := 49) rfl ?_
      exact ih (l3_23 + 1) s30 h
theorem s_X11_dayGoes {a1 : Int} {s0 : xW} {q : xW} (h : F_X11_dayGoes a1 s0 = some q) : xC 7 0 0 mX11_dayGoes [vR 121, vR a1] 155 s0 (xR0 q) := by
  refine xC.of [vR 121, vR a1, vX, vX] (by decide +kernel) (Nat.le_of_ble_eq_true rfl) rfl ?_
  unfold F_X11_dayGoes at h
  obtain ⟨hm1, h⟩ := xgd_e h
  refine g_aln dX11_dayGoes_0 rfl rfl (xf_now_39 _ hm1) ?_
  refine g_bi dX11_dayGoes_1 (by decide) ?_
  refine g_iald 40 dX11_dayGoes_3 (xf_now_40 _ hm1) (by decide) (by decide) ?_
  obtain ⟨j2, ej3, h⟩ := xjn_e h
  have hj4 : ∀ (s1 : xW), j2 s1 = some q → xG 7 0 0 mX11_dayGoes 104 [vX, vR a1, vX, vX] [] 155 s1 (xR0 q) := by
    intro s1 h
    rw [ej3] at h
    refine g_aln dX11_dayGoes_104 rfl rfl (xf_now_39 _ hm1) ?_
    refine g_bi dX11_dayGoes_105 (by decide) ?_
    refine g_dup2 dX11_dayGoes_107 rfl rfl ?_
    refine g_iald 40 dX11_dayGoes_108 (xf_now_40 _ hm1) (by decide) (by decide) ?_
    refine g_ic dX11_dayGoes_109 ?_
    refine g_iadd dX11_dayGoes_110 ?_
    obtain ⟨s5, e6, h⟩ := xlt_e h
    refine h_iast 40 dX11_dayGoes_111 (xf_now_40 _ hm1) (by decide) (by decide) e6 ?_
    exact g_rV rfl dX11_dayGoes_112 h
  clear ej3
  refine g_yle dX11_dayGoes_4 (tgt := 78) rfl rfl (fun q7 => ?_) (fun q7 => ?_)
  · replace h := xif_f q7 h
    refine g_aln dX11_dayGoes_78 rfl rfl (xf_now_39 _ hm1) ?_
    refine g_bi dX11_dayGoes_79 (by decide) ?_
    refine g_si dX11_dayGoes_81 (by decide) ?_
    refine g_aln dX11_dayGoes_84 rfl rfl (xf_now_39 _ hm1) ?_
    refine g_bi dX11_dayGoes_85 (by decide) ?_
    refine g_iald 40 dX11_dayGoes_87 (xf_now_40 _ hm1) (by decide) (by decide) ?_
    refine g_ic dX11_dayGoes_88 ?_
    refine g_iadd dX11_dayGoes_89 ?_
    refine g_wmin dX11_dayGoes_90 mx_X11_150 (xw_id (by decide)) rfl (by decide) rfl ?_
    obtain ⟨s8, e9, h⟩ := xlt_e h
    refine h_iast 40 dX11_dayGoes_93 (xf_now_40 _ hm1) (by decide) (by decide) e9 ?_
    refine g_aln dX11_dayGoes_94 rfl rfl (by decide) ?_
    refine g_dup dX11_dayGoes_95 rfl ?_
    refine g_getI 31 dX11_dayGoes_96 fl_X11_343 rfl rfl ?_
    refine g_ic dX11_dayGoes_99 ?_
    refine g_iadd dX11_dayGoes_100 ?_
    obtain ⟨s10, e11, h⟩ := xlt_e h
    refine h_putI 31 dX11_dayGoes_101 fl_X11_343 rfl rfl e11 ?_
    refine g_drop_0 ?_
    exact hj4 s10 h
  · replace h := xif_t q7 h
    refine g_aln dX11_dayGoes_7 rfl rfl (by decide) ?_
    refine g_aln dX11_dayGoes_8 rfl rfl (xf_now_39 _ hm1) ?_
    obtain ⟨r13, s14, e12, h⟩ := xbd_e h
    refine g_cV1v dX11_dayGoes_9 ml_X11_336 rfl (s_X11_clashesOn e12) (by decide) rfl ?_
    refine g_istn_2 dX11_dayGoes_12 (by decide) rfl ?_
    refine g_aln dX11_dayGoes_13 rfl rfl (xf_now_39 _ hm1) ?_
    refine g_bi dX11_dayGoes_14 (by decide) ?_
    refine g_dup2 dX11_dayGoes_16 rfl rfl ?_
    refine g_iald 40 dX11_dayGoes_17 (xf_now_40 _ hm1) (by decide) (by decide) ?_
    refine g_ic dX11_dayGoes_18 ?_
    refine g_isub dX11_dayGoes_19 ?_
    obtain ⟨s15, e16, h⟩ := xlt_e h
    refine h_iast 40 dX11_dayGoes_20 (xf_now_40 _ hm1) (by decide) (by decide) e16 ?_
    refine g_aln dX11_dayGoes_21 rfl rfl (xf_now_39 _ hm1) ?_
    refine g_bi dX11_dayGoes_22 (by decide) ?_
    refine g_si dX11_dayGoes_24 (by decide) ?_
    refine g_aln dX11_dayGoes_27 rfl rfl (xf_now_39 _ hm1) ?_
    refine g_bi dX11_dayGoes_28 (by decide) ?_
    refine g_iald 40 dX11_dayGoes_30 (xf_now_40 _ hm1) (by decide) (by decide) ?_
    refine g_iln dX11_dayGoes_31 rfl rfl ?_
    refine g_iadd dX11_dayGoes_32 ?_
    refine g_wmin dX11_dayGoes_33 mx_X11_150 (xw_id (by decide)) rfl (by decide) rfl ?_
    obtain ⟨s17, e18, h⟩ := xlt_e h
    refine h_iast 40 dX11_dayGoes_36 (xf_now_40 _ hm1) (by decide) (by decide) e18 ?_
    refine g_aln dX11_dayGoes_37 rfl rfl (by decide) ?_
    refine g_dup dX11_dayGoes_38 rfl ?_
    refine g_getI 30 dX11_dayGoes_39 fl_X11_340 rfl rfl ?_
    refine g_iln dX11_dayGoes_42 rfl rfl ?_
    refine g_iadd dX11_dayGoes_43 ?_
    obtain ⟨s19, e20, h⟩ := xlt_e h
    refine h_putI 30 dX11_dayGoes_44 fl_X11_340 rfl rfl e20 ?_
    refine g_ic dX11_dayGoes_47 ?_
    refine g_istn_3 dX11_dayGoes_48 (by decide) rfl ?_
    refine g_drop_2 ?_
    refine s_X11_dayGoes_49 hm1 (fun l3_34 s35 h => ?_) xN _ _ h
    refine g_goto dX11_dayGoes_75 (tgt := 104) rfl ?_
    refine g_drop_0 ?_
    refine g_drop_3 ?_
    exact hj4 s35 h
theorem dX11_goesOn_0 : decode cX11_goesOn 0 = .ok (.aload_n 0, 1) := by decide +kernel
theorem dX11_goesOn_1 : decode cX11_goesOn 1 = .ok (.iconst 0, 1) := by decide +kernel
theorem dX11_goesOn_2 : decode cX11_goesOn 2 = .ok (.putfield 340, 3) := by decide +kernel
theorem dX11_goesOn_5 : decode cX11_goesOn 5 = .ok (.aload_n 0, 1) := by decide +kernel
theorem dX11_goesOn_6 : decode cX11_goesOn 6 = .ok (.iconst 0, 1) := by decide +kernel
theorem dX11_goesOn_7 : decode cX11_goesOn 7 = .ok (.putfield 343, 3) := by decide +kernel
theorem dX11_goesOn_10 : decode cX11_goesOn 10 = .ok (.iconst 0, 1) := by decide +kernel
theorem dX11_goesOn_11 : decode cX11_goesOn 11 = .ok (.istore_n 3, 1) := by decide +kernel
theorem dX11_goesOn_12 : decode cX11_goesOn 12 = .ok (.iload_n 3, 1) := by decide +kernel
theorem dX11_goesOn_13 : decode cX11_goesOn 13 = .ok (.iload_n 2, 1) := by decide +kernel
theorem dX11_goesOn_14 : decode cX11_goesOn 14 = .ok (.if_icmp .ge 14, 3) := by decide +kernel
theorem dX11_goesOn_17 : decode cX11_goesOn 17 = .ok (.aload_n 0, 1) := by decide +kernel
theorem dX11_goesOn_18 : decode cX11_goesOn 18 = .ok (.aload_n 1, 1) := by decide +kernel
theorem dX11_goesOn_19 : decode cX11_goesOn 19 = .ok (.invokevirtual 346, 3) := by decide +kernel
theorem dX11_goesOn_22 : decode cX11_goesOn 22 = .ok (.iinc 3 1, 3) := by decide +kernel
theorem dX11_goesOn_25 : decode cX11_goesOn 25 = .ok (.goto (-13), 3) := by decide +kernel
theorem dX11_goesOn_28 : decode cX11_goesOn 28 = .ok (.return_, 1) := by decide +kernel
theorem s_X11_goesOn_12 {l1_5 l2_7 : Int} (hm6 : l1_5 ∈ xNows) {q : xW} {k : Int → xW → Option (xW)} (hk : ∀ (l3_13 : Int) (s14 : xW), k l3_13 s14 = some q → xG 8 0 0 mX11_goesOn 28 [vR 121, vR l1_5, vI l2_7, vI l3_13] [] 155 s14 (xR0 q)) : ∀ (f : Nat) (l3_8 : Int) (s9 : xW), F_X11_goesOn_12 l1_5 l2_7 f l3_8 s9 k = some q → xG 8 0 0 mX11_goesOn 12 [vR 121, vR l1_5, vI l2_7, vI l3_8] [] 155 s9 (xR0 q) := by
  intro f
  induction f with
  | zero => intro l3_8 s9 h; cases h
  | succ f ih =>
    intro l3_8 s9 h
    unfold F_X11_goesOn_12 at h
    refine g_iln dX11_goesOn_12 rfl rfl ?_
    refine g_iln dX11_goesOn_13 rfl rfl ?_
    refine g_wge dX11_goesOn_14 (tgt := 28) rfl rfl rfl (fun q10 => ?_) (fun q10 => ?_)
    · replace h := xif_f q10 h
      exact hk l3_8 s9 h
    · replace h := xif_t q10 h
      refine g_aln dX11_goesOn_17 rfl rfl (by decide) ?_
      refine g_aln dX11_goesOn_18 rfl rfl (xf_now_39 _ hm6) ?_
      obtain ⟨s12, e11, h⟩ := xbp_e h
      refine g_cV10 dX11_goesOn_19 ml_X11_346 rfl (s_X11_dayGoes e11) (by decide) rfl ?_
      refine g_inc_3 dX11_goesOn_22 (by decide) rfl ?_
      refine g_goto dX11_goesOn_25 (tgt := 12) rfl ?_
      exact ih (l3_8 + 1) s12 h
theorem s_X11_goesOn {a1 a2 : Int} {s0 : xW} {q : xW} (h : F_X11_goesOn a1 a2 s0 = some q) : xC 8 0 0 mX11_goesOn [vR 121, vR a1, vI a2] 155 s0 (xR0 q) := by
  refine xC.of [vR 121, vR a1, vI a2, vX] (by decide +kernel) (Nat.le_of_ble_eq_true rfl) rfl ?_
  unfold F_X11_goesOn at h
  obtain ⟨hm1, h⟩ := xgd_e h
  refine g_aln dX11_goesOn_0 rfl rfl (by decide) ?_
  refine g_ic dX11_goesOn_1 ?_
  obtain ⟨s1, e2, h⟩ := xlt_e h
  refine h_putI 30 dX11_goesOn_2 fl_X11_340 rfl rfl e2 ?_
  refine g_aln dX11_goesOn_5 rfl rfl (by decide) ?_
  refine g_ic dX11_goesOn_6 ?_
  obtain ⟨s3, e4, h⟩ := xlt_e h
  refine h_putI 31 dX11_goesOn_7 fl_X11_343 rfl rfl e4 ?_
  refine g_ic dX11_goesOn_10 ?_
  refine g_istn_3 dX11_goesOn_11 (by decide) rfl ?_
  refine s_X11_goesOn_12 hm1 (fun l3_15 s16 h => ?_) xN _ _ h
  exact g_rV rfl dX11_goesOn_28 h
theorem dX11_days_0 : decode cX11_days 0 = .ok (.aload_n 0, 1) := by decide +kernel
theorem dX11_days_1 : decode cX11_days 1 = .ok (.iconst 0, 1) := by decide +kernel
theorem dX11_days_2 : decode cX11_days 2 = .ok (.putfield 3, 3) := by decide +kernel
theorem dX11_days_5 : decode cX11_days 5 = .ok (.iload_n 1, 1) := by decide +kernel
theorem dX11_days_6 : decode cX11_days 6 = .ok (.i2l, 1) := by decide +kernel
theorem dX11_days_7 : decode cX11_days 7 = .ok (.lconst 0, 1) := by decide +kernel
theorem dX11_days_8 : decode cX11_days 8 = .ok (.ldc2_w 359, 3) := by decide +kernel
theorem dX11_days_11 : decode cX11_days 11 = .ok (.invokestatic 132, 3) := by decide +kernel
theorem dX11_days_14 : decode cX11_days 14 = .ok (.ifCond .ne 5, 3) := by decide +kernel
theorem dX11_days_17 : decode cX11_days 17 = .ok (.iconst (-1), 1) := by decide +kernel
theorem dX11_days_18 : decode cX11_days 18 = .ok (.ireturn, 1) := by decide +kernel
theorem dX11_days_19 : decode cX11_days 19 = .ok (.aload_n 0, 1) := by decide +kernel
theorem dX11_days_20 : decode cX11_days 20 = .ok (.invokevirtual 361, 3) := by decide +kernel
theorem dX11_days_23 : decode cX11_days 23 = .ok (.aload_n 0, 1) := by decide +kernel
theorem dX11_days_24 : decode cX11_days 24 = .ok (.aload_n 0, 1) := by decide +kernel
theorem dX11_days_25 : decode cX11_days 25 = .ok (.getfield 47, 3) := by decide +kernel
theorem dX11_days_28 : decode cX11_days 28 = .ok (.iload_n 1, 1) := by decide +kernel
theorem dX11_days_29 : decode cX11_days 29 = .ok (.invokevirtual 364, 3) := by decide +kernel
theorem dX11_days_32 : decode cX11_days 32 = .ok (.aload_n 0, 1) := by decide +kernel
theorem dX11_days_33 : decode cX11_days 33 = .ok (.iconst 0, 1) := by decide +kernel
theorem dX11_days_34 : decode cX11_days 34 = .ok (.putfield 15, 3) := by decide +kernel
theorem dX11_days_37 : decode cX11_days 37 = .ok (.aload_n 0, 1) := by decide +kernel
theorem dX11_days_38 : decode cX11_days 38 = .ok (.aload_n 0, 1) := by decide +kernel
theorem dX11_days_39 : decode cX11_days 39 = .ok (.getfield 340, 3) := by decide +kernel
theorem dX11_days_42 : decode cX11_days 42 = .ok (.i2l, 1) := by decide +kernel
theorem dX11_days_43 : decode cX11_days 43 = .ok (.invokevirtual 18, 3) := by decide +kernel
theorem dX11_days_46 : decode cX11_days 46 = .ok (.aload_n 0, 1) := by decide +kernel
theorem dX11_days_47 : decode cX11_days 47 = .ok (.aload_n 0, 1) := by decide +kernel
theorem dX11_days_48 : decode cX11_days 48 = .ok (.getfield 343, 3) := by decide +kernel
theorem dX11_days_51 : decode cX11_days 51 = .ok (.i2l, 1) := by decide +kernel
theorem dX11_days_52 : decode cX11_days 52 = .ok (.invokevirtual 18, 3) := by decide +kernel
theorem dX11_days_55 : decode cX11_days 55 = .ok (.aload_n 0, 1) := by decide +kernel
theorem dX11_days_56 : decode cX11_days 56 = .ok (.aload_n 0, 1) := by decide +kernel
theorem dX11_days_57 : decode cX11_days 57 = .ok (.getfield 47, 3) := by decide +kernel
theorem dX11_days_60 : decode cX11_days 60 = .ok (.bipush 36, 2) := by decide +kernel
theorem dX11_days_62 : decode cX11_days 62 = .ok (.iaload, 1) := by decide +kernel
theorem dX11_days_63 : decode cX11_days 63 = .ok (.invokevirtual 333, 3) := by decide +kernel
theorem dX11_days_66 : decode cX11_days 66 = .ok (.ireturn, 1) := by decide +kernel
theorem s_X11_days {a1 : Int} {s0 : xW} {q : Int × xW} (h : F_X11_days a1 s0 = some q) : xC 9 0 0 mX11_days [vR 121, vI a1] 155 s0 (xRv (vI q.1) q.2) := by
  refine xC.of [vR 121, vI a1] (by decide +kernel) (Nat.le_of_ble_eq_true rfl) rfl ?_
  unfold F_X11_days at h
  refine g_aln dX11_days_0 rfl rfl (by decide) ?_
  refine g_ic dX11_days_1 ?_
  obtain ⟨s1, e2, h⟩ := xlt_e h
  refine h_putI 0 dX11_days_2 fl_X11_3 rfl rfl e2 ?_
  refine g_iln dX11_days_5 rfl rfl ?_
  refine g_wi2l dX11_days_6 rfl ?_
  refine g_lc dX11_days_7 (w := 0) rfl ?_
  refine g_ldc2 dX11_days_8 ct_X11_359 (w := 60) rfl ?_
  obtain ⟨r4, e3, h⟩ := xbp_e h
  refine g_cS3v dX11_days_11 ml_X11_132 (s_X11_in e3) (by decide) rfl ?_
  refine g_yne dX11_days_14 (tgt := 19) rfl rfl (fun q5 => ?_) (fun q5 => ?_)
  · replace h := xif_f q5 h
    refine g_aln dX11_days_19 rfl rfl (by decide) ?_
    obtain ⟨s7, e6, h⟩ := xbp_e h
    refine g_cV00 dX11_days_20 ml_X11_361 rfl (s_X11_putsBy e6) (by decide) rfl ?_
    refine g_aln dX11_days_23 rfl rfl (by decide) ?_
    refine g_aln dX11_days_24 rfl rfl (by decide) ?_
    refine g_getC 127 dX11_days_25 fl_X11_47 rfl (by decide) ?_
    refine g_iln dX11_days_28 rfl rfl ?_
    obtain ⟨s9, e8, h⟩ := xbp_e h
    refine g_cV20 dX11_days_29 ml_X11_364 rfl (s_X11_goesOn e8) (by decide) rfl ?_
    refine g_aln dX11_days_32 rfl rfl (by decide) ?_
    refine g_ic dX11_days_33 ?_
    obtain ⟨s10, e11, h⟩ := xlt_e h
    refine h_putI 1 dX11_days_34 fl_X11_15 rfl rfl e11 ?_
    refine g_aln dX11_days_37 rfl rfl (by decide) ?_
    refine g_aln dX11_days_38 rfl rfl (by decide) ?_
    refine g_getI 30 dX11_days_39 fl_X11_340 rfl rfl ?_
    refine g_wi2l dX11_days_42 rfl ?_
    obtain ⟨s13, e12, h⟩ := xbp_e h
    refine g_cV10 dX11_days_43 ml_X11_18 rfl (s_X11_enters e12) (by decide) rfl ?_
    refine g_aln dX11_days_46 rfl rfl (by decide) ?_
    refine g_aln dX11_days_47 rfl rfl (by decide) ?_
    refine g_getI 31 dX11_days_48 fl_X11_343 rfl rfl ?_
    refine g_wi2l dX11_days_51 rfl ?_
    obtain ⟨s15, e14, h⟩ := xbp_e h
    refine g_cV10 dX11_days_52 ml_X11_18 rfl (s_X11_enters e14) (by decide) rfl ?_
    refine g_aln dX11_days_55 rfl rfl (by decide) ?_
    refine g_aln dX11_days_56 rfl rfl (by decide) ?_
    refine g_getC 127 dX11_days_57 fl_X11_47 rfl (by decide) ?_
    refine g_bi dX11_days_60 (by decide) ?_
    refine g_iald 40 dX11_days_62 rfl (by decide) (by decide) ?_
    obtain ⟨r17, s18, e16, h⟩ := xbd_e h
    refine g_cV1v dX11_days_63 ml_X11_333 rfl (s_X11_adds e16) (by decide) rfl ?_
    exact g_rI rfl dX11_days_66 h
  · replace h := xif_t q5 h
    refine g_ic dX11_days_17 ?_
    exact g_rI rfl dX11_days_18 h
theorem dX11_isDeed_0 : decode cX11_isDeed 0 = .ok (.iload_n 1, 1) := by decide +kernel
theorem dX11_isDeed_1 : decode cX11_isDeed 1 = .ok (.i2l, 1) := by decide +kernel
theorem dX11_isDeed_2 : decode cX11_isDeed 2 = .ok (.lconst 0, 1) := by decide +kernel
theorem dX11_isDeed_3 : decode cX11_isDeed 3 = .ok (.aload_n 0, 1) := by decide +kernel
theorem dX11_isDeed_4 : decode cX11_isDeed 4 = .ok (.getfield 136, 3) := by decide +kernel
theorem dX11_isDeed_7 : decode cX11_isDeed 7 = .ok (.iconst 1, 1) := by decide +kernel
theorem dX11_isDeed_8 : decode cX11_isDeed 8 = .ok (.isub, 1) := by decide +kernel
theorem dX11_isDeed_9 : decode cX11_isDeed 9 = .ok (.i2l, 1) := by decide +kernel
theorem dX11_isDeed_10 : decode cX11_isDeed 10 = .ok (.invokestatic 132, 3) := by decide +kernel
theorem dX11_isDeed_13 : decode cX11_isDeed 13 = .ok (.ireturn, 1) := by decide +kernel
theorem s_X11_isDeed {a1 : Int} {s0 : xW} {q : Int} (h : F_X11_isDeed a1 s0 = some q) : xC 1 0 0 mX11_isDeed [vR 121, vI a1] 155 s0 (xRv (vI q) s0) := by
  refine xC.of [vR 121, vI a1] (by decide +kernel) (Nat.le_of_ble_eq_true rfl) rfl ?_
  unfold F_X11_isDeed at h
  refine g_iln dX11_isDeed_0 rfl rfl ?_
  refine g_wi2l dX11_isDeed_1 rfl ?_
  refine g_lc dX11_isDeed_2 (w := 0) rfl ?_
  refine g_aln dX11_isDeed_3 rfl rfl (by decide) ?_
  refine g_getI 4 dX11_isDeed_4 fl_X11_136 rfl rfl ?_
  refine g_ic dX11_isDeed_7 ?_
  refine g_isub dX11_isDeed_8 ?_
  refine g_wi2l dX11_isDeed_9 rfl ?_
  obtain ⟨r2, e1, h⟩ := xbp_e h
  refine g_cS3v dX11_isDeed_10 ml_X11_132 (s_X11_in e1) (by decide) rfl ?_
  obtain ⟨hg3, h⟩ := xgd_e h
  exact g_pZ rfl dX11_isDeed_13 hg3 h
theorem dX11_refuse_0 : decode cX11_refuse 0 = .ok (.aload_n 0, 1) := by decide +kernel
theorem dX11_refuse_1 : decode cX11_refuse 1 = .ok (.iconst 1, 1) := by decide +kernel
theorem dX11_refuse_2 : decode cX11_refuse 2 = .ok (.putfield 3, 3) := by decide +kernel
theorem dX11_refuse_5 : decode cX11_refuse 5 = .ok (.iconst 0, 1) := by decide +kernel
theorem dX11_refuse_6 : decode cX11_refuse 6 = .ok (.ireturn, 1) := by decide +kernel
theorem s_X11_refuse {s0 : xW} {q : Int × xW} (h : F_X11_refuse  s0 = some q) : xC 0 0 0 mX11_refuse [vR 121] 155 s0 (xRv (vI q.1) q.2) := by
  refine xC.of [vR 121] (by decide +kernel) (Nat.le_of_ble_eq_true rfl) rfl ?_
  unfold F_X11_refuse at h
  refine g_aln dX11_refuse_0 rfl rfl (by decide) ?_
  refine g_ic dX11_refuse_1 ?_
  obtain ⟨s1, e2, h⟩ := xlt_e h
  refine h_putI 0 dX11_refuse_2 fl_X11_3 rfl rfl e2 ?_
  refine g_ic dX11_refuse_5 ?_
  exact g_rI rfl dX11_refuse_6 h
theorem dX11_deed_0 : decode cX11_deed 0 = .ok (.aload_n 0, 1) := by decide +kernel
theorem dX11_deed_1 : decode cX11_deed 1 = .ok (.iconst 0, 1) := by decide +kernel
theorem dX11_deed_2 : decode cX11_deed 2 = .ok (.putfield 3, 3) := by decide +kernel
theorem dX11_deed_5 : decode cX11_deed 5 = .ok (.aload_n 0, 1) := by decide +kernel
theorem dX11_deed_6 : decode cX11_deed 6 = .ok (.iload_n 1, 1) := by decide +kernel
theorem dX11_deed_7 : decode cX11_deed 7 = .ok (.invokevirtual 326, 3) := by decide +kernel
theorem dX11_deed_10 : decode cX11_deed 10 = .ok (.ifCond .eq 15, 3) := by decide +kernel
theorem dX11_deed_13 : decode cX11_deed 13 = .ok (.iload_n 2, 1) := by decide +kernel
theorem dX11_deed_14 : decode cX11_deed 14 = .ok (.i2l, 1) := by decide +kernel
theorem dX11_deed_15 : decode cX11_deed 15 = .ok (.lconst 0, 1) := by decide +kernel
theorem dX11_deed_16 : decode cX11_deed 16 = .ok (.ldc2_w 329, 3) := by decide +kernel
theorem dX11_deed_19 : decode cX11_deed 19 = .ok (.invokestatic 132, 3) := by decide +kernel
theorem dX11_deed_22 : decode cX11_deed 22 = .ok (.ifCond .ne 8, 3) := by decide +kernel
theorem dX11_deed_25 : decode cX11_deed 25 = .ok (.aload_n 0, 1) := by decide +kernel
theorem dX11_deed_26 : decode cX11_deed 26 = .ok (.invokevirtual 320, 3) := by decide +kernel
theorem dX11_deed_29 : decode cX11_deed 29 = .ok (.ireturn, 1) := by decide +kernel
theorem dX11_deed_30 : decode cX11_deed 30 = .ok (.aload_n 0, 1) := by decide +kernel
theorem dX11_deed_31 : decode cX11_deed 31 = .ok (.aload_n 0, 1) := by decide +kernel
theorem dX11_deed_32 : decode cX11_deed 32 = .ok (.getfield 47, 3) := by decide +kernel
theorem dX11_deed_35 : decode cX11_deed 35 = .ok (.invokevirtual 303, 3) := by decide +kernel
theorem dX11_deed_38 : decode cX11_deed 38 = .ok (.iload_n 2, 1) := by decide +kernel
theorem dX11_deed_39 : decode cX11_deed 39 = .ok (.tableswitch 60 0 3 #[29, 36, 46, 53], 29) := by decide +kernel
theorem dX11_deed_68 : decode cX11_deed 68 = .ok (.aload_n 0, 1) := by decide +kernel
theorem dX11_deed_69 : decode cX11_deed 69 = .ok (.getfield 41, 3) := by decide +kernel
theorem dX11_deed_72 : decode cX11_deed 72 = .ok (.iload_n 1, 1) := by decide +kernel
theorem dX11_deed_73 : decode cX11_deed 73 = .ok (.iaload, 1) := by decide +kernel
theorem dX11_deed_74 : decode cX11_deed 74 = .ok (.ireturn, 1) := by decide +kernel
theorem dX11_deed_75 : decode cX11_deed 75 = .ok (.aload_n 0, 1) := by decide +kernel
theorem dX11_deed_76 : decode cX11_deed 76 = .ok (.getfield 47, 3) := by decide +kernel
theorem dX11_deed_79 : decode cX11_deed 79 = .ok (.bipush 24, 2) := by decide +kernel
theorem dX11_deed_81 : decode cX11_deed 81 = .ok (.iload_n 1, 1) := by decide +kernel
theorem dX11_deed_82 : decode cX11_deed 82 = .ok (.iadd, 1) := by decide +kernel
theorem dX11_deed_83 : decode cX11_deed 83 = .ok (.iaload, 1) := by decide +kernel
theorem dX11_deed_84 : decode cX11_deed 84 = .ok (.ireturn, 1) := by decide +kernel
theorem dX11_deed_85 : decode cX11_deed 85 = .ok (.aload_n 0, 1) := by decide +kernel
theorem dX11_deed_86 : decode cX11_deed 86 = .ok (.getfield 44, 3) := by decide +kernel
theorem dX11_deed_89 : decode cX11_deed 89 = .ok (.iload_n 1, 1) := by decide +kernel
theorem dX11_deed_90 : decode cX11_deed 90 = .ok (.iaload, 1) := by decide +kernel
theorem dX11_deed_91 : decode cX11_deed 91 = .ok (.ireturn, 1) := by decide +kernel
theorem dX11_deed_92 : decode cX11_deed 92 = .ok (.aload_n 0, 1) := by decide +kernel
theorem dX11_deed_93 : decode cX11_deed 93 = .ok (.getfield 71, 3) := by decide +kernel
theorem dX11_deed_96 : decode cX11_deed 96 = .ok (.iload_n 1, 1) := by decide +kernel
theorem dX11_deed_97 : decode cX11_deed 97 = .ok (.iaload, 1) := by decide +kernel
theorem dX11_deed_98 : decode cX11_deed 98 = .ok (.ireturn, 1) := by decide +kernel
theorem dX11_deed_99 : decode cX11_deed 99 = .ok (.aload_n 0, 1) := by decide +kernel
theorem dX11_deed_100 : decode cX11_deed 100 = .ok (.aload_n 0, 1) := by decide +kernel
theorem dX11_deed_101 : decode cX11_deed 101 = .ok (.getfield 47, 3) := by decide +kernel
theorem dX11_deed_104 : decode cX11_deed 104 = .ok (.iload_n 1, 1) := by decide +kernel
theorem dX11_deed_105 : decode cX11_deed 105 = .ok (.invokevirtual 307, 3) := by decide +kernel
theorem dX11_deed_108 : decode cX11_deed 108 = .ok (.ireturn, 1) := by decide +kernel
theorem s_X11_deed {a1 a2 : Int} {s0 : xW} {q : Int × xW} (h : F_X11_deed a1 a2 s0 = some q) : xC 6 0 0 mX11_deed [vR 121, vI a1, vI a2] 155 s0 (xRv (vI q.1) q.2) := by
  refine xC.of [vR 121, vI a1, vI a2] (by decide +kernel) (Nat.le_of_ble_eq_true rfl) rfl ?_
  unfold F_X11_deed at h
  refine g_aln dX11_deed_0 rfl rfl (by decide) ?_
  refine g_ic dX11_deed_1 ?_
  obtain ⟨s1, e2, h⟩ := xlt_e h
  refine h_putI 0 dX11_deed_2 fl_X11_3 rfl rfl e2 ?_
  refine g_aln dX11_deed_5 rfl rfl (by decide) ?_
  refine g_iln dX11_deed_6 rfl rfl ?_
  obtain ⟨r4, e3, h⟩ := xbp_e h
  refine g_cV1v dX11_deed_7 ml_X11_326 rfl (s_X11_isDeed e3) (by decide) rfl ?_
  obtain ⟨j5, ej6, h⟩ := xjn_e h
  have hj7 : j5  = some q → xG 6 0 0 mX11_deed 25 [vR 121, vX, vX] [] 155 s1 (xRv (vI q.1) q.2) := by
    intro  h
    rw [ej6] at h
    refine g_aln dX11_deed_25 rfl rfl (by decide) ?_
    obtain ⟨r9, s10, e8, h⟩ := xbd_e h
    refine g_cV0v dX11_deed_26 ml_X11_320 rfl (s_X11_refuse e8) (by decide) rfl ?_
    exact g_rI rfl dX11_deed_29 h
  clear ej6
  refine g_yeq dX11_deed_10 (tgt := 25) rfl rfl (fun q11 => ?_) (fun q11 => ?_)
  · replace h := xif_f q11 h
    refine g_drop_1 ?_
    refine g_drop_2 ?_
    exact hj7  h
  · replace h := xif_t q11 h
    refine g_iln dX11_deed_13 rfl rfl ?_
    refine g_wi2l dX11_deed_14 rfl ?_
    refine g_lc dX11_deed_15 (w := 0) rfl ?_
    refine g_ldc2 dX11_deed_16 ct_X11_329 (w := 4) rfl ?_
    obtain ⟨r13, e12, h⟩ := xbp_e h
    refine g_cS3v dX11_deed_19 ml_X11_132 (s_X11_in e12) (by decide) rfl ?_
    refine g_yne dX11_deed_22 (tgt := 30) rfl rfl (fun q14 => ?_) (fun q14 => ?_)
    · replace h := xif_f q14 h
      refine g_aln dX11_deed_30 rfl rfl (by decide) ?_
      refine g_aln dX11_deed_31 rfl rfl (by decide) ?_
      refine g_getC 127 dX11_deed_32 fl_X11_47 rfl (by decide) ?_
      obtain ⟨s16, e15, h⟩ := xbp_e h
      refine g_cV10 dX11_deed_35 ml_X11_303 rfl (s_X11_laysBegins e15) (by decide) rfl ?_
      refine g_iln dX11_deed_38 rfl rfl ?_
      by_cases q17 : (xw a2) = 0
      · replace h := xif_t q17 h
        refine g_wtK dX11_deed_39 q17 (by decide) (off := 29) rfl (tgt := 68) rfl ?_
        refine g_aln dX11_deed_68 rfl rfl (by decide) ?_
        refine g_getC 125 dX11_deed_69 fl_X11_41 rfl (by decide) ?_
        refine g_iln dX11_deed_72 rfl rfl ?_
        obtain ⟨hg18, h⟩ := xgd_e h
        refine g_iald 8 dX11_deed_73 rfl hg18 (by decide) ?_
        exact g_rI rfl dX11_deed_74 h
      replace h := xif_f q17 h
      by_cases q19 : (xw a2) = 1
      · replace h := xif_t q19 h
        refine g_wtK dX11_deed_39 q19 (by decide) (off := 36) rfl (tgt := 75) rfl ?_
        refine g_aln dX11_deed_75 rfl rfl (by decide) ?_
        refine g_getC 127 dX11_deed_76 fl_X11_47 rfl (by decide) ?_
        refine g_bi dX11_deed_79 (by decide) ?_
        refine g_iln dX11_deed_81 rfl rfl ?_
        refine g_iadd dX11_deed_82 ?_
        obtain ⟨hg20, h⟩ := xgd_e h
        refine g_iald 40 dX11_deed_83 rfl hg20 (by decide) ?_
        exact g_rI rfl dX11_deed_84 h
      replace h := xif_f q19 h
      by_cases q21 : (xw a2) = 2
      · replace h := xif_t q21 h
        refine g_wtK dX11_deed_39 q21 (by decide) (off := 46) rfl (tgt := 85) rfl ?_
        refine g_aln dX11_deed_85 rfl rfl (by decide) ?_
        refine g_getC 126 dX11_deed_86 fl_X11_44 rfl (by decide) ?_
        refine g_iln dX11_deed_89 rfl rfl ?_
        obtain ⟨hg22, h⟩ := xgd_e h
        refine g_iald 8 dX11_deed_90 rfl hg22 (by decide) ?_
        exact g_rI rfl dX11_deed_91 h
      replace h := xif_f q21 h
      by_cases q23 : (xw a2) = 3
      · replace h := xif_t q23 h
        refine g_wtK dX11_deed_39 q23 (by decide) (off := 53) rfl (tgt := 92) rfl ?_
        refine g_aln dX11_deed_92 rfl rfl (by decide) ?_
        refine g_getC 135 dX11_deed_93 fl_X11_71 rfl (by decide) ?_
        refine g_iln dX11_deed_96 rfl rfl ?_
        obtain ⟨hg24, h⟩ := xgd_e h
        refine g_iald 8 dX11_deed_97 rfl hg24 (by decide) ?_
        exact g_rI rfl dX11_deed_98 h
      replace h := xif_f q23 h
      refine g_wtO dX11_deed_39 rfl (by omega) (tgt := 99) rfl ?_
      refine g_aln dX11_deed_99 rfl rfl (by decide) ?_
      refine g_aln dX11_deed_100 rfl rfl (by decide) ?_
      refine g_getC 127 dX11_deed_101 fl_X11_47 rfl (by decide) ?_
      refine g_iln dX11_deed_104 rfl rfl ?_
      obtain ⟨r26, e25, h⟩ := xbp_e h
      refine g_cV2v dX11_deed_105 ml_X11_307 rfl (s_X11_clashing e25) (by decide) rfl ?_
      exact g_rI rfl dX11_deed_108 h
    · replace h := xif_t q14 h
      refine g_drop_1 ?_
      refine g_drop_2 ?_
      exact hj7  h
theorem dX11_readsHouse_0 : decode cX11_readsHouse 0 = .ok (.aload_n 0, 1) := by decide +kernel
theorem dX11_readsHouse_1 : decode cX11_readsHouse 1 = .ok (.getfield 129, 3) := by decide +kernel
theorem dX11_readsHouse_4 : decode cX11_readsHouse 4 = .ok (.aload_n 0, 1) := by decide +kernel
theorem dX11_readsHouse_5 : decode cX11_readsHouse 5 = .ok (.getfield 181, 3) := by decide +kernel
theorem dX11_readsHouse_8 : decode cX11_readsHouse 8 = .ok (.iadd, 1) := by decide +kernel
theorem dX11_readsHouse_9 : decode cX11_readsHouse 9 = .ok (.bipush 8, 2) := by decide +kernel
theorem dX11_readsHouse_11 : decode cX11_readsHouse 11 = .ok (.if_icmp .ne 5, 3) := by decide +kernel
theorem dX11_readsHouse_14 : decode cX11_readsHouse 14 = .ok (.iconst 0, 1) := by decide +kernel
theorem dX11_readsHouse_15 : decode cX11_readsHouse 15 = .ok (.ireturn, 1) := by decide +kernel
theorem dX11_readsHouse_16 : decode cX11_readsHouse 16 = .ok (.iconst 2, 1) := by decide +kernel
theorem dX11_readsHouse_17 : decode cX11_readsHouse 17 = .ok (.aload_n 0, 1) := by decide +kernel
theorem dX11_readsHouse_18 : decode cX11_readsHouse 18 = .ok (.getfield 181, 3) := by decide +kernel
theorem dX11_readsHouse_21 : decode cX11_readsHouse 21 = .ok (.imul, 1) := by decide +kernel
theorem dX11_readsHouse_22 : decode cX11_readsHouse 22 = .ok (.istore_n 1, 1) := by decide +kernel
theorem dX11_readsHouse_23 : decode cX11_readsHouse 23 = .ok (.aload_n 0, 1) := by decide +kernel
theorem dX11_readsHouse_24 : decode cX11_readsHouse 24 = .ok (.getfield 56, 3) := by decide +kernel
theorem dX11_readsHouse_27 : decode cX11_readsHouse 27 = .ok (.iload_n 1, 1) := by decide +kernel
theorem dX11_readsHouse_28 : decode cX11_readsHouse 28 = .ok (.aload_n 0, 1) := by decide +kernel
theorem dX11_readsHouse_29 : decode cX11_readsHouse 29 = .ok (.iconst 1, 1) := by decide +kernel
theorem dX11_readsHouse_30 : decode cX11_readsHouse 30 = .ok (.invokevirtual 184, 3) := by decide +kernel
theorem dX11_readsHouse_33 : decode cX11_readsHouse 33 = .ok (.iastore, 1) := by decide +kernel
theorem dX11_readsHouse_34 : decode cX11_readsHouse 34 = .ok (.aload_n 0, 1) := by decide +kernel
theorem dX11_readsHouse_35 : decode cX11_readsHouse 35 = .ok (.getfield 56, 3) := by decide +kernel
theorem dX11_readsHouse_38 : decode cX11_readsHouse 38 = .ok (.iload_n 1, 1) := by decide +kernel
theorem dX11_readsHouse_39 : decode cX11_readsHouse 39 = .ok (.iconst 1, 1) := by decide +kernel
theorem dX11_readsHouse_40 : decode cX11_readsHouse 40 = .ok (.iadd, 1) := by decide +kernel
theorem dX11_readsHouse_41 : decode cX11_readsHouse 41 = .ok (.aload_n 0, 1) := by decide +kernel
theorem dX11_readsHouse_42 : decode cX11_readsHouse 42 = .ok (.getfield 56, 3) := by decide +kernel
theorem dX11_readsHouse_45 : decode cX11_readsHouse 45 = .ok (.iload_n 1, 1) := by decide +kernel
theorem dX11_readsHouse_46 : decode cX11_readsHouse 46 = .ok (.iaload, 1) := by decide +kernel
theorem dX11_readsHouse_47 : decode cX11_readsHouse 47 = .ok (.ifCond .ge 7, 3) := by decide +kernel
theorem dX11_readsHouse_50 : decode cX11_readsHouse 50 = .ok (.iconst (-1), 1) := by decide +kernel
theorem dX11_readsHouse_51 : decode cX11_readsHouse 51 = .ok (.goto 8, 3) := by decide +kernel
theorem dX11_readsHouse_54 : decode cX11_readsHouse 54 = .ok (.aload_n 0, 1) := by decide +kernel
theorem dX11_readsHouse_55 : decode cX11_readsHouse 55 = .ok (.iconst 1, 1) := by decide +kernel
theorem dX11_readsHouse_56 : decode cX11_readsHouse 56 = .ok (.invokevirtual 184, 3) := by decide +kernel
theorem dX11_readsHouse_59 : decode cX11_readsHouse 59 = .ok (.iastore, 1) := by decide +kernel
theorem dX11_readsHouse_60 : decode cX11_readsHouse 60 = .ok (.aload_n 0, 1) := by decide +kernel
theorem dX11_readsHouse_61 : decode cX11_readsHouse 61 = .ok (.dup, 1) := by decide +kernel
theorem dX11_readsHouse_62 : decode cX11_readsHouse 62 = .ok (.getfield 181, 3) := by decide +kernel
theorem dX11_readsHouse_65 : decode cX11_readsHouse 65 = .ok (.iconst 1, 1) := by decide +kernel
theorem dX11_readsHouse_66 : decode cX11_readsHouse 66 = .ok (.iadd, 1) := by decide +kernel
theorem dX11_readsHouse_67 : decode cX11_readsHouse 67 = .ok (.putfield 181, 3) := by decide +kernel
theorem dX11_readsHouse_70 : decode cX11_readsHouse 70 = .ok (.aload_n 0, 1) := by decide +kernel
theorem dX11_readsHouse_71 : decode cX11_readsHouse 71 = .ok (.getfield 56, 3) := by decide +kernel
theorem dX11_readsHouse_74 : decode cX11_readsHouse 74 = .ok (.iload_n 1, 1) := by decide +kernel
theorem dX11_readsHouse_75 : decode cX11_readsHouse 75 = .ok (.iconst 1, 1) := by decide +kernel
theorem dX11_readsHouse_76 : decode cX11_readsHouse 76 = .ok (.iadd, 1) := by decide +kernel
theorem dX11_readsHouse_77 : decode cX11_readsHouse 77 = .ok (.iaload, 1) := by decide +kernel
theorem dX11_readsHouse_78 : decode cX11_readsHouse 78 = .ok (.ifCond .lt 7, 3) := by decide +kernel
theorem dX11_readsHouse_81 : decode cX11_readsHouse 81 = .ok (.iconst 1, 1) := by decide +kernel
theorem dX11_readsHouse_82 : decode cX11_readsHouse 82 = .ok (.goto 4, 3) := by decide +kernel
theorem dX11_readsHouse_85 : decode cX11_readsHouse 85 = .ok (.iconst 0, 1) := by decide +kernel
theorem dX11_readsHouse_86 : decode cX11_readsHouse 86 = .ok (.ireturn, 1) := by decide +kernel
theorem s_X11_readsHouse {s0 : xW} {q : Int × xW} (h : F_X11_readsHouse  s0 = some q) : xC 3 0 0 mX11_readsHouse [vR 121] 155 s0 (xRv (vI q.1) q.2) := by
  refine xC.of [vR 121, vX] (by decide +kernel) (Nat.le_of_ble_eq_true rfl) rfl ?_
  unfold F_X11_readsHouse at h
  refine g_aln dX11_readsHouse_0 rfl rfl (by decide) ?_
  refine g_getI 3 dX11_readsHouse_1 fl_X11_129 rfl rfl ?_
  refine g_aln dX11_readsHouse_4 rfl rfl (by decide) ?_
  refine g_getI 20 dX11_readsHouse_5 fl_X11_181 rfl rfl ?_
  refine g_iadd dX11_readsHouse_8 ?_
  refine g_bi dX11_readsHouse_9 (by decide) ?_
  refine g_wne dX11_readsHouse_11 (tgt := 16) rfl rfl (xw_id (by decide)) (fun q1 => ?_) (fun q1 => ?_)
  · replace h := xif_f q1 h
    refine g_ic dX11_readsHouse_16 ?_
    refine g_aln dX11_readsHouse_17 rfl rfl (by decide) ?_
    refine g_getI 20 dX11_readsHouse_18 fl_X11_181 rfl rfl ?_
    refine g_imul dX11_readsHouse_21 ?_
    refine g_istn_1 dX11_readsHouse_22 (by decide) rfl ?_
    refine g_aln dX11_readsHouse_23 rfl rfl (by decide) ?_
    refine g_getC 130 dX11_readsHouse_24 fl_X11_56 rfl (by decide) ?_
    refine g_iln dX11_readsHouse_27 rfl rfl ?_
    refine g_aln dX11_readsHouse_28 rfl rfl (by decide) ?_
    refine g_ic dX11_readsHouse_29 ?_
    obtain ⟨r3, s4, e2, h⟩ := xbd_e h
    refine g_cV1v dX11_readsHouse_30 ml_X11_184 rfl (s_X11_number e2) (by decide) rfl ?_
    obtain ⟨hg5, h⟩ := xgd_e h
    obtain ⟨s6, e7, h⟩ := xlt_e h
    refine h_iast 24 dX11_readsHouse_33 rfl hg5 (by decide) e7 ?_
    refine g_aln dX11_readsHouse_34 rfl rfl (by decide) ?_
    refine g_getC 130 dX11_readsHouse_35 fl_X11_56 rfl (by decide) ?_
    refine g_iln dX11_readsHouse_38 rfl rfl ?_
    refine g_ic dX11_readsHouse_39 ?_
    refine g_iadd dX11_readsHouse_40 ?_
    refine g_aln dX11_readsHouse_41 rfl rfl (by decide) ?_
    refine g_getC 130 dX11_readsHouse_42 fl_X11_56 rfl (by decide) ?_
    refine g_iln dX11_readsHouse_45 rfl rfl ?_
    obtain ⟨hg8, h⟩ := xgd_e h
    refine g_iald 24 dX11_readsHouse_46 rfl hg8 (by decide) ?_
    obtain ⟨j11, ej12, h⟩ := xjn_e h
    have hj13 : ∀ (t9 : Int) (s10 : xW), j11 t9 s10 = some q → xG 3 0 0 mX11_readsHouse 59 [vR 121, vI (2 * (s0 121 20))] [vI t9, vI ((2 * (s0 121 20)) + 1), vR 130] 155 s10 (xRv (vI q.1) q.2) := by
      intro t9 s10 h
      rw [ej12] at h
      obtain ⟨hg14, h⟩ := xgd_e h
      obtain ⟨s15, e16, h⟩ := xlt_e h
      refine h_iast 24 dX11_readsHouse_59 rfl hg14 (by decide) e16 ?_
      refine g_aln dX11_readsHouse_60 rfl rfl (by decide) ?_
      refine g_dup dX11_readsHouse_61 rfl ?_
      refine g_getI 20 dX11_readsHouse_62 fl_X11_181 rfl rfl ?_
      refine g_ic dX11_readsHouse_65 ?_
      refine g_iadd dX11_readsHouse_66 ?_
      obtain ⟨s17, e18, h⟩ := xlt_e h
      refine h_putI 20 dX11_readsHouse_67 fl_X11_181 rfl rfl e18 ?_
      refine g_aln dX11_readsHouse_70 rfl rfl (by decide) ?_
      refine g_getC 130 dX11_readsHouse_71 fl_X11_56 rfl (by decide) ?_
      refine g_iln dX11_readsHouse_74 rfl rfl ?_
      refine g_ic dX11_readsHouse_75 ?_
      refine g_iadd dX11_readsHouse_76 ?_
      obtain ⟨hg19, h⟩ := xgd_e h
      refine g_iald 24 dX11_readsHouse_77 rfl hg19 (by decide) ?_
      obtain ⟨v21, e22, h⟩ := xlt_e h
      have hj23 : xG 3 0 0 mX11_readsHouse 86 [vX, vX] [vI v21] 155 s17 (xRv (vI q.1) q.2) := by
        obtain ⟨hg24, h⟩ := xgd_e h
        exact g_rZ rfl dX11_readsHouse_86 hg24 h
      refine g_ylt dX11_readsHouse_78 (tgt := 85) rfl rfl (fun c20 => ?_) (fun c20 => ?_)
      · skip
        refine g_ic dX11_readsHouse_85 ?_
        refine g_drop_0 ?_
        refine g_drop_1 ?_
        exact g_vq ((if_neg c20).symm.trans e22) hj23
      · skip
        refine g_ic dX11_readsHouse_81 ?_
        refine g_goto dX11_readsHouse_82 (tgt := 86) rfl ?_
        refine g_drop_0 ?_
        refine g_drop_1 ?_
        exact g_vq ((if_pos c20).symm.trans e22) hj23
    clear ej12
    refine g_yge dX11_readsHouse_47 (tgt := 54) rfl rfl (fun q25 => ?_) (fun q25 => ?_)
    · replace h := xif_f q25 h
      refine g_aln dX11_readsHouse_54 rfl rfl (by decide) ?_
      refine g_ic dX11_readsHouse_55 ?_
      obtain ⟨r27, s28, e26, h⟩ := xbd_e h
      refine g_cV1v dX11_readsHouse_56 ml_X11_184 rfl (s_X11_number e26) (by decide) rfl ?_
      exact hj13 r27 s28 h
    · replace h := xif_t q25 h
      refine g_ic dX11_readsHouse_50 ?_
      refine g_goto dX11_readsHouse_51 (tgt := 59) rfl ?_
      exact hj13 (-1) s6 h
  · replace h := xif_t q1 h
    refine g_ic dX11_readsHouse_14 ?_
    exact g_rZ rfl dX11_readsHouse_15 (by decide) h
theorem dX11_digitIn_0 : decode cX11_digitIn 0 = .ok (.aload_n 0, 1) := by decide +kernel
theorem dX11_digitIn_1 : decode cX11_digitIn 1 = .ok (.getfield 144, 3) := by decide +kernel
theorem dX11_digitIn_4 : decode cX11_digitIn 4 = .ok (.aload_n 0, 1) := by decide +kernel
theorem dX11_digitIn_5 : decode cX11_digitIn 5 = .ok (.getfield 156, 3) := by decide +kernel
theorem dX11_digitIn_8 : decode cX11_digitIn 8 = .ok (.if_icmp .ge 26, 3) := by decide +kernel
theorem dX11_digitIn_11 : decode cX11_digitIn 11 = .ok (.aload_n 0, 1) := by decide +kernel
theorem dX11_digitIn_12 : decode cX11_digitIn 12 = .ok (.getfield 53, 3) := by decide +kernel
theorem dX11_digitIn_15 : decode cX11_digitIn 15 = .ok (.aload_n 0, 1) := by decide +kernel
theorem dX11_digitIn_16 : decode cX11_digitIn 16 = .ok (.getfield 144, 3) := by decide +kernel
theorem dX11_digitIn_19 : decode cX11_digitIn 19 = .ok (.iaload, 1) := by decide +kernel
theorem dX11_digitIn_20 : decode cX11_digitIn 20 = .ok (.bipush 48, 2) := by decide +kernel
theorem dX11_digitIn_22 : decode cX11_digitIn 22 = .ok (.isub, 1) := by decide +kernel
theorem dX11_digitIn_23 : decode cX11_digitIn 23 = .ok (.i2l, 1) := by decide +kernel
theorem dX11_digitIn_24 : decode cX11_digitIn 24 = .ok (.iload_n 1, 1) := by decide +kernel
theorem dX11_digitIn_25 : decode cX11_digitIn 25 = .ok (.i2l, 1) := by decide +kernel
theorem dX11_digitIn_26 : decode cX11_digitIn 26 = .ok (.iload_n 2, 1) := by decide +kernel
theorem dX11_digitIn_27 : decode cX11_digitIn 27 = .ok (.i2l, 1) := by decide +kernel
theorem dX11_digitIn_28 : decode cX11_digitIn 28 = .ok (.invokestatic 132, 3) := by decide +kernel
theorem dX11_digitIn_31 : decode cX11_digitIn 31 = .ok (.ifCond .ne 5, 3) := by decide +kernel
theorem dX11_digitIn_34 : decode cX11_digitIn 34 = .ok (.iconst (-1), 1) := by decide +kernel
theorem dX11_digitIn_35 : decode cX11_digitIn 35 = .ok (.ireturn, 1) := by decide +kernel
theorem dX11_digitIn_36 : decode cX11_digitIn 36 = .ok (.aload_n 0, 1) := by decide +kernel
theorem dX11_digitIn_37 : decode cX11_digitIn 37 = .ok (.dup, 1) := by decide +kernel
theorem dX11_digitIn_38 : decode cX11_digitIn 38 = .ok (.getfield 144, 3) := by decide +kernel
theorem dX11_digitIn_41 : decode cX11_digitIn 41 = .ok (.iconst 1, 1) := by decide +kernel
theorem dX11_digitIn_42 : decode cX11_digitIn 42 = .ok (.iadd, 1) := by decide +kernel
theorem dX11_digitIn_43 : decode cX11_digitIn 43 = .ok (.putfield 144, 3) := by decide +kernel
theorem dX11_digitIn_46 : decode cX11_digitIn 46 = .ok (.aload_n 0, 1) := by decide +kernel
theorem dX11_digitIn_47 : decode cX11_digitIn 47 = .ok (.getfield 53, 3) := by decide +kernel
theorem dX11_digitIn_50 : decode cX11_digitIn 50 = .ok (.aload_n 0, 1) := by decide +kernel
theorem dX11_digitIn_51 : decode cX11_digitIn 51 = .ok (.getfield 144, 3) := by decide +kernel
theorem dX11_digitIn_54 : decode cX11_digitIn 54 = .ok (.iconst 1, 1) := by decide +kernel
theorem dX11_digitIn_55 : decode cX11_digitIn 55 = .ok (.isub, 1) := by decide +kernel
theorem dX11_digitIn_56 : decode cX11_digitIn 56 = .ok (.iaload, 1) := by decide +kernel
theorem dX11_digitIn_57 : decode cX11_digitIn 57 = .ok (.bipush 48, 2) := by decide +kernel
theorem dX11_digitIn_59 : decode cX11_digitIn 59 = .ok (.isub, 1) := by decide +kernel
theorem dX11_digitIn_60 : decode cX11_digitIn 60 = .ok (.ireturn, 1) := by decide +kernel
theorem s_X11_digitIn {a1 a2 : Int} {s0 : xW} {q : Int × xW} (h : F_X11_digitIn a1 a2 s0 = some q) : xC 1 0 0 mX11_digitIn [vR 121, vI a1, vI a2] 155 s0 (xRv (vI q.1) q.2) := by
  refine xC.of [vR 121, vI a1, vI a2] (by decide +kernel) (Nat.le_of_ble_eq_true rfl) rfl ?_
  unfold F_X11_digitIn at h
  refine g_aln dX11_digitIn_0 rfl rfl (by decide) ?_
  refine g_getI 16 dX11_digitIn_1 fl_X11_144 rfl rfl ?_
  refine g_aln dX11_digitIn_4 rfl rfl (by decide) ?_
  refine g_getI 17 dX11_digitIn_5 fl_X11_156 rfl rfl ?_
  obtain ⟨j1, ej2, h⟩ := xjn_e h
  have hj3 : j1  = some q → xG 1 0 0 mX11_digitIn 34 [vX, vX, vX] [] 155 s0 (xRv (vI q.1) q.2) := by
    intro  h
    rw [ej2] at h
    refine g_ic dX11_digitIn_34 ?_
    exact g_rI rfl dX11_digitIn_35 h
  clear ej2
  refine g_wge dX11_digitIn_8 (tgt := 34) rfl rfl rfl (fun q4 => ?_) (fun q4 => ?_)
  · replace h := xif_f q4 h
    refine g_drop_0 ?_
    refine g_drop_1 ?_
    refine g_drop_2 ?_
    exact hj3  h
  · replace h := xif_t q4 h
    refine g_aln dX11_digitIn_11 rfl rfl (by decide) ?_
    refine g_getC 129 dX11_digitIn_12 fl_X11_53 rfl (by decide) ?_
    refine g_aln dX11_digitIn_15 rfl rfl (by decide) ?_
    refine g_getI 16 dX11_digitIn_16 fl_X11_144 rfl rfl ?_
    obtain ⟨hg5, h⟩ := xgd_e h
    refine g_iald 80 dX11_digitIn_19 rfl hg5 (by decide) ?_
    refine g_bi dX11_digitIn_20 (by decide) ?_
    refine g_isub dX11_digitIn_22 ?_
    refine g_wi2l dX11_digitIn_23 rfl ?_
    refine g_iln dX11_digitIn_24 rfl rfl ?_
    refine g_wi2l dX11_digitIn_25 rfl ?_
    refine g_iln dX11_digitIn_26 rfl rfl ?_
    refine g_wi2l dX11_digitIn_27 rfl ?_
    obtain ⟨r7, e6, h⟩ := xbp_e h
    refine g_cS3v dX11_digitIn_28 ml_X11_132 (s_X11_in e6) (by decide) rfl ?_
    refine g_yne dX11_digitIn_31 (tgt := 36) rfl rfl (fun q8 => ?_) (fun q8 => ?_)
    · replace h := xif_f q8 h
      refine g_aln dX11_digitIn_36 rfl rfl (by decide) ?_
      refine g_dup dX11_digitIn_37 rfl ?_
      refine g_getI 16 dX11_digitIn_38 fl_X11_144 rfl rfl ?_
      refine g_ic dX11_digitIn_41 ?_
      refine g_iadd dX11_digitIn_42 ?_
      obtain ⟨s9, e10, h⟩ := xlt_e h
      refine h_putI 16 dX11_digitIn_43 fl_X11_144 rfl rfl e10 ?_
      refine g_aln dX11_digitIn_46 rfl rfl (by decide) ?_
      refine g_getC 129 dX11_digitIn_47 fl_X11_53 rfl (by decide) ?_
      refine g_aln dX11_digitIn_50 rfl rfl (by decide) ?_
      refine g_getI 16 dX11_digitIn_51 fl_X11_144 rfl rfl ?_
      refine g_ic dX11_digitIn_54 ?_
      refine g_isub dX11_digitIn_55 ?_
      obtain ⟨hg11, h⟩ := xgd_e h
      refine g_iald 80 dX11_digitIn_56 rfl hg11 (by decide) ?_
      refine g_bi dX11_digitIn_57 (by decide) ?_
      refine g_isub dX11_digitIn_59 ?_
      exact g_rI rfl dX11_digitIn_60 h
    · replace h := xif_t q8 h
      refine g_drop_0 ?_
      refine g_drop_1 ?_
      refine g_drop_2 ?_
      exact hj3  h
