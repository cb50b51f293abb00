theorem dX10_sign_0 : decode cX10_sign 0 = .ok (.aload_n 0, 1) := by decide +kernel
theorem dX10_sign_1 : decode cX10_sign 1 = .ok (.getfield 12, 3) := by decide +kernel
theorem dX10_sign_4 : decode cX10_sign 4 = .ok (.iload_n 1, 1) := by decide +kernel
theorem dX10_sign_5 : decode cX10_sign 5 = .ok (.invokevirtual 108, 3) := by decide +kernel
theorem dX10_sign_8 : decode cX10_sign 8 = .ok (.ifCond .eq 13, 3) := by decide +kernel
theorem dX10_sign_11 : decode cX10_sign 11 = .ok (.aload_n 0, 1) := by decide +kernel
theorem dX10_sign_12 : decode cX10_sign 12 = .ok (.getfield 12, 3) := by decide +kernel
theorem dX10_sign_15 : decode cX10_sign 15 = .ok (.getfield 112, 3) := by decide +kernel
theorem dX10_sign_18 : decode cX10_sign 18 = .ok (.goto 4, 3) := by decide +kernel
theorem dX10_sign_21 : decode cX10_sign 21 = .ok (.iconst (-1), 1) := by decide +kernel
theorem dX10_sign_22 : decode cX10_sign 22 = .ok (.ireturn, 1) := by decide +kernel
theorem s_X10_sign {a1 : Int} {s0 : xW} {q : Int × xW} (h : F_X10_sign a1 s0 = some q) : xC 1 0 0 mX10_sign [vR 0, vI a1] 155 s0 (xRv (vI q.1) q.2) := by
  refine xC.of [vR 0, vI a1] (by decide +kernel) (Nat.le_of_ble_eq_true rfl) rfl ?_
  unfold F_X10_sign at h
  refine g_aln dX10_sign_0 rfl rfl (by decide) ?_
  refine g_getC 1 dX10_sign_1 fl_X10_12 rfl (by decide) ?_
  refine g_iln dX10_sign_4 rfl rfl ?_
  obtain ⟨r2, s3, e1, h⟩ := xbd_e h
  refine g_cV1v dX10_sign_5 ml_X10_108 rfl (s_X8_add e1) (by decide) rfl ?_
  obtain ⟨v5, e6, h⟩ := xlt_e h
  have hj7 : xG 1 0 0 mX10_sign 22 [vX, vX] [vI v5] 155 s3 (xRv (vI q.1) q.2) := by
    exact g_rI rfl dX10_sign_22 h
  refine g_yeq dX10_sign_8 (tgt := 21) rfl rfl (fun c4 => ?_) (fun c4 => ?_)
  · skip
    refine g_ic dX10_sign_21 ?_
    refine g_drop_0 ?_
    refine g_drop_1 ?_
    exact g_vq ((if_neg c4).symm.trans e6) hj7
  · skip
    refine g_aln dX10_sign_11 rfl rfl (by decide) ?_
    refine g_getC 1 dX10_sign_12 fl_X10_12 rfl (by decide) ?_
    refine g_getI 1 dX10_sign_15 fl_X10_112 rfl rfl ?_
    refine g_goto dX10_sign_18 (tgt := 22) rfl ?_
    refine g_drop_0 ?_
    refine g_drop_1 ?_
    exact g_vq ((if_pos c4).symm.trans e6) hj7
theorem dX10_span_0 : decode cX10_span 0 = .ok (.aload_n 0, 1) := by decide +kernel
theorem dX10_span_1 : decode cX10_span 1 = .ok (.getfield 75, 3) := by decide +kernel
theorem dX10_span_4 : decode cX10_span 4 = .ok (.getfield 131, 3) := by decide +kernel
theorem dX10_span_7 : decode cX10_span 7 = .ok (.ifCond .ne 6, 3) := by decide +kernel
theorem dX10_span_10 : decode cX10_span 10 = .ok (.bipush (-2), 2) := by decide +kernel
theorem dX10_span_12 : decode cX10_span 12 = .ok (.ireturn, 1) := by decide +kernel
theorem dX10_span_13 : decode cX10_span 13 = .ok (.aload_n 0, 1) := by decide +kernel
theorem dX10_span_14 : decode cX10_span 14 = .ok (.invokevirtual 173, 3) := by decide +kernel
theorem dX10_span_17 : decode cX10_span 17 = .ok (.aload_n 0, 1) := by decide +kernel
theorem dX10_span_18 : decode cX10_span 18 = .ok (.getfield 75, 3) := by decide +kernel
theorem dX10_span_21 : decode cX10_span 21 = .ok (.invokevirtual 265, 3) := by decide +kernel
theorem dX10_span_24 : decode cX10_span 24 = .ok (.istore_n 1, 1) := by decide +kernel
theorem dX10_span_25 : decode cX10_span 25 = .ok (.aload_n 0, 1) := by decide +kernel
theorem dX10_span_26 : decode cX10_span 26 = .ok (.getfield 75, 3) := by decide +kernel
theorem dX10_span_29 : decode cX10_span 29 = .ok (.invokevirtual 268, 3) := by decide +kernel
theorem dX10_span_32 : decode cX10_span 32 = .ok (.istore_n 2, 1) := by decide +kernel
theorem dX10_span_33 : decode cX10_span 33 = .ok (.iconst 0, 1) := by decide +kernel
theorem dX10_span_34 : decode cX10_span 34 = .ok (.istore_n 3, 1) := by decide +kernel
theorem dX10_span_35 : decode cX10_span 35 = .ok (.iload_n 1, 1) := by decide +kernel
theorem dX10_span_36 : decode cX10_span 36 = .ok (.istore 4, 2) := by decide +kernel
theorem dX10_span_38 : decode cX10_span 38 = .ok (.iload 4, 2) := by decide +kernel
theorem dX10_span_40 : decode cX10_span 40 = .ok (.iload_n 2, 1) := by decide +kernel
theorem dX10_span_41 : decode cX10_span 41 = .ok (.if_icmp .ge 25, 3) := by decide +kernel
theorem dX10_span_44 : decode cX10_span 44 = .ok (.aload_n 0, 1) := by decide +kernel
theorem dX10_span_45 : decode cX10_span 45 = .ok (.getfield 75, 3) := by decide +kernel
theorem dX10_span_48 : decode cX10_span 48 = .ok (.iload 4, 2) := by decide +kernel
theorem dX10_span_50 : decode cX10_span 50 = .ok (.iconst (-1), 1) := by decide +kernel
theorem dX10_span_51 : decode cX10_span 51 = .ok (.invokevirtual 271, 3) := by decide +kernel
theorem dX10_span_54 : decode cX10_span 54 = .ok (.ifCond .le 6, 3) := by decide +kernel
theorem dX10_span_57 : decode cX10_span 57 = .ok (.iinc 3 1, 3) := by decide +kernel
theorem dX10_span_60 : decode cX10_span 60 = .ok (.iinc 4 1, 3) := by decide +kernel
theorem dX10_span_63 : decode cX10_span 63 = .ok (.goto (-25), 3) := by decide +kernel
theorem dX10_span_66 : decode cX10_span 66 = .ok (.aload_n 0, 1) := by decide +kernel
theorem dX10_span_67 : decode cX10_span 67 = .ok (.getfield 19, 3) := by decide +kernel
theorem dX10_span_70 : decode cX10_span 70 = .ok (.iload_n 1, 1) := by decide +kernel
theorem dX10_span_71 : decode cX10_span 71 = .ok (.i2l, 1) := by decide +kernel
theorem dX10_span_72 : decode cX10_span 72 = .ok (.iload_n 2, 1) := by decide +kernel
theorem dX10_span_73 : decode cX10_span 73 = .ok (.i2l, 1) := by decide +kernel
theorem dX10_span_74 : decode cX10_span 74 = .ok (.iload_n 2, 1) := by decide +kernel
theorem dX10_span_75 : decode cX10_span 75 = .ok (.iload_n 1, 1) := by decide +kernel
theorem dX10_span_76 : decode cX10_span 76 = .ok (.isub, 1) := by decide +kernel
theorem dX10_span_77 : decode cX10_span 77 = .ok (.iload_n 3, 1) := by decide +kernel
theorem dX10_span_78 : decode cX10_span 78 = .ok (.isub, 1) := by decide +kernel
theorem dX10_span_79 : decode cX10_span 79 = .ok (.i2l, 1) := by decide +kernel
theorem dX10_span_80 : decode cX10_span 80 = .ok (.invokevirtual 274, 3) := by decide +kernel
theorem dX10_span_83 : decode cX10_span 83 = .ok (.iload_n 3, 1) := by decide +kernel
theorem dX10_span_84 : decode cX10_span 84 = .ok (.ireturn, 1) := by decide +kernel
theorem s_X10_span_38 {s12 : xW} {l1_8 l2_9 : Int} {q : Int × xW} {k : Int → Int → Option (Int × xW)} (hk : ∀ (l3_21 : Int) (l4_22 : Int), k l3_21 l4_22 = some q → xG 5 0 0 mX10_span 66 [vR 0, vI l1_8, vI l2_9, vI l3_21, vI l4_22] [] 155 s12 (xRv (vI q.1) q.2)) : ∀ (f : Nat) (l3_10 : Int) (l4_11 : Int), F_X10_span_38 l1_8 l2_9 s12 f l3_10 l4_11 k = some q → xG 5 0 0 mX10_span 38 [vR 0, vI l1_8, vI l2_9, vI l3_10, vI l4_11] [] 155 s12 (xRv (vI q.1) q.2) := by
  intro f
  induction f with
  | zero => intro l3_10 l4_11 h; cases h
  | succ f ih =>
    intro l3_10 l4_11 h
    unfold F_X10_span_38 at h
    refine g_il dX10_span_38 rfl ?_
    refine g_iln dX10_span_40 rfl rfl ?_
    refine g_wge dX10_span_41 (tgt := 66) rfl rfl rfl (fun q13 => ?_) (fun q13 => ?_)
    · replace h := xif_f q13 h
      exact hk l3_10 l4_11 h
    · replace h := xif_t q13 h
      refine g_aln dX10_span_44 rfl rfl (by decide) ?_
      refine g_getC 92 dX10_span_45 fl_X10_75 rfl (by decide) ?_
      refine g_il dX10_span_48 rfl ?_
      refine g_ic dX10_span_50 ?_
      obtain ⟨r15, e14, h⟩ := xbp_e h
      refine g_cV2v dX10_span_51 ml_X10_271 rfl (s_X4_howMany e14) (by decide) rfl ?_
      obtain ⟨j17, ej18, h⟩ := xjn_e h
      have hj19 : ∀ (l3_16 : Int), j17 l3_16 = some q → xG 5 0 0 mX10_span 60 [vR 0, vI l1_8, vI l2_9, vI l3_16, vI l4_11] [] 155 s12 (xRv (vI q.1) q.2) := by
        intro l3_16 h
        rw [ej18] at h
        refine g_inc_4 dX10_span_60 (by decide) rfl ?_
        refine g_goto dX10_span_63 (tgt := 38) rfl ?_
        exact ih l3_16 (l4_11 + 1) h
      clear ej18
      refine g_yle dX10_span_54 (tgt := 60) rfl rfl (fun q20 => ?_) (fun q20 => ?_)
      · replace h := xif_f q20 h
        exact hj19 l3_10 h
      · replace h := xif_t q20 h
        refine g_inc_3 dX10_span_57 (by decide) rfl ?_
        exact hj19 (l3_10 + 1) h
theorem s_X10_span {s0 : xW} {q : Int × xW} (h : F_X10_span  s0 = some q) : xC 5 0 0 mX10_span [vR 0] 155 s0 (xRv (vI q.1) q.2) := by
  refine xC.of [vR 0, vX, vX, vX, vX] (by decide +kernel) (Nat.le_of_ble_eq_true rfl) rfl ?_
  unfold F_X10_span at h
  refine g_aln dX10_span_0 rfl rfl (by decide) ?_
  refine g_getC 92 dX10_span_1 fl_X10_75 rfl (by decide) ?_
  refine g_getI 0 dX10_span_4 fl_X10_131 rfl rfl ?_
  refine g_yne dX10_span_7 (tgt := 13) rfl rfl (fun q1 => ?_) (fun q1 => ?_)
  · replace h := xif_f q1 h
    refine g_aln dX10_span_13 rfl rfl (by decide) ?_
    obtain ⟨s3, e2, h⟩ := xbp_e h
    refine g_cV00 dX10_span_14 ml_X10_173 rfl (s_X10_planToday e2) (by decide) rfl ?_
    refine g_aln dX10_span_17 rfl rfl (by decide) ?_
    refine g_getC 92 dX10_span_18 fl_X10_75 rfl (by decide) ?_
    obtain ⟨r5, e4, h⟩ := xbp_e h
    refine g_cV0v dX10_span_21 ml_X10_265 rfl (s_X4_firstMinute e4) (by decide) rfl ?_
    refine g_istn_1 dX10_span_24 (by decide) rfl ?_
    refine g_aln dX10_span_25 rfl rfl (by decide) ?_
    refine g_getC 92 dX10_span_26 fl_X10_75 rfl (by decide) ?_
    obtain ⟨r7, e6, h⟩ := xbp_e h
    refine g_cV0v dX10_span_29 ml_X10_268 rfl (s_X4_minuteBehind e6) (by decide) rfl ?_
    refine g_istn_2 dX10_span_32 (by decide) rfl ?_
    refine g_ic dX10_span_33 ?_
    refine g_istn_3 dX10_span_34 (by decide) rfl ?_
    refine g_iln dX10_span_35 rfl rfl ?_
    refine g_ist_4 dX10_span_36 (by decide) rfl ?_
    refine s_X10_span_38 (fun l3_23 l4_24 h => ?_) xN _ _ h
    refine g_aln dX10_span_66 rfl rfl (by decide) ?_
    refine g_getC 3 dX10_span_67 fl_X10_19 rfl (by decide) ?_
    refine g_iln dX10_span_70 rfl rfl ?_
    refine g_wi2l dX10_span_71 rfl ?_
    refine g_iln dX10_span_72 rfl rfl ?_
    refine g_wi2l dX10_span_73 rfl ?_
    refine g_iln dX10_span_74 rfl rfl ?_
    refine g_iln dX10_span_75 rfl rfl ?_
    refine g_isub dX10_span_76 ?_
    refine g_iln dX10_span_77 rfl rfl ?_
    refine g_isub dX10_span_78 ?_
    refine g_wi2l dX10_span_79 rfl ?_
    obtain ⟨s26, e25, h⟩ := xbp_e h
    refine g_cV30 dX10_span_80 ml_X10_274 rfl (s_X6_tell__ e25) (by decide) rfl ?_
    refine g_iln dX10_span_83 rfl rfl ?_
    exact g_rI rfl dX10_span_84 h
  · replace h := xif_t q1 h
    refine g_bi dX10_span_10 (by decide) ?_
    exact g_rI rfl dX10_span_12 h
theorem dX10_takes_0 : decode cX10_takes 0 = .ok (.aload_n 0, 1) := by decide +kernel
theorem dX10_takes_1 : decode cX10_takes 1 = .ok (.getfield 53, 3) := by decide +kernel
theorem dX10_takes_4 : decode cX10_takes 4 = .ok (.aload_n 0, 1) := by decide +kernel
theorem dX10_takes_5 : decode cX10_takes 5 = .ok (.getfield 46, 3) := by decide +kernel
theorem dX10_takes_8 : decode cX10_takes 8 = .ok (.invokevirtual 198, 3) := by decide +kernel
theorem dX10_takes_11 : decode cX10_takes 11 = .ok (.aload_n 0, 1) := by decide +kernel
theorem dX10_takes_12 : decode cX10_takes 12 = .ok (.aload_n 0, 1) := by decide +kernel
theorem dX10_takes_13 : decode cX10_takes 13 = .ok (.iload_n 1, 1) := by decide +kernel
theorem dX10_takes_14 : decode cX10_takes 14 = .ok (.iload_n 2, 1) := by decide +kernel
theorem dX10_takes_15 : decode cX10_takes 15 = .ok (.invokevirtual 218, 3) := by decide +kernel
theorem dX10_takes_18 : decode cX10_takes 18 = .ok (.invokevirtual 205, 3) := by decide +kernel
theorem dX10_takes_21 : decode cX10_takes 21 = .ok (.ireturn, 1) := by decide +kernel
theorem s_X10_takes {a1 a2 : Int} {s0 : xW} {q : Int × xW} (h : F_X10_takes a1 a2 s0 = some q) : xC 3 0 0 mX10_takes [vR 0, vI a1, vI a2] 155 s0 (xRv (vI q.1) q.2) := by
  refine xC.of [vR 0, vI a1, vI a2] (by decide +kernel) (Nat.le_of_ble_eq_true rfl) rfl ?_
  unfold F_X10_takes at h
  refine g_aln dX10_takes_0 rfl rfl (by decide) ?_
  refine g_getC 21 dX10_takes_1 fl_X10_53 rfl (by decide) ?_
  refine g_aln dX10_takes_4 rfl rfl (by decide) ?_
  refine g_getC 17 dX10_takes_5 fl_X10_46 rfl (by decide) ?_
  obtain ⟨s2, e1, h⟩ := xbp_e h
  refine g_cV10 dX10_takes_8 ml_X10_198 rfl (s_X3_note e1) (by decide) rfl ?_
  refine g_aln dX10_takes_11 rfl rfl (by decide) ?_
  refine g_aln dX10_takes_12 rfl rfl (by decide) ?_
  refine g_iln dX10_takes_13 rfl rfl ?_
  refine g_iln dX10_takes_14 rfl rfl ?_
  obtain ⟨r4, s5, e3, h⟩ := xbd_e h
  refine g_cV2v dX10_takes_15 ml_X10_218 rfl (s_X10_lengthen e3) (by decide) rfl ?_
  obtain ⟨r7, s8, e6, h⟩ := xbd_e h
  refine g_cV1v dX10_takes_18 ml_X10_205 rfl (s_X10_noted e6) (by decide) rfl ?_
  exact g_rI rfl dX10_takes_21 h
theorem dX10_together_0 : decode cX10_together 0 = .ok (.aload_n 0, 1) := by decide +kernel
theorem dX10_together_1 : decode cX10_together 1 = .ok (.invokevirtual 173, 3) := by decide +kernel
theorem dX10_together_4 : decode cX10_together 4 = .ok (.iconst 0, 1) := by decide +kernel
theorem dX10_together_5 : decode cX10_together 5 = .ok (.istore_n 1, 1) := by decide +kernel
theorem dX10_together_6 : decode cX10_together 6 = .ok (.iconst 0, 1) := by decide +kernel
theorem dX10_together_7 : decode cX10_together 7 = .ok (.istore_n 2, 1) := by decide +kernel
theorem dX10_together_8 : decode cX10_together 8 = .ok (.iconst 0, 1) := by decide +kernel
theorem dX10_together_9 : decode cX10_together 9 = .ok (.istore_n 3, 1) := by decide +kernel
theorem dX10_together_10 : decode cX10_together 10 = .ok (.iload_n 3, 1) := by decide +kernel
theorem dX10_together_11 : decode cX10_together 11 = .ok (.aload_n 0, 1) := by decide +kernel
theorem dX10_together_12 : decode cX10_together 12 = .ok (.getfield 93, 3) := by decide +kernel
theorem dX10_together_15 : decode cX10_together 15 = .ok (.if_icmp .ge 61, 3) := by decide +kernel
theorem dX10_together_18 : decode cX10_together 18 = .ok (.aload_n 0, 1) := by decide +kernel
theorem dX10_together_19 : decode cX10_together 19 = .ok (.aload_n 0, 1) := by decide +kernel
theorem dX10_together_20 : decode cX10_together 20 = .ok (.getfield 68, 3) := by decide +kernel
theorem dX10_together_23 : decode cX10_together 23 = .ok (.getfield 325, 3) := by decide +kernel
theorem dX10_together_26 : decode cX10_together 26 = .ok (.iload_n 3, 1) := by decide +kernel
theorem dX10_together_27 : decode cX10_together 27 = .ok (.iaload, 1) := by decide +kernel
theorem dX10_together_28 : decode cX10_together 28 = .ok (.invokevirtual 328, 3) := by decide +kernel
theorem dX10_together_31 : decode cX10_together 31 = .ok (.istore 4, 2) := by decide +kernel
theorem dX10_together_33 : decode cX10_together 33 = .ok (.iload_n 1, 1) := by decide +kernel
theorem dX10_together_34 : decode cX10_together 34 = .ok (.iload 4, 2) := by decide +kernel
theorem dX10_together_36 : decode cX10_together 36 = .ok (.iconst 1, 1) := by decide +kernel
theorem dX10_together_37 : decode cX10_together 37 = .ok (.iload_n 3, 1) := by decide +kernel
theorem dX10_together_38 : decode cX10_together 38 = .ok (.ishl, 1) := by decide +kernel
theorem dX10_together_39 : decode cX10_together 39 = .ok (.if_icmp .eq 9, 3) := by decide +kernel
theorem dX10_together_42 : decode cX10_together 42 = .ok (.iconst 1, 1) := by decide +kernel
theorem dX10_together_43 : decode cX10_together 43 = .ok (.iload_n 3, 1) := by decide +kernel
theorem dX10_together_44 : decode cX10_together 44 = .ok (.ishl, 1) := by decide +kernel
theorem dX10_together_45 : decode cX10_together 45 = .ok (.goto 4, 3) := by decide +kernel
theorem dX10_together_48 : decode cX10_together 48 = .ok (.iconst 0, 1) := by decide +kernel
theorem dX10_together_49 : decode cX10_together 49 = .ok (.ior, 1) := by decide +kernel
theorem dX10_together_50 : decode cX10_together 50 = .ok (.istore_n 1, 1) := by decide +kernel
theorem dX10_together_51 : decode cX10_together 51 = .ok (.iload_n 2, 1) := by decide +kernel
theorem dX10_together_52 : decode cX10_together 52 = .ok (.iload 4, 2) := by decide +kernel
theorem dX10_together_54 : decode cX10_together 54 = .ok (.iload_n 3, 1) := by decide +kernel
theorem dX10_together_55 : decode cX10_together 55 = .ok (.ishr, 1) := by decide +kernel
theorem dX10_together_56 : decode cX10_together 56 = .ok (.iload_n 3, 1) := by decide +kernel
theorem dX10_together_57 : decode cX10_together 57 = .ok (.ishl, 1) := by decide +kernel
theorem dX10_together_58 : decode cX10_together 58 = .ok (.iload 4, 2) := by decide +kernel
theorem dX10_together_60 : decode cX10_together 60 = .ok (.if_icmp .ne 7, 3) := by decide +kernel
theorem dX10_together_63 : decode cX10_together 63 = .ok (.iconst 1, 1) := by decide +kernel
theorem dX10_together_64 : decode cX10_together 64 = .ok (.goto 4, 3) := by decide +kernel
theorem dX10_together_67 : decode cX10_together 67 = .ok (.iconst 0, 1) := by decide +kernel
theorem dX10_together_68 : decode cX10_together 68 = .ok (.iadd, 1) := by decide +kernel
theorem dX10_together_69 : decode cX10_together 69 = .ok (.istore_n 2, 1) := by decide +kernel
theorem dX10_together_70 : decode cX10_together 70 = .ok (.iinc 3 1, 3) := by decide +kernel
theorem dX10_together_73 : decode cX10_together 73 = .ok (.goto (-63), 3) := by decide +kernel
theorem dX10_together_76 : decode cX10_together 76 = .ok (.aload_n 0, 1) := by decide +kernel
theorem dX10_together_77 : decode cX10_together 77 = .ok (.getfield 19, 3) := by decide +kernel
theorem dX10_together_80 : decode cX10_together 80 = .ok (.iload_n 2, 1) := by decide +kernel
theorem dX10_together_81 : decode cX10_together 81 = .ok (.i2l, 1) := by decide +kernel
theorem dX10_together_82 : decode cX10_together 82 = .ok (.invokevirtual 286, 3) := by decide +kernel
theorem dX10_together_85 : decode cX10_together 85 = .ok (.iload_n 1, 1) := by decide +kernel
theorem dX10_together_86 : decode cX10_together 86 = .ok (.ireturn, 1) := by decide +kernel
theorem s_X10_together_10 {s6 : xW} {q : Int × xW} {k : Int → Int → Int → Option (Int × xW)} (hk : ∀ (l1_19 : Int) (l2_20 : Int) (l3_21 : Int), k l1_19 l2_20 l3_21 = some q → xG 5 0 0 mX10_together 76 [vR 0, vI l1_19, vI l2_20, vI l3_21, vX] [] 155 s6 (xRv (vI q.1) q.2)) : ∀ (f : Nat) (l1_3 : Int) (l2_4 : Int) (l3_5 : Int), F_X10_together_10 s6 f l1_3 l2_4 l3_5 k = some q → xG 5 0 0 mX10_together 10 [vR 0, vI l1_3, vI l2_4, vI l3_5, vX] [] 155 s6 (xRv (vI q.1) q.2) := by
  intro f
  induction f with
  | zero => intro l1_3 l2_4 l3_5 h; cases h
  | succ f ih =>
    intro l1_3 l2_4 l3_5 h
    unfold F_X10_together_10 at h
    refine g_iln dX10_together_10 rfl rfl ?_
    refine g_aln dX10_together_11 rfl rfl (by decide) ?_
    refine g_getI 14 dX10_together_12 fl_X10_93 rfl rfl ?_
    refine g_wge dX10_together_15 (tgt := 76) rfl rfl rfl (fun q7 => ?_) (fun q7 => ?_)
    · replace h := xif_f q7 h
      exact hk l1_3 l2_4 l3_5 h
    · replace h := xif_t q7 h
      refine g_aln dX10_together_18 rfl rfl (by decide) ?_
      refine g_aln dX10_together_19 rfl rfl (by decide) ?_
      refine g_getC 89 dX10_together_20 fl_X10_68 rfl (by decide) ?_
      refine g_getC 91 dX10_together_23 fl_X10_325 rfl (by decide) ?_
      refine g_iln dX10_together_26 rfl rfl ?_
      obtain ⟨hg8, h⟩ := xgd_e h
      refine g_iald 8 dX10_together_27 rfl hg8 (by decide) ?_
      obtain ⟨r10, e9, h⟩ := xbp_e h
      refine g_cV1v dX10_together_28 ml_X10_328 rfl (s_X10_housesAt e9) (by decide) rfl ?_
      refine g_ist_4 dX10_together_31 (by decide) rfl ?_
      refine g_iln dX10_together_33 rfl rfl ?_
      refine g_il dX10_together_34 rfl ?_
      refine g_ic dX10_together_36 ?_
      refine g_iln dX10_together_37 rfl rfl ?_
      refine g_ishl dX10_together_38 ?_
      obtain ⟨v12, e13, h⟩ := xlt_e h
      have hj14 : xG 5 0 0 mX10_together 49 [vR 0, vX, vI l2_4, vI l3_5, vI r10] [vI v12, vI l1_3] 155 s6 (xRv (vI q.1) q.2) := by
        refine g_ior dX10_together_49 ?_
        refine g_istn_1 dX10_together_50 (by decide) rfl ?_
        refine g_iln dX10_together_51 rfl rfl ?_
        refine g_il dX10_together_52 rfl ?_
        refine g_iln dX10_together_54 rfl rfl ?_
        refine g_ishr dX10_together_55 ?_
        refine g_iln dX10_together_56 rfl rfl ?_
        refine g_ishl dX10_together_57 ?_
        refine g_il dX10_together_58 rfl ?_
        obtain ⟨v16, e17, h⟩ := xlt_e h
        have hj18 : xG 5 0 0 mX10_together 68 [vR 0, vI (xor' l1_3 v12), vX, vI l3_5, vX] [vI v16, vI l2_4] 155 s6 (xRv (vI q.1) q.2) := by
          refine g_iadd dX10_together_68 ?_
          refine g_istn_2 dX10_together_69 (by decide) rfl ?_
          refine g_inc_3 dX10_together_70 (by decide) rfl ?_
          refine g_goto dX10_together_73 (tgt := 10) rfl ?_
          exact ih (xor' l1_3 v12) (l2_4 + v16) (l3_5 + 1) h
        refine g_wne dX10_together_60 (tgt := 67) rfl rfl rfl (fun c15 => ?_) (fun c15 => ?_)
        · skip
          refine g_ic dX10_together_67 ?_
          refine g_drop_2 ?_
          refine g_drop_4 ?_
          exact g_vq ((if_neg c15).symm.trans e17) hj18
        · skip
          refine g_ic dX10_together_63 ?_
          refine g_goto dX10_together_64 (tgt := 68) rfl ?_
          refine g_drop_2 ?_
          refine g_drop_4 ?_
          exact g_vq ((if_pos c15).symm.trans e17) hj18
      refine g_weq dX10_together_39 (tgt := 48) rfl rfl rfl (fun c11 => ?_) (fun c11 => ?_)
      · skip
        refine g_ic dX10_together_48 ?_
        refine g_drop_1 ?_
        exact g_vq ((if_neg c11).symm.trans e13) hj14
      · skip
        refine g_ic dX10_together_42 ?_
        refine g_iln dX10_together_43 rfl rfl ?_
        refine g_ishl dX10_together_44 ?_
        refine g_goto dX10_together_45 (tgt := 49) rfl ?_
        refine g_drop_1 ?_
        exact g_vq ((if_pos c11).symm.trans e13) hj14
theorem s_X10_together {s0 : xW} {q : Int × xW} (h : F_X10_together  s0 = some q) : xC 5 0 0 mX10_together [vR 0] 155 s0 (xRv (vI q.1) q.2) := by
  refine xC.of [vR 0, vX, vX, vX, vX] (by decide +kernel) (Nat.le_of_ble_eq_true rfl) rfl ?_
  unfold F_X10_together at h
  refine g_aln dX10_together_0 rfl rfl (by decide) ?_
  obtain ⟨s2, e1, h⟩ := xbp_e h
  refine g_cV00 dX10_together_1 ml_X10_173 rfl (s_X10_planToday e1) (by decide) rfl ?_
  refine g_ic dX10_together_4 ?_
  refine g_istn_1 dX10_together_5 (by decide) rfl ?_
  refine g_ic dX10_together_6 ?_
  refine g_istn_2 dX10_together_7 (by decide) rfl ?_
  refine g_ic dX10_together_8 ?_
  refine g_istn_3 dX10_together_9 (by decide) rfl ?_
  refine s_X10_together_10 (fun l1_22 l2_23 l3_24 h => ?_) xN _ _ _ h
  refine g_aln dX10_together_76 rfl rfl (by decide) ?_
  refine g_getC 3 dX10_together_77 fl_X10_19 rfl (by decide) ?_
  refine g_iln dX10_together_80 rfl rfl ?_
  refine g_wi2l dX10_together_81 rfl ?_
  obtain ⟨s26, e25, h⟩ := xbp_e h
  refine g_cV10 dX10_together_82 ml_X10_286 rfl (s_X6_tell e25) (by decide) rfl ?_
  refine g_iln dX10_together_85 rfl rfl ?_
  exact g_rI rfl dX10_together_86 h
theorem dX3_takeBack_0 : decode cX3_takeBack 0 = .ok (.aload_n 1, 1) := by decide +kernel
theorem dX3_takeBack_1 : decode cX3_takeBack 1 = .ok (.aload_n 0, 1) := by decide +kernel
theorem dX3_takeBack_2 : decode cX3_takeBack 2 = .ok (.getfield 11, 3) := by decide +kernel
theorem dX3_takeBack_5 : decode cX3_takeBack 5 = .ok (.aload_n 0, 1) := by decide +kernel
theorem dX3_takeBack_6 : decode cX3_takeBack 6 = .ok (.getfield 15, 3) := by decide +kernel
theorem dX3_takeBack_9 : decode cX3_takeBack 9 = .ok (.aaload, 1) := by decide +kernel
theorem dX3_takeBack_10 : decode cX3_takeBack 10 = .ok (.invokevirtual 23, 3) := by decide +kernel
theorem dX3_takeBack_13 : decode cX3_takeBack 13 = .ok (.return_, 1) := by decide +kernel
theorem s_X3_takeBack {s0 : xW} {q : xW} (h : F_X3_takeBack  s0 = some q) : xC 2 0 0 mX3_takeBack [vR 21, vR 17] 155 s0 (xR0 q) := by
  refine xC.of [vR 21, vR 17] (by decide +kernel) (Nat.le_of_ble_eq_true rfl) rfl ?_
  unfold F_X3_takeBack at h
  refine g_aln dX3_takeBack_0 rfl rfl (by decide) ?_
  refine g_aln dX3_takeBack_1 rfl rfl (by decide) ?_
  refine g_getC 22 dX3_takeBack_2 fl_X3_11 rfl (by decide) ?_
  refine g_aln dX3_takeBack_5 rfl rfl (by decide) ?_
  refine g_getI 1 dX3_takeBack_6 fl_X3_15 rfl rfl ?_
  obtain ⟨hg1, h⟩ := xgd_e h
  obtain ⟨hg2, h⟩ := xgd_e h
  refine g_aald 16 23 dX3_takeBack_9 rfl rfl hg1 (by decide) ?_
  obtain ⟨s4, e3, h⟩ := xbp_e h
  refine g_cV10 dX3_takeBack_10 ml_X3_23 rfl (s_X9_copy e3) (by decide) rfl ?_
  exact g_rV rfl dX3_takeBack_13 h
theorem dX3_bringBack_0 : decode cX3_bringBack 0 = .ok (.aload_n 0, 1) := by decide +kernel
theorem dX3_bringBack_1 : decode cX3_bringBack 1 = .ok (.getfield 19, 3) := by decide +kernel
theorem dX3_bringBack_4 : decode cX3_bringBack 4 = .ok (.ifCond .ne 5, 3) := by decide +kernel
theorem dX3_bringBack_7 : decode cX3_bringBack 7 = .ok (.iconst 0, 1) := by decide +kernel
theorem dX3_bringBack_8 : decode cX3_bringBack 8 = .ok (.ireturn, 1) := by decide +kernel
theorem dX3_bringBack_9 : decode cX3_bringBack 9 = .ok (.aload_n 0, 1) := by decide +kernel
theorem dX3_bringBack_10 : decode cX3_bringBack 10 = .ok (.aload_n 0, 1) := by decide +kernel
theorem dX3_bringBack_11 : decode cX3_bringBack 11 = .ok (.getfield 15, 3) := by decide +kernel
theorem dX3_bringBack_14 : decode cX3_bringBack 14 = .ok (.bipush 15, 2) := by decide +kernel
theorem dX3_bringBack_16 : decode cX3_bringBack 16 = .ok (.iadd, 1) := by decide +kernel
theorem dX3_bringBack_17 : decode cX3_bringBack 17 = .ok (.bipush 16, 2) := by decide +kernel
theorem dX3_bringBack_19 : decode cX3_bringBack 19 = .ok (.irem, 1) := by decide +kernel
theorem dX3_bringBack_20 : decode cX3_bringBack 20 = .ok (.putfield 15, 3) := by decide +kernel
theorem dX3_bringBack_23 : decode cX3_bringBack 23 = .ok (.aload_n 0, 1) := by decide +kernel
theorem dX3_bringBack_24 : decode cX3_bringBack 24 = .ok (.dup, 1) := by decide +kernel
theorem dX3_bringBack_25 : decode cX3_bringBack 25 = .ok (.getfield 19, 3) := by decide +kernel
theorem dX3_bringBack_28 : decode cX3_bringBack 28 = .ok (.iconst 1, 1) := by decide +kernel
theorem dX3_bringBack_29 : decode cX3_bringBack 29 = .ok (.isub, 1) := by decide +kernel
theorem dX3_bringBack_30 : decode cX3_bringBack 30 = .ok (.putfield 19, 3) := by decide +kernel
theorem dX3_bringBack_33 : decode cX3_bringBack 33 = .ok (.aload_n 0, 1) := by decide +kernel
theorem dX3_bringBack_34 : decode cX3_bringBack 34 = .ok (.aload_n 1, 1) := by decide +kernel
theorem dX3_bringBack_35 : decode cX3_bringBack 35 = .ok (.invokevirtual 33, 3) := by decide +kernel
theorem dX3_bringBack_38 : decode cX3_bringBack 38 = .ok (.iconst 1, 1) := by decide +kernel
theorem dX3_bringBack_39 : decode cX3_bringBack 39 = .ok (.ireturn, 1) := by decide +kernel
theorem s_X3_bringBack {s0 : xW} {q : Int × xW} (h : F_X3_bringBack  s0 = some q) : xC 3 0 0 mX3_bringBack [vR 21, vR 17] 155 s0 (xRv (vI q.1) q.2) := by
  refine xC.of [vR 21, vR 17] (by decide +kernel) (Nat.le_of_ble_eq_true rfl) rfl ?_
  unfold F_X3_bringBack at h
  refine g_aln dX3_bringBack_0 rfl rfl (by decide) ?_
  refine g_getI 2 dX3_bringBack_1 fl_X3_19 rfl rfl ?_
  refine g_yne dX3_bringBack_4 (tgt := 9) rfl rfl (fun q1 => ?_) (fun q1 => ?_)
  · replace h := xif_f q1 h
    refine g_aln dX3_bringBack_9 rfl rfl (by decide) ?_
    refine g_aln dX3_bringBack_10 rfl rfl (by decide) ?_
    refine g_getI 1 dX3_bringBack_11 fl_X3_15 rfl rfl ?_
    refine g_bi dX3_bringBack_14 (by decide) ?_
    refine g_iadd dX3_bringBack_16 ?_
    refine g_bi dX3_bringBack_17 (by decide) ?_
    refine g_wrem dX3_bringBack_19 rfl (xw_id (by decide)) (by decide) ?_
    obtain ⟨s2, e3, h⟩ := xlt_e h
    refine h_putI 1 dX3_bringBack_20 fl_X3_15 rfl rfl e3 ?_
    refine g_aln dX3_bringBack_23 rfl rfl (by decide) ?_
    refine g_dup dX3_bringBack_24 rfl ?_
    refine g_getI 2 dX3_bringBack_25 fl_X3_19 rfl rfl ?_
    refine g_ic dX3_bringBack_28 ?_
    refine g_isub dX3_bringBack_29 ?_
    obtain ⟨s4, e5, h⟩ := xlt_e h
    refine h_putI 2 dX3_bringBack_30 fl_X3_19 rfl rfl e5 ?_
    refine g_aln dX3_bringBack_33 rfl rfl (by decide) ?_
    refine g_aln dX3_bringBack_34 rfl rfl (by decide) ?_
    obtain ⟨s7, e6, h⟩ := xbp_e h
    refine g_cV10 dX3_bringBack_35 ml_X3_33 rfl (s_X3_takeBack e6) (by decide) rfl ?_
    refine g_ic dX3_bringBack_38 ?_
    exact g_rZ rfl dX3_bringBack_39 (by decide) h
  · replace h := xif_t q1 h
    refine g_ic dX3_bringBack_7 ?_
    exact g_rZ rfl dX3_bringBack_8 (by decide) h
theorem dX10_undo_0 : decode cX10_undo 0 = .ok (.aload_n 0, 1) := by decide +kernel
theorem dX10_undo_1 : decode cX10_undo 1 = .ok (.getfield 53, 3) := by decide +kernel
theorem dX10_undo_4 : decode cX10_undo 4 = .ok (.aload_n 0, 1) := by decide +kernel
theorem dX10_undo_5 : decode cX10_undo 5 = .ok (.getfield 46, 3) := by decide +kernel
theorem dX10_undo_8 : decode cX10_undo 8 = .ok (.invokevirtual 246, 3) := by decide +kernel
theorem dX10_undo_11 : decode cX10_undo 11 = .ok (.ifCond .eq 13, 3) := by decide +kernel
theorem dX10_undo_14 : decode cX10_undo 14 = .ok (.aload_n 0, 1) := by decide +kernel
theorem dX10_undo_15 : decode cX10_undo 15 = .ok (.getfield 53, 3) := by decide +kernel
theorem dX10_undo_18 : decode cX10_undo 18 = .ok (.getfield 250, 3) := by decide +kernel
theorem dX10_undo_21 : decode cX10_undo 21 = .ok (.goto 4, 3) := by decide +kernel
theorem dX10_undo_24 : decode cX10_undo 24 = .ok (.iconst (-1), 1) := by decide +kernel
theorem dX10_undo_25 : decode cX10_undo 25 = .ok (.ireturn, 1) := by decide +kernel
theorem s_X10_undo {s0 : xW} {q : Int × xW} (h : F_X10_undo  s0 = some q) : xC 4 0 0 mX10_undo [vR 0] 155 s0 (xRv (vI q.1) q.2) := by
  refine xC.of [vR 0] (by decide +kernel) (Nat.le_of_ble_eq_true rfl) rfl ?_
  unfold F_X10_undo at h
  refine g_aln dX10_undo_0 rfl rfl (by decide) ?_
  refine g_getC 21 dX10_undo_1 fl_X10_53 rfl (by decide) ?_
  refine g_aln dX10_undo_4 rfl rfl (by decide) ?_
  refine g_getC 17 dX10_undo_5 fl_X10_46 rfl (by decide) ?_
  obtain ⟨r2, s3, e1, h⟩ := xbd_e h
  refine g_cV1v dX10_undo_8 ml_X10_246 rfl (s_X3_bringBack e1) (by decide) rfl ?_
  obtain ⟨v5, e6, h⟩ := xlt_e h
  have hj7 : xG 4 0 0 mX10_undo 25 [vX] [vI v5] 155 s3 (xRv (vI q.1) q.2) := by
    exact g_rI rfl dX10_undo_25 h
  refine g_yeq dX10_undo_11 (tgt := 24) rfl rfl (fun c4 => ?_) (fun c4 => ?_)
  · skip
    refine g_ic dX10_undo_24 ?_
    refine g_drop_0 ?_
    exact g_vq ((if_neg c4).symm.trans e6) hj7
  · skip
    refine g_aln dX10_undo_14 rfl rfl (by decide) ?_
    refine g_getC 21 dX10_undo_15 fl_X10_53 rfl (by decide) ?_
    refine g_getI 2 dX10_undo_18 fl_X10_250 rfl rfl ?_
    refine g_goto dX10_undo_21 (tgt := 25) rfl ?_
    refine g_drop_0 ?_
    exact g_vq ((if_pos c4).symm.trans e6) hj7
theorem dX10_weekMisfit_0 : decode cX10_weekMisfit 0 = .ok (.iconst 0, 1) := by decide +kernel
theorem dX10_weekMisfit_1 : decode cX10_weekMisfit 1 = .ok (.istore_n 1, 1) := by decide +kernel
theorem dX10_weekMisfit_2 : decode cX10_weekMisfit 2 = .ok (.iconst 0, 1) := by decide +kernel
theorem dX10_weekMisfit_3 : decode cX10_weekMisfit 3 = .ok (.istore_n 2, 1) := by decide +kernel
theorem dX10_weekMisfit_4 : decode cX10_weekMisfit 4 = .ok (.iconst 0, 1) := by decide +kernel
theorem dX10_weekMisfit_5 : decode cX10_weekMisfit 5 = .ok (.istore_n 3, 1) := by decide +kernel
theorem dX10_weekMisfit_6 : decode cX10_weekMisfit 6 = .ok (.iload_n 3, 1) := by decide +kernel
theorem dX10_weekMisfit_7 : decode cX10_weekMisfit 7 = .ok (.aload_n 0, 1) := by decide +kernel
theorem dX10_weekMisfit_8 : decode cX10_weekMisfit 8 = .ok (.getfield 12, 3) := by decide +kernel
theorem dX10_weekMisfit_11 : decode cX10_weekMisfit 11 = .ok (.getfield 112, 3) := by decide +kernel
theorem dX10_weekMisfit_14 : decode cX10_weekMisfit 14 = .ok (.if_icmp .ge 91, 3) := by decide +kernel
theorem dX10_weekMisfit_17 : decode cX10_weekMisfit 17 = .ok (.iload_n 3, 1) := by decide +kernel
theorem dX10_weekMisfit_18 : decode cX10_weekMisfit 18 = .ok (.bipush 60, 2) := by decide +kernel
theorem dX10_weekMisfit_20 : decode cX10_weekMisfit 20 = .ok (.if_icmp .ne 5, 3) := by decide +kernel
theorem dX10_weekMisfit_23 : decode cX10_weekMisfit 23 = .ok (.iload_n 3, 1) := by decide +kernel
theorem dX10_weekMisfit_24 : decode cX10_weekMisfit 24 = .ok (.ireturn, 1) := by decide +kernel
theorem dX10_weekMisfit_25 : decode cX10_weekMisfit 25 = .ok (.iload_n 2, 1) := by decide +kernel
theorem dX10_weekMisfit_26 : decode cX10_weekMisfit 26 = .ok (.ifCond .ne 23, 3) := by decide +kernel
theorem dX10_weekMisfit_29 : decode cX10_weekMisfit 29 = .ok (.aload_n 0, 1) := by decide +kernel
theorem dX10_weekMisfit_30 : decode cX10_weekMisfit 30 = .ok (.getfield 12, 3) := by decide +kernel
theorem dX10_weekMisfit_33 : decode cX10_weekMisfit 33 = .ok (.iload_n 3, 1) := by decide +kernel
theorem dX10_weekMisfit_34 : decode cX10_weekMisfit 34 = .ok (.invokevirtual 230, 3) := by decide +kernel
theorem dX10_weekMisfit_37 : decode cX10_weekMisfit 37 = .ok (.istore_n 1, 1) := by decide +kernel
theorem dX10_weekMisfit_38 : decode cX10_weekMisfit 38 = .ok (.iload_n 1, 1) := by decide +kernel
theorem dX10_weekMisfit_39 : decode cX10_weekMisfit 39 = .ok (.invokestatic 233, 3) := by decide +kernel
theorem dX10_weekMisfit_42 : decode cX10_weekMisfit 42 = .ok (.istore_n 2, 1) := by decide +kernel
theorem dX10_weekMisfit_43 : decode cX10_weekMisfit 43 = .ok (.iload_n 2, 1) := by decide +kernel
theorem dX10_weekMisfit_44 : decode cX10_weekMisfit 44 = .ok (.ifCond .ne 55, 3) := by decide +kernel
theorem dX10_weekMisfit_47 : decode cX10_weekMisfit 47 = .ok (.iload_n 3, 1) := by decide +kernel
theorem dX10_weekMisfit_48 : decode cX10_weekMisfit 48 = .ok (.ireturn, 1) := by decide +kernel
theorem dX10_weekMisfit_49 : decode cX10_weekMisfit 49 = .ok (.iload_n 1, 1) := by decide +kernel
theorem dX10_weekMisfit_50 : decode cX10_weekMisfit 50 = .ok (.bipush 98, 2) := by decide +kernel
theorem dX10_weekMisfit_52 : decode cX10_weekMisfit 52 = .ok (.if_icmp .eq 14, 3) := by decide +kernel
theorem dX10_weekMisfit_55 : decode cX10_weekMisfit 55 = .ok (.iload_n 1, 1) := by decide +kernel
theorem dX10_weekMisfit_56 : decode cX10_weekMisfit 56 = .ok (.bipush 108, 2) := by decide +kernel
theorem dX10_weekMisfit_58 : decode cX10_weekMisfit 58 = .ok (.if_icmp .ne 12, 3) := by decide +kernel
theorem dX10_weekMisfit_61 : decode cX10_weekMisfit 61 = .ok (.iload_n 2, 1) := by decide +kernel
theorem dX10_weekMisfit_62 : decode cX10_weekMisfit 62 = .ok (.iconst 1, 1) := by decide +kernel
theorem dX10_weekMisfit_63 : decode cX10_weekMisfit 63 = .ok (.if_icmp .ne 7, 3) := by decide +kernel
theorem dX10_weekMisfit_66 : decode cX10_weekMisfit 66 = .ok (.iconst 1, 1) := by decide +kernel
theorem dX10_weekMisfit_67 : decode cX10_weekMisfit 67 = .ok (.goto 4, 3) := by decide +kernel
theorem dX10_weekMisfit_70 : decode cX10_weekMisfit 70 = .ok (.iconst 0, 1) := by decide +kernel
theorem dX10_weekMisfit_71 : decode cX10_weekMisfit 71 = .ok (.istore 4, 2) := by decide +kernel
theorem dX10_weekMisfit_73 : decode cX10_weekMisfit 73 = .ok (.aload_n 0, 1) := by decide +kernel
theorem dX10_weekMisfit_74 : decode cX10_weekMisfit 74 = .ok (.getfield 12, 3) := by decide +kernel
theorem dX10_weekMisfit_77 : decode cX10_weekMisfit 77 = .ok (.iload_n 3, 1) := by decide +kernel
theorem dX10_weekMisfit_78 : decode cX10_weekMisfit 78 = .ok (.invokevirtual 416, 3) := by decide +kernel
theorem dX10_weekMisfit_81 : decode cX10_weekMisfit 81 = .ok (.iload 4, 2) := by decide +kernel
theorem dX10_weekMisfit_83 : decode cX10_weekMisfit 83 = .ok (.ifCond .eq 7, 3) := by decide +kernel
theorem dX10_weekMisfit_86 : decode cX10_weekMisfit 86 = .ok (.iconst 1, 1) := by decide +kernel
theorem dX10_weekMisfit_87 : decode cX10_weekMisfit 87 = .ok (.goto 4, 3) := by decide +kernel
theorem dX10_weekMisfit_90 : decode cX10_weekMisfit 90 = .ok (.iconst 0, 1) := by decide +kernel
theorem dX10_weekMisfit_91 : decode cX10_weekMisfit 91 = .ok (.if_icmp .ge 5, 3) := by decide +kernel
theorem dX10_weekMisfit_94 : decode cX10_weekMisfit 94 = .ok (.iload_n 3, 1) := by decide +kernel
theorem dX10_weekMisfit_95 : decode cX10_weekMisfit 95 = .ok (.ireturn, 1) := by decide +kernel
theorem dX10_weekMisfit_96 : decode cX10_weekMisfit 96 = .ok (.iinc 2 (-1), 3) := by decide +kernel
theorem dX10_weekMisfit_99 : decode cX10_weekMisfit 99 = .ok (.iinc 3 1, 3) := by decide +kernel
theorem dX10_weekMisfit_102 : decode cX10_weekMisfit 102 = .ok (.goto (-96), 3) := by decide +kernel
theorem dX10_weekMisfit_105 : decode cX10_weekMisfit 105 = .ok (.iload_n 2, 1) := by decide +kernel
theorem dX10_weekMisfit_106 : decode cX10_weekMisfit 106 = .ok (.ifCond .ne 7, 3) := by decide +kernel
theorem dX10_weekMisfit_109 : decode cX10_weekMisfit 109 = .ok (.iconst (-1), 1) := by decide +kernel
theorem dX10_weekMisfit_110 : decode cX10_weekMisfit 110 = .ok (.goto 10, 3) := by decide +kernel
theorem dX10_weekMisfit_113 : decode cX10_weekMisfit 113 = .ok (.aload_n 0, 1) := by decide +kernel
theorem dX10_weekMisfit_114 : decode cX10_weekMisfit 114 = .ok (.getfield 12, 3) := by decide +kernel
theorem dX10_weekMisfit_117 : decode cX10_weekMisfit 117 = .ok (.getfield 112, 3) := by decide +kernel
theorem dX10_weekMisfit_120 : decode cX10_weekMisfit 120 = .ok (.ireturn, 1) := by decide +kernel
theorem s_X10_weekMisfit_6 {s4 : xW} {q : Int} {k : Int → Int → Int → Option (Int)} (hk : ∀ (l1_31 : Int) (l2_32 : Int) (l3_33 : Int), k l1_31 l2_32 l3_33 = some q → xG 2 0 0 mX10_weekMisfit 105 [vR 0, vI l1_31, vI l2_32, vI l3_33, vX] [] 155 s4 (xRv (vI q) s4)) : ∀ (f : Nat) (l1_1 : Int) (l2_2 : Int) (l3_3 : Int), F_X10_weekMisfit_6 s4 f l1_1 l2_2 l3_3 k = some q → xG 2 0 0 mX10_weekMisfit 6 [vR 0, vI l1_1, vI l2_2, vI l3_3, vX] [] 155 s4 (xRv (vI q) s4) := by
  intro f
  induction f with
  | zero => intro l1_1 l2_2 l3_3 h; cases h
  | succ f ih =>
    intro l1_1 l2_2 l3_3 h
    unfold F_X10_weekMisfit_6 at h
    refine g_iln dX10_weekMisfit_6 rfl rfl ?_
    refine g_aln dX10_weekMisfit_7 rfl rfl (by decide) ?_
    refine g_getC 1 dX10_weekMisfit_8 fl_X10_12 rfl (by decide) ?_
    refine g_getI 1 dX10_weekMisfit_11 fl_X10_112 rfl rfl ?_
    refine g_wge dX10_weekMisfit_14 (tgt := 105) rfl rfl rfl (fun q5 => ?_) (fun q5 => ?_)
    · replace h := xif_f q5 h
      exact hk l1_1 l2_2 l3_3 h
    · replace h := xif_t q5 h
      refine g_iln dX10_weekMisfit_17 rfl rfl ?_
      refine g_bi dX10_weekMisfit_18 (by decide) ?_
      refine g_wne dX10_weekMisfit_20 (tgt := 25) rfl rfl (xw_id (by decide)) (fun q6 => ?_) (fun q6 => ?_)
      · replace h := xif_f q6 h
        refine g_iln dX10_weekMisfit_25 rfl rfl ?_
        obtain ⟨j9, ej10, h⟩ := xjn_e h
        have hj11 : ∀ (l1_7 : Int) (l2_8 : Int), j9 l1_7 l2_8 = some q → xG 2 0 0 mX10_weekMisfit 99 [vR 0, vI l1_7, vI l2_8, vI l3_3, vX] [] 155 s4 (xRv (vI q) s4) := by
          intro l1_7 l2_8 h
          rw [ej10] at h
          refine g_inc_3 dX10_weekMisfit_99 (by decide) rfl ?_
          refine g_goto dX10_weekMisfit_102 (tgt := 6) rfl ?_
          exact ih l1_7 l2_8 (l3_3 + 1) h
        clear ej10
        refine g_yne dX10_weekMisfit_26 (tgt := 49) rfl rfl (fun q12 => ?_) (fun q12 => ?_)
        · replace h := xif_f q12 h
          refine g_iln dX10_weekMisfit_49 rfl rfl ?_
          refine g_bi dX10_weekMisfit_50 (by decide) ?_
          obtain ⟨v16, e17, h⟩ := xlt_e h
          have hj18 : xG 2 0 0 mX10_weekMisfit 71 [vR 0, vI l1_1, vI l2_2, vI l3_3, vX] [vI v16] 155 s4 (xRv (vI q) s4) := by
            refine g_ist_4 dX10_weekMisfit_71 (by decide) rfl ?_
            refine g_aln dX10_weekMisfit_73 rfl rfl (by decide) ?_
            refine g_getC 1 dX10_weekMisfit_74 fl_X10_12 rfl (by decide) ?_
            refine g_iln dX10_weekMisfit_77 rfl rfl ?_
            obtain ⟨r20, e19, h⟩ := xbp_e h
            refine g_cV1v dX10_weekMisfit_78 ml_X10_416 rfl (s_X8_digit e19) (by decide) rfl ?_
            refine g_il dX10_weekMisfit_81 rfl ?_
            obtain ⟨v22, e23, h⟩ := xlt_e h
            have hj24 : xG 2 0 0 mX10_weekMisfit 91 [vR 0, vI l1_1, vI l2_2, vI l3_3, vX] [vI v22, vI r20] 155 s4 (xRv (vI q) s4) := by
              refine g_wge dX10_weekMisfit_91 (tgt := 96) rfl rfl rfl (fun q25 => ?_) (fun q25 => ?_)
              · replace h := xif_f q25 h
                refine g_inc_2 dX10_weekMisfit_96 (by decide) rfl ?_
                exact hj11 l1_1 (l2_2 + (-1)) h
              · replace h := xif_t q25 h
                refine g_iln dX10_weekMisfit_94 rfl rfl ?_
                exact g_pI rfl dX10_weekMisfit_95 h
            refine g_yeq dX10_weekMisfit_83 (tgt := 90) rfl rfl (fun c21 => ?_) (fun c21 => ?_)
            · skip
              refine g_ic dX10_weekMisfit_90 ?_
              refine g_drop_4 ?_
              exact g_vq ((if_neg c21).symm.trans e23) hj24
            · skip
              refine g_ic dX10_weekMisfit_86 ?_
              refine g_goto dX10_weekMisfit_87 (tgt := 91) rfl ?_
              refine g_drop_4 ?_
              exact g_vq ((if_pos c21).symm.trans e23) hj24
          refine g_weq dX10_weekMisfit_52 (tgt := 66) rfl rfl (xw_id (by decide)) (fun c13 => ?_) (fun c13 => ?_)
          · skip
            refine g_ic dX10_weekMisfit_66 ?_
            refine g_goto dX10_weekMisfit_67 (tgt := 71) rfl ?_
            exact g_vq ((if_neg c13).symm.trans e17) hj18
          · skip
            refine g_iln dX10_weekMisfit_55 rfl rfl ?_
            refine g_bi dX10_weekMisfit_56 (by decide) ?_
            refine g_wne dX10_weekMisfit_58 (tgt := 70) rfl rfl (xw_id (by decide)) (fun c14 => ?_) (fun c14 => ?_)
            · skip
              refine g_ic dX10_weekMisfit_70 ?_
              exact g_vq (((if_pos c13).trans (if_neg c14)).symm.trans e17) hj18
            · skip
              refine g_iln dX10_weekMisfit_61 rfl rfl ?_
              refine g_ic dX10_weekMisfit_62 ?_
              refine g_wne dX10_weekMisfit_63 (tgt := 70) rfl rfl (xw_id (by decide)) (fun c15 => ?_) (fun c15 => ?_)
              · skip
                refine g_ic dX10_weekMisfit_70 ?_
                exact g_vq ((((if_pos c13).trans (if_pos c14)).trans (if_neg c15)).symm.trans e17) hj18
              · skip
                refine g_ic dX10_weekMisfit_66 ?_
                refine g_goto dX10_weekMisfit_67 (tgt := 71) rfl ?_
                exact g_vq ((((if_pos c13).trans (if_pos c14)).trans (if_pos c15)).symm.trans e17) hj18
        · replace h := xif_t q12 h
          refine g_aln dX10_weekMisfit_29 rfl rfl (by decide) ?_
          refine g_getC 1 dX10_weekMisfit_30 fl_X10_12 rfl (by decide) ?_
          refine g_iln dX10_weekMisfit_33 rfl rfl ?_
          obtain ⟨r27, e26, h⟩ := xbp_e h
          refine g_cV1v dX10_weekMisfit_34 ml_X10_230 rfl (s_X8_at e26) (by decide) rfl ?_
          refine g_istn_1 dX10_weekMisfit_37 (by decide) rfl ?_
          refine g_iln dX10_weekMisfit_38 rfl rfl ?_
          obtain ⟨r29, e28, h⟩ := xbp_e h
          refine g_cS1v dX10_weekMisfit_39 ml_X10_233 (s_X10_digitsOf e28) (by decide) rfl ?_
          refine g_istn_2 dX10_weekMisfit_42 (by decide) rfl ?_
          refine g_iln dX10_weekMisfit_43 rfl rfl ?_
          refine g_yne dX10_weekMisfit_44 (tgt := 99) rfl rfl (fun q30 => ?_) (fun q30 => ?_)
          · replace h := xif_f q30 h
            exact hj11 r27 r29 h
          · replace h := xif_t q30 h
            refine g_iln dX10_weekMisfit_47 rfl rfl ?_
            exact g_pI rfl dX10_weekMisfit_48 h
      · replace h := xif_t q6 h
        refine g_iln dX10_weekMisfit_23 rfl rfl ?_
        exact g_pI rfl dX10_weekMisfit_24 h
theorem s_X10_weekMisfit {s0 : xW} {q : Int} (h : F_X10_weekMisfit  s0 = some q) : xC 2 0 0 mX10_weekMisfit [vR 0] 155 s0 (xRv (vI q) s0) := by
  refine xC.of [vR 0, vX, vX, vX, vX] (by decide +kernel) (Nat.le_of_ble_eq_true rfl) rfl ?_
  unfold F_X10_weekMisfit at h
  refine g_ic dX10_weekMisfit_0 ?_
  refine g_istn_1 dX10_weekMisfit_1 (by decide) rfl ?_
  refine g_ic dX10_weekMisfit_2 ?_
  refine g_istn_2 dX10_weekMisfit_3 (by decide) rfl ?_
  refine g_ic dX10_weekMisfit_4 ?_
  refine g_istn_3 dX10_weekMisfit_5 (by decide) rfl ?_
  refine s_X10_weekMisfit_6 (fun l1_34 l2_35 l3_36 h => ?_) xN _ _ _ h
  refine g_iln dX10_weekMisfit_105 rfl rfl ?_
  obtain ⟨v38, e39, h⟩ := xlt_e h
  have hj40 : xG 2 0 0 mX10_weekMisfit 120 [vX, vX, vX, vX, vX] [vI v38] 155 s0 (xRv (vI q) s0) := by
    exact g_pI rfl dX10_weekMisfit_120 h
  refine g_yne dX10_weekMisfit_106 (tgt := 113) rfl rfl (fun c37 => ?_) (fun c37 => ?_)
  · skip
    refine g_aln dX10_weekMisfit_113 rfl rfl (by decide) ?_
    refine g_getC 1 dX10_weekMisfit_114 fl_X10_12 rfl (by decide) ?_
    refine g_getI 1 dX10_weekMisfit_117 fl_X10_112 rfl rfl ?_
    refine g_drop_0 ?_
    refine g_drop_1 ?_
    refine g_drop_2 ?_
    refine g_drop_3 ?_
    exact g_vq ((if_neg c37).symm.trans e39) hj40
  · skip
    refine g_ic dX10_weekMisfit_109 ?_
    refine g_goto dX10_weekMisfit_110 (tgt := 120) rfl ?_
    refine g_drop_0 ?_
    refine g_drop_1 ?_
    refine g_drop_2 ?_
    refine g_drop_3 ?_
    exact g_vq ((if_pos c37).symm.trans e39) hj40
theorem dX10_week_0 : decode cX10_week 0 = .ok (.aload_n 0, 1) := by decide +kernel
theorem dX10_week_1 : decode cX10_week 1 = .ok (.invokevirtual 224, 3) := by decide +kernel
theorem dX10_week_4 : decode cX10_week 4 = .ok (.istore_n 1, 1) := by decide +kernel
theorem dX10_week_5 : decode cX10_week 5 = .ok (.iload_n 1, 1) := by decide +kernel
theorem dX10_week_6 : decode cX10_week 6 = .ok (.iconst (-1), 1) := by decide +kernel
theorem dX10_week_7 : decode cX10_week 7 = .ok (.if_icmp .eq 14, 3) := by decide +kernel
theorem dX10_week_10 : decode cX10_week 10 = .ok (.aload_n 0, 1) := by decide +kernel
theorem dX10_week_11 : decode cX10_week 11 = .ok (.getfield 12, 3) := by decide +kernel
theorem dX10_week_14 : decode cX10_week 14 = .ok (.invokevirtual 125, 3) := by decide +kernel
theorem dX10_week_17 : decode cX10_week 17 = .ok (.iconst (-1), 1) := by decide +kernel
theorem dX10_week_18 : decode cX10_week 18 = .ok (.iload_n 1, 1) := by decide +kernel
theorem dX10_week_19 : decode cX10_week 19 = .ok (.isub, 1) := by decide +kernel
theorem dX10_week_20 : decode cX10_week 20 = .ok (.ireturn, 1) := by decide +kernel
theorem dX10_week_21 : decode cX10_week 21 = .ok (.aload_n 0, 1) := by decide +kernel
theorem dX10_week_22 : decode cX10_week 22 = .ok (.getfield 53, 3) := by decide +kernel
theorem dX10_week_25 : decode cX10_week 25 = .ok (.aload_n 0, 1) := by decide +kernel
theorem dX10_week_26 : decode cX10_week 26 = .ok (.getfield 46, 3) := by decide +kernel
theorem dX10_week_29 : decode cX10_week 29 = .ok (.invokevirtual 198, 3) := by decide +kernel
theorem dX10_week_32 : decode cX10_week 32 = .ok (.iconst 0, 1) := by decide +kernel
theorem dX10_week_33 : decode cX10_week 33 = .ok (.istore_n 2, 1) := by decide +kernel
theorem dX10_week_34 : decode cX10_week 34 = .ok (.iconst 0, 1) := by decide +kernel
theorem dX10_week_35 : decode cX10_week 35 = .ok (.istore_n 3, 1) := by decide +kernel
theorem dX10_week_36 : decode cX10_week 36 = .ok (.iconst 0, 1) := by decide +kernel
theorem dX10_week_37 : decode cX10_week 37 = .ok (.istore 4, 2) := by decide +kernel
theorem dX10_week_39 : decode cX10_week 39 = .ok (.iload 4, 2) := by decide +kernel
theorem dX10_week_41 : decode cX10_week 41 = .ok (.aload_n 0, 1) := by decide +kernel
theorem dX10_week_42 : decode cX10_week 42 = .ok (.getfield 12, 3) := by decide +kernel
theorem dX10_week_45 : decode cX10_week 45 = .ok (.getfield 112, 3) := by decide +kernel
theorem dX10_week_48 : decode cX10_week 48 = .ok (.if_icmp .ge 56, 3) := by decide +kernel
theorem dX10_week_51 : decode cX10_week 51 = .ok (.iload_n 3, 1) := by decide +kernel
theorem dX10_week_52 : decode cX10_week 52 = .ok (.ifCond .ne 52, 3) := by decide +kernel
theorem dX10_week_55 : decode cX10_week 55 = .ok (.aload_n 0, 1) := by decide +kernel
theorem dX10_week_56 : decode cX10_week 56 = .ok (.iload 4, 2) := by decide +kernel
theorem dX10_week_58 : decode cX10_week 58 = .ok (.invokevirtual 227, 3) := by decide +kernel
theorem dX10_week_61 : decode cX10_week 61 = .ok (.ifCond .ge 7, 3) := by decide +kernel
theorem dX10_week_64 : decode cX10_week 64 = .ok (.iconst 1, 1) := by decide +kernel
theorem dX10_week_65 : decode cX10_week 65 = .ok (.goto 4, 3) := by decide +kernel
theorem dX10_week_68 : decode cX10_week 68 = .ok (.iconst 0, 1) := by decide +kernel
theorem dX10_week_69 : decode cX10_week 69 = .ok (.istore_n 3, 1) := by decide +kernel
theorem dX10_week_70 : decode cX10_week 70 = .ok (.iload_n 2, 1) := by decide +kernel
theorem dX10_week_71 : decode cX10_week 71 = .ok (.iload_n 3, 1) := by decide +kernel
theorem dX10_week_72 : decode cX10_week 72 = .ok (.ifCond .eq 7, 3) := by decide +kernel
theorem dX10_week_75 : decode cX10_week 75 = .ok (.iconst 0, 1) := by decide +kernel
theorem dX10_week_76 : decode cX10_week 76 = .ok (.goto 4, 3) := by decide +kernel
theorem dX10_week_79 : decode cX10_week 79 = .ok (.iconst 1, 1) := by decide +kernel
theorem dX10_week_80 : decode cX10_week 80 = .ok (.iadd, 1) := by decide +kernel
theorem dX10_week_81 : decode cX10_week 81 = .ok (.istore_n 2, 1) := by decide +kernel
theorem dX10_week_82 : decode cX10_week 82 = .ok (.iload 4, 2) := by decide +kernel
theorem dX10_week_84 : decode cX10_week 84 = .ok (.iconst 1, 1) := by decide +kernel
theorem dX10_week_85 : decode cX10_week 85 = .ok (.aload_n 0, 1) := by decide +kernel
theorem dX10_week_86 : decode cX10_week 86 = .ok (.getfield 12, 3) := by decide +kernel
theorem dX10_week_89 : decode cX10_week 89 = .ok (.iload 4, 2) := by decide +kernel
theorem dX10_week_91 : decode cX10_week 91 = .ok (.invokevirtual 230, 3) := by decide +kernel
theorem dX10_week_94 : decode cX10_week 94 = .ok (.invokestatic 233, 3) := by decide +kernel
theorem dX10_week_97 : decode cX10_week 97 = .ok (.iadd, 1) := by decide +kernel
theorem dX10_week_98 : decode cX10_week 98 = .ok (.iadd, 1) := by decide +kernel
theorem dX10_week_99 : decode cX10_week 99 = .ok (.istore 4, 2) := by decide +kernel
theorem dX10_week_101 : decode cX10_week 101 = .ok (.goto (-62), 3) := by decide +kernel
theorem dX10_week_104 : decode cX10_week 104 = .ok (.iload_n 2, 1) := by decide +kernel
theorem dX10_week_105 : decode cX10_week 105 = .ok (.ifCond .le 10, 3) := by decide +kernel
theorem dX10_week_108 : decode cX10_week 108 = .ok (.aload_n 0, 1) := by decide +kernel
theorem dX10_week_109 : decode cX10_week 109 = .ok (.getfield 53, 3) := by decide +kernel
theorem dX10_week_112 : decode cX10_week 112 = .ok (.invokevirtual 237, 3) := by decide +kernel
theorem dX10_week_115 : decode cX10_week 115 = .ok (.aload_n 0, 1) := by decide +kernel
theorem dX10_week_116 : decode cX10_week 116 = .ok (.getfield 12, 3) := by decide +kernel
theorem dX10_week_119 : decode cX10_week 119 = .ok (.invokevirtual 125, 3) := by decide +kernel
theorem dX10_week_122 : decode cX10_week 122 = .ok (.aload_n 0, 1) := by decide +kernel
theorem dX10_week_123 : decode cX10_week 123 = .ok (.getfield 19, 3) := by decide +kernel
theorem dX10_week_126 : decode cX10_week 126 = .ok (.iload_n 3, 1) := by decide +kernel
theorem dX10_week_127 : decode cX10_week 127 = .ok (.ifCond .eq 7, 3) := by decide +kernel
theorem dX10_week_130 : decode cX10_week 130 = .ok (.lconst 1, 1) := by decide +kernel
theorem dX10_week_131 : decode cX10_week 131 = .ok (.goto 4, 3) := by decide +kernel
theorem dX10_week_134 : decode cX10_week 134 = .ok (.lconst 0, 1) := by decide +kernel
theorem dX10_week_135 : decode cX10_week 135 = .ok (.aload_n 0, 1) := by decide +kernel
theorem dX10_week_136 : decode cX10_week 136 = .ok (.getfield 46, 3) := by decide +kernel
theorem dX10_week_139 : decode cX10_week 139 = .ok (.getfield 239, 3) := by decide +kernel
theorem dX10_week_142 : decode cX10_week 142 = .ok (.i2l, 1) := by decide +kernel
theorem dX10_week_143 : decode cX10_week 143 = .ok (.invokevirtual 242, 3) := by decide +kernel
theorem dX10_week_146 : decode cX10_week 146 = .ok (.iload_n 2, 1) := by decide +kernel
theorem dX10_week_147 : decode cX10_week 147 = .ok (.ireturn, 1) := by decide +kernel
theorem s_X10_week_39 {q : Int × xW} {k : Int → Int → Int → xW → Option (Int × xW)} (hk : ∀ (l2_27 : Int) (l3_28 : Int) (l4_29 : Int) (s30 : xW), k l2_27 l3_28 l4_29 s30 = some q → xG 7 0 0 mX10_week 104 [vR 0, vX, vI l2_27, vI l3_28, vI l4_29] [] 155 s30 (xRv (vI q.1) q.2)) : ∀ (f : Nat) (l2_6 : Int) (l3_7 : Int) (l4_8 : Int) (s9 : xW), F_X10_week_39  f l2_6 l3_7 l4_8 s9 k = some q → xG 7 0 0 mX10_week 39 [vR 0, vX, vI l2_6, vI l3_7, vI l4_8] [] 155 s9 (xRv (vI q.1) q.2) := by
  intro f
  induction f with
  | zero => intro l2_6 l3_7 l4_8 s9 h; cases h
  | succ f ih =>
    intro l2_6 l3_7 l4_8 s9 h
    unfold F_X10_week_39 at h
    refine g_il dX10_week_39 rfl ?_
    refine g_aln dX10_week_41 rfl rfl (by decide) ?_
    refine g_getC 1 dX10_week_42 fl_X10_12 rfl (by decide) ?_
    refine g_getI 1 dX10_week_45 fl_X10_112 rfl rfl ?_
    refine g_wge dX10_week_48 (tgt := 104) rfl rfl rfl (fun q10 => ?_) (fun q10 => ?_)
    · replace h := xif_f q10 h
      exact hk l2_6 l3_7 l4_8 s9 h
    · replace h := xif_t q10 h
      refine g_iln dX10_week_51 rfl rfl ?_
      refine g_yne dX10_week_52 (tgt := 104) rfl rfl (fun q11 => ?_) (fun q11 => ?_)
      · replace h := xif_f q11 h
        exact hk l2_6 l3_7 l4_8 s9 h
      · replace h := xif_t q11 h
        refine g_aln dX10_week_55 rfl rfl (by decide) ?_
        refine g_il dX10_week_56 rfl ?_
        obtain ⟨r13, s14, e12, h⟩ := xbd_e h
        refine g_cV1v dX10_week_58 ml_X10_227 rfl (s_X10_doAct e12) (by decide) rfl ?_
        obtain ⟨v16, e17, h⟩ := xlt_e h
        have hj18 : xG 7 0 0 mX10_week 69 [vR 0, vX, vI l2_6, vX, vI l4_8] [vI v16] 155 s14 (xRv (vI q.1) q.2) := by
          refine g_istn_3 dX10_week_69 (by decide) rfl ?_
          refine g_iln dX10_week_70 rfl rfl ?_
          refine g_iln dX10_week_71 rfl rfl ?_
          obtain ⟨v20, e21, h⟩ := xlt_e h
          have hj22 : xG 7 0 0 mX10_week 80 [vR 0, vX, vX, vI v16, vI l4_8] [vI v20, vI l2_6] 155 s14 (xRv (vI q.1) q.2) := by
            refine g_iadd dX10_week_80 ?_
            refine g_istn_2 dX10_week_81 (by decide) rfl ?_
            refine g_il dX10_week_82 rfl ?_
            refine g_ic dX10_week_84 ?_
            refine g_aln dX10_week_85 rfl rfl (by decide) ?_
            refine g_getC 1 dX10_week_86 fl_X10_12 rfl (by decide) ?_
            refine g_il dX10_week_89 rfl ?_
            obtain ⟨r24, e23, h⟩ := xbp_e h
            refine g_cV1v dX10_week_91 ml_X10_230 rfl (s_X8_at e23) (by decide) rfl ?_
            obtain ⟨r26, e25, h⟩ := xbp_e h
            refine g_cS1v dX10_week_94 ml_X10_233 (s_X10_digitsOf e25) (by decide) rfl ?_
            refine g_iadd dX10_week_97 ?_
            refine g_iadd dX10_week_98 ?_
            refine g_ist_4 dX10_week_99 (by decide) rfl ?_
            refine g_goto dX10_week_101 (tgt := 39) rfl ?_
            exact ih (l2_6 + v20) v16 (l4_8 + (1 + r26)) s14 h
          refine g_yeq dX10_week_72 (tgt := 79) rfl rfl (fun c19 => ?_) (fun c19 => ?_)
          · skip
            refine g_ic dX10_week_79 ?_
            refine g_drop_2 ?_
            exact g_vq ((if_neg c19).symm.trans e21) hj22
          · skip
            refine g_ic dX10_week_75 ?_
            refine g_goto dX10_week_76 (tgt := 80) rfl ?_
            refine g_drop_2 ?_
            exact g_vq ((if_pos c19).symm.trans e21) hj22
        refine g_yge dX10_week_61 (tgt := 68) rfl rfl (fun c15 => ?_) (fun c15 => ?_)
        · skip
          refine g_ic dX10_week_68 ?_
          refine g_drop_3 ?_
          exact g_vq ((if_neg c15).symm.trans e17) hj18
        · skip
          refine g_ic dX10_week_64 ?_
          refine g_goto dX10_week_65 (tgt := 69) rfl ?_
          refine g_drop_3 ?_
          exact g_vq ((if_pos c15).symm.trans e17) hj18
theorem s_X10_week {s0 : xW} {q : Int × xW} (h : F_X10_week  s0 = some q) : xC 7 0 0 mX10_week [vR 0] 155 s0 (xRv (vI q.1) q.2) := by
  refine xC.of [vR 0, vX, vX, vX, vX] (by decide +kernel) (Nat.le_of_ble_eq_true rfl) rfl ?_
  unfold F_X10_week at h
  refine g_aln dX10_week_0 rfl rfl (by decide) ?_
  obtain ⟨r2, e1, h⟩ := xbp_e h
  refine g_cV0v dX10_week_1 ml_X10_224 rfl (s_X10_weekMisfit e1) (by decide) rfl ?_
  refine g_istn_1 dX10_week_4 (by decide) rfl ?_
  refine g_iln dX10_week_5 rfl rfl ?_
  refine g_ic dX10_week_6 ?_
  refine g_weq dX10_week_7 (tgt := 21) rfl rfl (xw_id (by decide)) (fun q3 => ?_) (fun q3 => ?_)
  · replace h := xif_f q3 h
    refine g_aln dX10_week_21 rfl rfl (by decide) ?_
    refine g_getC 21 dX10_week_22 fl_X10_53 rfl (by decide) ?_
    refine g_aln dX10_week_25 rfl rfl (by decide) ?_
    refine g_getC 17 dX10_week_26 fl_X10_46 rfl (by decide) ?_
    obtain ⟨s5, e4, h⟩ := xbp_e h
    refine g_cV10 dX10_week_29 ml_X10_198 rfl (s_X3_note e4) (by decide) rfl ?_
    refine g_ic dX10_week_32 ?_
    refine g_istn_2 dX10_week_33 (by decide) rfl ?_
    refine g_ic dX10_week_34 ?_
    refine g_istn_3 dX10_week_35 (by decide) rfl ?_
    refine g_ic dX10_week_36 ?_
    refine g_ist_4 dX10_week_37 (by decide) rfl ?_
    refine g_drop_1 ?_
    refine s_X10_week_39 (fun l2_31 l3_32 l4_33 s34 h => ?_) xN _ _ _ _ h
    refine g_iln dX10_week_104 rfl rfl ?_
    obtain ⟨j36, ej37, h⟩ := xjn_e h
    have hj38 : ∀ (s35 : xW), j36 s35 = some q → xG 7 0 0 mX10_week 115 [vR 0, vX, vI l2_31, vI l3_32, vX] [] 155 s35 (xRv (vI q.1) q.2) := by
      intro s35 h
      rw [ej37] at h
      refine g_aln dX10_week_115 rfl rfl (by decide) ?_
      refine g_getC 1 dX10_week_116 fl_X10_12 rfl (by decide) ?_
      obtain ⟨s40, e39, h⟩ := xbp_e h
      refine g_cV00 dX10_week_119 ml_X10_125 rfl (s_X8_clear e39) (by decide) rfl ?_
      refine g_aln dX10_week_122 rfl rfl (by decide) ?_
      refine g_getC 3 dX10_week_123 fl_X10_19 rfl (by decide) ?_
      refine g_iln dX10_week_126 rfl rfl ?_
      obtain ⟨v42, e43, h⟩ := xlt_e h
      have hj44 : xG 7 0 0 mX10_week 135 [vR 0, vX, vI l2_31, vX, vX] [vL v42, vR 3] 155 s40 (xRv (vI q.1) q.2) := by
        refine g_aln dX10_week_135 rfl rfl (by decide) ?_
        refine g_getC 17 dX10_week_136 fl_X10_46 rfl (by decide) ?_
        refine g_getI 3 dX10_week_139 fl_X10_239 rfl rfl ?_
        refine g_wi2l dX10_week_142 rfl ?_
        obtain ⟨s46, e45, h⟩ := xbp_e h
        refine g_cV20 dX10_week_143 ml_X10_242 rfl (s_X6_tell_ e45) (by decide) rfl ?_
        refine g_iln dX10_week_146 rfl rfl ?_
        exact g_rI rfl dX10_week_147 h
      refine g_yeq dX10_week_127 (tgt := 134) rfl rfl (fun c41 => ?_) (fun c41 => ?_)
      · skip
        refine g_lc dX10_week_134 (w := 0) rfl ?_
        refine g_drop_3 ?_
        exact g_vqL ((if_neg c41).symm.trans e43) hj44
      · skip
        refine g_lc dX10_week_130 (w := 1) rfl ?_
        refine g_goto dX10_week_131 (tgt := 135) rfl ?_
        refine g_drop_3 ?_
        exact g_vqL ((if_pos c41).symm.trans e43) hj44
    clear ej37
    refine g_yle dX10_week_105 (tgt := 115) rfl rfl (fun q47 => ?_) (fun q47 => ?_)
    · replace h := xif_f q47 h
      refine g_drop_4 ?_
      exact hj38 s34 h
    · replace h := xif_t q47 h
      refine g_aln dX10_week_108 rfl rfl (by decide) ?_
      refine g_getC 21 dX10_week_109 fl_X10_53 rfl (by decide) ?_
      obtain ⟨s49, e48, h⟩ := xbp_e h
      refine g_cV00 dX10_week_112 ml_X10_237 rfl (s_X3_add e48) (by decide) rfl ?_
      refine g_drop_4 ?_
      exact hj38 s49 h
  · replace h := xif_t q3 h
    refine g_aln dX10_week_10 rfl rfl (by decide) ?_
    refine g_getC 1 dX10_week_11 fl_X10_12 rfl (by decide) ?_
    obtain ⟨s51, e50, h⟩ := xbp_e h
    refine g_cV00 dX10_week_14 ml_X10_125 rfl (s_X8_clear e50) (by decide) rfl ?_
    refine g_ic dX10_week_17 ?_
    refine g_iln dX10_week_18 rfl rfl ?_
    refine g_isub dX10_week_19 ?_
    exact g_rI rfl dX10_week_20 h
theorem dX10_winds_0 : decode cX10_winds 0 = .ok (.aload_n 0, 1) := by decide +kernel
theorem dX10_winds_1 : decode cX10_winds 1 = .ok (.aload_n 0, 1) := by decide +kernel
theorem dX10_winds_2 : decode cX10_winds 2 = .ok (.getfield 26, 3) := by decide +kernel
theorem dX10_winds_5 : decode cX10_winds 5 = .ok (.invokevirtual 134, 3) := by decide +kernel
theorem dX10_winds_8 : decode cX10_winds 8 = .ok (.ireturn, 1) := by decide +kernel
theorem s_X10_winds {s0 : xW} {q : Int × xW} (h : F_X10_winds  s0 = some q) : xC 4 0 0 mX10_winds [vR 0] 155 s0 (xRv (vI q.1) q.2) := by
  refine xC.of [vR 0] (by decide +kernel) (Nat.le_of_ble_eq_true rfl) rfl ?_
  unfold F_X10_winds at h
  refine g_aln dX10_winds_0 rfl rfl (by decide) ?_
  refine g_aln dX10_winds_1 rfl rfl (by decide) ?_
  refine g_getC 5 dX10_winds_2 fl_X10_26 rfl (by decide) ?_
  obtain ⟨r2, s3, e1, h⟩ := xbd_e h
  refine g_cV1v dX10_winds_5 ml_X10_134 rfl (s_X10_readDigits e1) (by decide) rfl ?_
  exact g_rI rfl dX10_winds_8 h
theorem dX10_years_0 : decode cX10_years 0 = .ok (.iload_n 2, 1) := by decide +kernel
theorem dX10_years_1 : decode cX10_years 1 = .ok (.iconst 1, 1) := by decide +kernel
theorem dX10_years_2 : decode cX10_years 2 = .ok (.if_icmp .lt 9, 3) := by decide +kernel
theorem dX10_years_5 : decode cX10_years 5 = .ok (.iload_n 2, 1) := by decide +kernel
theorem dX10_years_6 : decode cX10_years 6 = .ok (.bipush 60, 2) := by decide +kernel
theorem dX10_years_8 : decode cX10_years 8 = .ok (.if_icmp .le 5, 3) := by decide +kernel
theorem dX10_years_11 : decode cX10_years 11 = .ok (.iconst (-1), 1) := by decide +kernel
theorem dX10_years_12 : decode cX10_years 12 = .ok (.ireturn, 1) := by decide +kernel
theorem dX10_years_13 : decode cX10_years 13 = .ok (.aload_n 0, 1) := by decide +kernel
theorem dX10_years_14 : decode cX10_years 14 = .ok (.getfield 53, 3) := by decide +kernel
theorem dX10_years_17 : decode cX10_years 17 = .ok (.aload_n 0, 1) := by decide +kernel
theorem dX10_years_18 : decode cX10_years 18 = .ok (.getfield 46, 3) := by decide +kernel
theorem dX10_years_21 : decode cX10_years 21 = .ok (.invokevirtual 198, 3) := by decide +kernel
theorem dX10_years_24 : decode cX10_years 24 = .ok (.aload_n 0, 1) := by decide +kernel
theorem dX10_years_25 : decode cX10_years 25 = .ok (.iload_n 1, 1) := by decide +kernel
theorem dX10_years_26 : decode cX10_years 26 = .ok (.putfield 97, 3) := by decide +kernel
theorem dX10_years_29 : decode cX10_years 29 = .ok (.iconst 0, 1) := by decide +kernel
theorem dX10_years_30 : decode cX10_years 30 = .ok (.istore_n 3, 1) := by decide +kernel
theorem dX10_years_31 : decode cX10_years 31 = .ok (.iconst 0, 1) := by decide +kernel
theorem dX10_years_32 : decode cX10_years 32 = .ok (.istore 4, 2) := by decide +kernel
theorem dX10_years_34 : decode cX10_years 34 = .ok (.iconst 0, 1) := by decide +kernel
theorem dX10_years_35 : decode cX10_years 35 = .ok (.istore 5, 2) := by decide +kernel
theorem dX10_years_37 : decode cX10_years 37 = .ok (.iload 5, 2) := by decide +kernel
theorem dX10_years_39 : decode cX10_years 39 = .ok (.iload_n 2, 1) := by decide +kernel
theorem dX10_years_40 : decode cX10_years 40 = .ok (.if_icmp .ge 126, 3) := by decide +kernel
theorem dX10_years_43 : decode cX10_years 43 = .ok (.aload_n 0, 1) := by decide +kernel
theorem dX10_years_44 : decode cX10_years 44 = .ok (.iconst 4, 1) := by decide +kernel
theorem dX10_years_45 : decode cX10_years 45 = .ok (.invokevirtual 386, 3) := by decide +kernel
theorem dX10_years_48 : decode cX10_years 48 = .ok (.istore 6, 2) := by decide +kernel
theorem dX10_years_50 : decode cX10_years 50 = .ok (.iload 6, 2) := by decide +kernel
theorem dX10_years_52 : decode cX10_years 52 = .ok (.iconst 2, 1) := by decide +kernel
theorem dX10_years_53 : decode cX10_years 53 = .ok (.if_icmp .ge 37, 3) := by decide +kernel
theorem dX10_years_56 : decode cX10_years 56 = .ok (.aload_n 0, 1) := by decide +kernel
theorem dX10_years_57 : decode cX10_years 57 = .ok (.invokevirtual 389, 3) := by decide +kernel
theorem dX10_years_60 : decode cX10_years 60 = .ok (.istore 7, 2) := by decide +kernel
theorem dX10_years_62 : decode cX10_years 62 = .ok (.iload_n 3, 1) := by decide +kernel
theorem dX10_years_63 : decode cX10_years 63 = .ok (.iload 7, 2) := by decide +kernel
theorem dX10_years_65 : decode cX10_years 65 = .ok (.iconst 0, 1) := by decide +kernel
theorem dX10_years_66 : decode cX10_years 66 = .ok (.invokestatic 392, 3) := by decide +kernel
theorem dX10_years_69 : decode cX10_years 69 = .ok (.iadd, 1) := by decide +kernel
theorem dX10_years_70 : decode cX10_years 70 = .ok (.istore_n 3, 1) := by decide +kernel
theorem dX10_years_71 : decode cX10_years 71 = .ok (.iload 4, 2) := by decide +kernel
theorem dX10_years_73 : decode cX10_years 73 = .ok (.iload 7, 2) := by decide +kernel
theorem dX10_years_75 : decode cX10_years 75 = .ok (.iconst (-1), 1) := by decide +kernel
theorem dX10_years_76 : decode cX10_years 76 = .ok (.if_icmp .ne 7, 3) := by decide +kernel
theorem dX10_years_79 : decode cX10_years 79 = .ok (.iconst 1, 1) := by decide +kernel
theorem dX10_years_80 : decode cX10_years 80 = .ok (.goto 4, 3) := by decide +kernel
theorem dX10_years_83 : decode cX10_years 83 = .ok (.iconst 0, 1) := by decide +kernel
theorem dX10_years_84 : decode cX10_years 84 = .ok (.iadd, 1) := by decide +kernel
theorem dX10_years_85 : decode cX10_years 85 = .ok (.istore 4, 2) := by decide +kernel
theorem dX10_years_87 : decode cX10_years 87 = .ok (.goto 73, 3) := by decide +kernel
theorem dX10_years_90 : decode cX10_years 90 = .ok (.iload 6, 2) := by decide +kernel
theorem dX10_years_92 : decode cX10_years 92 = .ok (.iconst 2, 1) := by decide +kernel
theorem dX10_years_93 : decode cX10_years 93 = .ok (.if_icmp .ne 27, 3) := by decide +kernel
theorem dX10_years_96 : decode cX10_years 96 = .ok (.aload_n 0, 1) := by decide +kernel
theorem dX10_years_97 : decode cX10_years 97 = .ok (.bipush 10, 2) := by decide +kernel
theorem dX10_years_99 : decode cX10_years 99 = .ok (.invokevirtual 386, 3) := by decide +kernel
theorem dX10_years_102 : decode cX10_years 102 = .ok (.istore 7, 2) := by decide +kernel
theorem dX10_years_104 : decode cX10_years 104 = .ok (.aload_n 0, 1) := by decide +kernel
theorem dX10_years_105 : decode cX10_years 105 = .ok (.iload 7, 2) := by decide +kernel
theorem dX10_years_107 : decode cX10_years 107 = .ok (.aload_n 0, 1) := by decide +kernel
theorem dX10_years_108 : decode cX10_years 108 = .ok (.bipush 10, 2) := by decide +kernel
theorem dX10_years_110 : decode cX10_years 110 = .ok (.invokevirtual 386, 3) := by decide +kernel
theorem dX10_years_113 : decode cX10_years 113 = .ok (.invokevirtual 211, 3) := by decide +kernel
theorem dX10_years_116 : decode cX10_years 116 = .ok (.pop, 1) := by decide +kernel
theorem dX10_years_117 : decode cX10_years 117 = .ok (.goto 43, 3) := by decide +kernel
theorem dX10_years_120 : decode cX10_years 120 = .ok (.aload_n 0, 1) := by decide +kernel
theorem dX10_years_121 : decode cX10_years 121 = .ok (.getfield 93, 3) := by decide +kernel
theorem dX10_years_124 : decode cX10_years 124 = .ok (.ifCond .le 36, 3) := by decide +kernel
theorem dX10_years_127 : decode cX10_years 127 = .ok (.aload_n 0, 1) := by decide +kernel
theorem dX10_years_128 : decode cX10_years 128 = .ok (.aload_n 0, 1) := by decide +kernel
theorem dX10_years_129 : decode cX10_years 129 = .ok (.getfield 93, 3) := by decide +kernel
theorem dX10_years_132 : decode cX10_years 132 = .ok (.invokevirtual 386, 3) := by decide +kernel
theorem dX10_years_135 : decode cX10_years 135 = .ok (.istore 7, 2) := by decide +kernel
theorem dX10_years_137 : decode cX10_years 137 = .ok (.aload_n 0, 1) := by decide +kernel
theorem dX10_years_138 : decode cX10_years 138 = .ok (.bipush 10, 2) := by decide +kernel
theorem dX10_years_140 : decode cX10_years 140 = .ok (.invokevirtual 386, 3) := by decide +kernel
theorem dX10_years_143 : decode cX10_years 143 = .ok (.istore 8, 2) := by decide +kernel
theorem dX10_years_145 : decode cX10_years 145 = .ok (.aload_n 0, 1) := by decide +kernel
theorem dX10_years_146 : decode cX10_years 146 = .ok (.iload 7, 2) := by decide +kernel
theorem dX10_years_148 : decode cX10_years 148 = .ok (.iload 8, 2) := by decide +kernel
theorem dX10_years_150 : decode cX10_years 150 = .ok (.aload_n 0, 1) := by decide +kernel
theorem dX10_years_151 : decode cX10_years 151 = .ok (.bipush 10, 2) := by decide +kernel
theorem dX10_years_153 : decode cX10_years 153 = .ok (.invokevirtual 386, 3) := by decide +kernel
theorem dX10_years_156 : decode cX10_years 156 = .ok (.invokevirtual 214, 3) := by decide +kernel
theorem dX10_years_159 : decode cX10_years 159 = .ok (.pop, 1) := by decide +kernel
theorem dX10_years_160 : decode cX10_years 160 = .ok (.iinc 5 1, 3) := by decide +kernel
theorem dX10_years_163 : decode cX10_years 163 = .ok (.goto (-126), 3) := by decide +kernel
theorem dX10_years_166 : decode cX10_years 166 = .ok (.aload_n 0, 1) := by decide +kernel
theorem dX10_years_167 : decode cX10_years 167 = .ok (.getfield 19, 3) := by decide +kernel
theorem dX10_years_170 : decode cX10_years 170 = .ok (.aload_n 0, 1) := by decide +kernel
theorem dX10_years_171 : decode cX10_years 171 = .ok (.getfield 46, 3) := by decide +kernel
theorem dX10_years_174 : decode cX10_years 174 = .ok (.getfield 288, 3) := by decide +kernel
theorem dX10_years_177 : decode cX10_years 177 = .ok (.i2l, 1) := by decide +kernel
theorem dX10_years_178 : decode cX10_years 178 = .ok (.iload 4, 2) := by decide +kernel
theorem dX10_years_180 : decode cX10_years 180 = .ok (.i2l, 1) := by decide +kernel
theorem dX10_years_181 : decode cX10_years 181 = .ok (.invokevirtual 242, 3) := by decide +kernel
theorem dX10_years_184 : decode cX10_years 184 = .ok (.aload_n 0, 1) := by decide +kernel
theorem dX10_years_185 : decode cX10_years 185 = .ok (.getfield 53, 3) := by decide +kernel
theorem dX10_years_188 : decode cX10_years 188 = .ok (.aload_n 0, 1) := by decide +kernel
theorem dX10_years_189 : decode cX10_years 189 = .ok (.getfield 46, 3) := by decide +kernel
theorem dX10_years_192 : decode cX10_years 192 = .ok (.invokevirtual 395, 3) := by decide +kernel
theorem dX10_years_195 : decode cX10_years 195 = .ok (.iload_n 3, 1) := by decide +kernel
theorem dX10_years_196 : decode cX10_years 196 = .ok (.ireturn, 1) := by decide +kernel
theorem s_X10_years_37 {l2_10 : Int} {q : Int × xW} {k : Int → Int → Int → xW → Option (Int × xW)} (hk : ∀ (l3_56 : Int) (l4_57 : Int) (l5_58 : Int) (s59 : xW), k l3_56 l4_57 l5_58 s59 = some q → xG 5 0 0 mX10_years 166 [vR 0, vX, vI l2_10, vI l3_56, vI l4_57, vI l5_58, vX, vX, vX] [] 155 s59 (xRv (vI q.1) q.2)) : ∀ (f : Nat) (l3_11 : Int) (l4_12 : Int) (l5_13 : Int) (s14 : xW), F_X10_years_37 l2_10 f l3_11 l4_12 l5_13 s14 k = some q → xG 5 0 0 mX10_years 37 [vR 0, vX, vI l2_10, vI l3_11, vI l4_12, vI l5_13, vX, vX, vX] [] 155 s14 (xRv (vI q.1) q.2) := by
  intro f
  induction f with
  | zero => intro l3_11 l4_12 l5_13 s14 h; cases h
  | succ f ih =>
    intro l3_11 l4_12 l5_13 s14 h
    unfold F_X10_years_37 at h
    refine g_il dX10_years_37 rfl ?_
    refine g_iln dX10_years_39 rfl rfl ?_
    refine g_wge dX10_years_40 (tgt := 166) rfl rfl rfl (fun q15 => ?_) (fun q15 => ?_)
    · replace h := xif_f q15 h
      exact hk l3_11 l4_12 l5_13 s14 h
    · replace h := xif_t q15 h
      refine g_aln dX10_years_43 rfl rfl (by decide) ?_
      refine g_ic dX10_years_44 ?_
      obtain ⟨r17, s18, e16, h⟩ := xbd_e h
      refine g_cV1v dX10_years_45 ml_X10_386 rfl (s_X10_draw e16) (by decide) rfl ?_
      refine g_ist_6 dX10_years_48 (by decide) rfl ?_
      refine g_il dX10_years_50 rfl ?_
      refine g_ic dX10_years_52 ?_
      obtain ⟨j22, ej23, h⟩ := xjn_e h
      have hj24 : ∀ (l3_19 : Int) (l4_20 : Int) (s21 : xW), j22 l3_19 l4_20 s21 = some q → xG 5 0 0 mX10_years 160 [vR 0, vX, vI l2_10, vI l3_19, vI l4_20, vI l5_13, vX, vX, vX] [] 155 s21 (xRv (vI q.1) q.2) := by
        intro l3_19 l4_20 s21 h
        rw [ej23] at h
        refine g_inc_5 dX10_years_160 (by decide) rfl ?_
        refine g_goto dX10_years_163 (tgt := 37) rfl ?_
        exact ih l3_19 l4_20 (l5_13 + 1) s21 h
      clear ej23
      refine g_wge dX10_years_53 (tgt := 90) rfl rfl (xw_id (by decide)) (fun q25 => ?_) (fun q25 => ?_)
      · replace h := xif_f q25 h
        refine g_il dX10_years_90 rfl ?_
        refine g_ic dX10_years_92 ?_
        refine g_wne dX10_years_93 (tgt := 120) rfl rfl (xw_id (by decide)) (fun q26 => ?_) (fun q26 => ?_)
        · replace h := xif_f q26 h
          refine g_aln dX10_years_120 rfl rfl (by decide) ?_
          refine g_getI 14 dX10_years_121 fl_X10_93 rfl rfl ?_
          refine g_yle dX10_years_124 (tgt := 160) rfl rfl (fun q27 => ?_) (fun q27 => ?_)
          · replace h := xif_f q27 h
            refine g_drop_6 ?_
            exact hj24 l3_11 l4_12 s18 h
          · replace h := xif_t q27 h
            refine g_aln dX10_years_127 rfl rfl (by decide) ?_
            refine g_aln dX10_years_128 rfl rfl (by decide) ?_
            refine g_getI 14 dX10_years_129 fl_X10_93 rfl rfl ?_
            obtain ⟨r29, s30, e28, h⟩ := xbd_e h
            refine g_cV1v dX10_years_132 ml_X10_386 rfl (s_X10_draw e28) (by decide) rfl ?_
            refine g_ist_7 dX10_years_135 (by decide) rfl ?_
            refine g_aln dX10_years_137 rfl rfl (by decide) ?_
            refine g_bi dX10_years_138 (by decide) ?_
            obtain ⟨r32, s33, e31, h⟩ := xbd_e h
            refine g_cV1v dX10_years_140 ml_X10_386 rfl (s_X10_draw e31) (by decide) rfl ?_
            refine g_ist_8 dX10_years_143 (by decide) rfl ?_
            refine g_aln dX10_years_145 rfl rfl (by decide) ?_
            refine g_il dX10_years_146 rfl ?_
            refine g_il dX10_years_148 rfl ?_
            refine g_aln dX10_years_150 rfl rfl (by decide) ?_
            refine g_bi dX10_years_151 (by decide) ?_
            obtain ⟨r35, s36, e34, h⟩ := xbd_e h
            refine g_cV1v dX10_years_153 ml_X10_386 rfl (s_X10_draw e34) (by decide) rfl ?_
            obtain ⟨r38, s39, e37, h⟩ := xbd_e h
            refine g_cV3v dX10_years_156 ml_X10_214 rfl (s_X10_move e37) (by decide) rfl ?_
            refine g_pop dX10_years_159 rfl ?_
            refine g_drop_6 ?_
            refine g_drop_7 ?_
            refine g_drop_8 ?_
            exact hj24 l3_11 l4_12 s39 h
        · replace h := xif_t q26 h
          refine g_aln dX10_years_96 rfl rfl (by decide) ?_
          refine g_bi dX10_years_97 (by decide) ?_
          obtain ⟨r41, s42, e40, h⟩ := xbd_e h
          refine g_cV1v dX10_years_99 ml_X10_386 rfl (s_X10_draw e40) (by decide) rfl ?_
          refine g_ist_7 dX10_years_102 (by decide) rfl ?_
          refine g_aln dX10_years_104 rfl rfl (by decide) ?_
          refine g_il dX10_years_105 rfl ?_
          refine g_aln dX10_years_107 rfl rfl (by decide) ?_
          refine g_bi dX10_years_108 (by decide) ?_
          obtain ⟨r44, s45, e43, h⟩ := xbd_e h
          refine g_cV1v dX10_years_110 ml_X10_386 rfl (s_X10_draw e43) (by decide) rfl ?_
          obtain ⟨r47, s48, e46, h⟩ := xbd_e h
          refine g_cV2v dX10_years_113 ml_X10_211 rfl (s_X10_haul e46) (by decide) rfl ?_
          refine g_pop dX10_years_116 rfl ?_
          refine g_goto dX10_years_117 (tgt := 160) rfl ?_
          refine g_drop_6 ?_
          refine g_drop_7 ?_
          exact hj24 l3_11 l4_12 s48 h
      · replace h := xif_t q25 h
        refine g_aln dX10_years_56 rfl rfl (by decide) ?_
        obtain ⟨r50, s51, e49, h⟩ := xbd_e h
        refine g_cV0v dX10_years_57 ml_X10_389 rfl (s_X10_passDay e49) (by decide) rfl ?_
        refine g_ist_7 dX10_years_60 (by decide) rfl ?_
        refine g_iln dX10_years_62 rfl rfl ?_
        refine g_il dX10_years_63 rfl ?_
        refine g_ic dX10_years_65 ?_
        refine g_wmax dX10_years_66 mx_X10_392 rfl (xw_id (by decide)) (by decide) rfl ?_
        refine g_iadd dX10_years_69 ?_
        refine g_istn_3 dX10_years_70 (by decide) rfl ?_
        refine g_il dX10_years_71 rfl ?_
        refine g_il dX10_years_73 rfl ?_
        refine g_ic dX10_years_75 ?_
        obtain ⟨v53, e54, h⟩ := xlt_e h
        have hj55 : xG 5 0 0 mX10_years 84 [vR 0, vX, vI l2_10, vI (l3_11 + (max (xw r50) 0)), vX, vI l5_13, vX, vX, vX] [vI v53, vI l4_12] 155 s51 (xRv (vI q.1) q.2) := by
          refine g_iadd dX10_years_84 ?_
          refine g_ist_4 dX10_years_85 (by decide) rfl ?_
          refine g_goto dX10_years_87 (tgt := 160) rfl ?_
          exact hj24 (l3_11 + (max (xw r50) 0)) (l4_12 + v53) s51 h
        refine g_wne dX10_years_76 (tgt := 83) rfl rfl (xw_id (by decide)) (fun c52 => ?_) (fun c52 => ?_)
        · skip
          refine g_ic dX10_years_83 ?_
          refine g_drop_4 ?_
          refine g_drop_6 ?_
          refine g_drop_7 ?_
          exact g_vq ((if_neg c52).symm.trans e54) hj55
        · skip
          refine g_ic dX10_years_79 ?_
          refine g_goto dX10_years_80 (tgt := 84) rfl ?_
          refine g_drop_4 ?_
          refine g_drop_6 ?_
          refine g_drop_7 ?_
          exact g_vq ((if_pos c52).symm.trans e54) hj55
theorem s_X10_years {a1 a2 : Int} {s0 : xW} {q : Int × xW} (h : F_X10_years a1 a2 s0 = some q) : xC 5 0 0 mX10_years [vR 0, vI a1, vI a2] 155 s0 (xRv (vI q.1) q.2) := by
  refine xC.of [vR 0, vI a1, vI a2, vX, vX, vX, vX, vX, vX] (by decide +kernel) (Nat.le_of_ble_eq_true rfl) rfl ?_
  unfold F_X10_years at h
  refine g_iln dX10_years_0 rfl rfl ?_
  refine g_ic dX10_years_1 ?_
  obtain ⟨j1, ej2, h⟩ := xjn_e h
  have hj3 : j1  = some q → xG 5 0 0 mX10_years 11 [vX, vX, vX, vX, vX, vX, vX, vX, vX] [] 155 s0 (xRv (vI q.1) q.2) := by
    intro  h
    rw [ej2] at h
    refine g_ic dX10_years_11 ?_
    exact g_rI rfl dX10_years_12 h
  clear ej2
  refine g_wlt dX10_years_2 (tgt := 11) rfl rfl (xw_id (by decide)) (fun q4 => ?_) (fun q4 => ?_)
  · replace h := xif_f q4 h
    refine g_drop_0 ?_
    refine g_drop_1 ?_
    refine g_drop_2 ?_
    exact hj3  h
  · replace h := xif_t q4 h
    refine g_iln dX10_years_5 rfl rfl ?_
    refine g_bi dX10_years_6 (by decide) ?_
    refine g_wle dX10_years_8 (tgt := 13) rfl rfl (xw_id (by decide)) (fun q5 => ?_) (fun q5 => ?_)
    · replace h := xif_f q5 h
      refine g_aln dX10_years_13 rfl rfl (by decide) ?_
      refine g_getC 21 dX10_years_14 fl_X10_53 rfl (by decide) ?_
      refine g_aln dX10_years_17 rfl rfl (by decide) ?_
      refine g_getC 17 dX10_years_18 fl_X10_46 rfl (by decide) ?_
      obtain ⟨s7, e6, h⟩ := xbp_e h
      refine g_cV10 dX10_years_21 ml_X10_198 rfl (s_X3_note e6) (by decide) rfl ?_
      refine g_aln dX10_years_24 rfl rfl (by decide) ?_
      refine g_iln dX10_years_25 rfl rfl ?_
      obtain ⟨s8, e9, h⟩ := xlt_e h
      refine h_putI 15 dX10_years_26 fl_X10_97 rfl rfl e9 ?_
      refine g_ic dX10_years_29 ?_
      refine g_istn_3 dX10_years_30 (by decide) rfl ?_
      refine g_ic dX10_years_31 ?_
      refine g_ist_4 dX10_years_32 (by decide) rfl ?_
      refine g_ic dX10_years_34 ?_
      refine g_ist_5 dX10_years_35 (by decide) rfl ?_
      refine g_drop_1 ?_
      refine s_X10_years_37 (fun l3_60 l4_61 l5_62 s63 h => ?_) xN _ _ _ _ h
      refine g_aln dX10_years_166 rfl rfl (by decide) ?_
      refine g_getC 3 dX10_years_167 fl_X10_19 rfl (by decide) ?_
      refine g_aln dX10_years_170 rfl rfl (by decide) ?_
      refine g_getC 17 dX10_years_171 fl_X10_46 rfl (by decide) ?_
      refine g_getI 2 dX10_years_174 fl_X10_288 rfl rfl ?_
      refine g_wi2l dX10_years_177 rfl ?_
      refine g_il dX10_years_178 rfl ?_
      refine g_wi2l dX10_years_180 rfl ?_
      obtain ⟨s65, e64, h⟩ := xbp_e h
      refine g_cV20 dX10_years_181 ml_X10_242 rfl (s_X6_tell_ e64) (by decide) rfl ?_
      refine g_aln dX10_years_184 rfl rfl (by decide) ?_
      refine g_getC 21 dX10_years_185 fl_X10_53 rfl (by decide) ?_
      refine g_aln dX10_years_188 rfl rfl (by decide) ?_
      refine g_getC 17 dX10_years_189 fl_X10_46 rfl (by decide) ?_
      obtain ⟨s67, e66, h⟩ := xbp_e h
      refine g_cV10 dX10_years_192 ml_X10_395 rfl (s_X3_takeBack e66) (by decide) rfl ?_
      refine g_iln dX10_years_195 rfl rfl ?_
      exact g_rI rfl dX10_years_196 h
    · replace h := xif_t q5 h
      refine g_drop_0 ?_
      refine g_drop_1 ?_
      refine g_drop_2 ?_
      exact hj3  h
theorem dX11_adds_0 : decode cX11_adds 0 = .ok (.aload_n 0, 1) := by decide +kernel
theorem dX11_adds_1 : decode cX11_adds 1 = .ok (.dup, 1) := by decide +kernel
theorem dX11_adds_2 : decode cX11_adds 2 = .ok (.getfield 218, 3) := by decide +kernel
theorem dX11_adds_5 : decode cX11_adds 5 = .ok (.iconst 1, 1) := by decide +kernel
theorem dX11_adds_6 : decode cX11_adds 6 = .ok (.iadd, 1) := by decide +kernel
theorem dX11_adds_7 : decode cX11_adds 7 = .ok (.putfield 218, 3) := by decide +kernel
theorem dX11_adds_10 : decode cX11_adds 10 = .ok (.aload_n 0, 1) := by decide +kernel
theorem dX11_adds_11 : decode cX11_adds 11 = .ok (.getfield 218, 3) := by decide +kernel
theorem dX11_adds_14 : decode cX11_adds 14 = .ok (.bipush 15, 2) := by decide +kernel
theorem dX11_adds_16 : decode cX11_adds 16 = .ok (.if_icmp .le 43, 3) := by decide +kernel
theorem dX11_adds_19 : decode cX11_adds 19 = .ok (.iconst 0, 1) := by decide +kernel
theorem dX11_adds_20 : decode cX11_adds 20 = .ok (.istore_n 2, 1) := by decide +kernel
theorem dX11_adds_21 : decode cX11_adds 21 = .ok (.iload_n 2, 1) := by decide +kernel
theorem dX11_adds_22 : decode cX11_adds 22 = .ok (.sipush 600, 3) := by decide +kernel
theorem dX11_adds_25 : decode cX11_adds 25 = .ok (.if_icmp .ge 24, 3) := by decide +kernel
theorem dX11_adds_28 : decode cX11_adds 28 = .ok (.aload_n 0, 1) := by decide +kernel
theorem dX11_adds_29 : decode cX11_adds 29 = .ok (.getfield 74, 3) := by decide +kernel
theorem dX11_adds_32 : decode cX11_adds 32 = .ok (.iload_n 2, 1) := by decide +kernel
theorem dX11_adds_33 : decode cX11_adds 33 = .ok (.aload_n 0, 1) := by decide +kernel
theorem dX11_adds_34 : decode cX11_adds 34 = .ok (.getfield 74, 3) := by decide +kernel
theorem dX11_adds_37 : decode cX11_adds 37 = .ok (.iload_n 2, 1) := by decide +kernel
theorem dX11_adds_38 : decode cX11_adds 38 = .ok (.bipush 40, 2) := by decide +kernel
theorem dX11_adds_40 : decode cX11_adds 40 = .ok (.iadd, 1) := by decide +kernel
theorem dX11_adds_41 : decode cX11_adds 41 = .ok (.iaload, 1) := by decide +kernel
theorem dX11_adds_42 : decode cX11_adds 42 = .ok (.iastore, 1) := by decide +kernel
theorem dX11_adds_43 : decode cX11_adds 43 = .ok (.iinc 2 1, 3) := by decide +kernel
theorem dX11_adds_46 : decode cX11_adds 46 = .ok (.goto (-25), 3) := by decide +kernel
theorem dX11_adds_49 : decode cX11_adds 49 = .ok (.aload_n 0, 1) := by decide +kernel
theorem dX11_adds_50 : decode cX11_adds 50 = .ok (.dup, 1) := by decide +kernel
theorem dX11_adds_51 : decode cX11_adds 51 = .ok (.getfield 218, 3) := by decide +kernel
theorem dX11_adds_54 : decode cX11_adds 54 = .ok (.iconst 1, 1) := by decide +kernel
theorem dX11_adds_55 : decode cX11_adds 55 = .ok (.isub, 1) := by decide +kernel
theorem dX11_adds_56 : decode cX11_adds 56 = .ok (.putfield 218, 3) := by decide +kernel
theorem dX11_adds_59 : decode cX11_adds 59 = .ok (.iload_n 1, 1) := by decide +kernel
theorem dX11_adds_60 : decode cX11_adds 60 = .ok (.ireturn, 1) := by decide +kernel
theorem s_X11_adds_21 {l1_8 : Int} {q : Int × xW} {k : Int → xW → Option (Int × xW)} (hk : ∀ (l2_16 : Int) (s17 : xW), k l2_16 s17 = some q → xG 0 0 0 mX11_adds 49 [vR 121, vI l1_8, vI l2_16] [] 155 s17 (xRv (vI q.1) q.2)) : ∀ (f : Nat) (l2_9 : Int) (s10 : xW), F_X11_adds_21 l1_8 f l2_9 s10 k = some q → xG 0 0 0 mX11_adds 21 [vR 121, vI l1_8, vI l2_9] [] 155 s10 (xRv (vI q.1) q.2) := by
  intro f
  induction f with
  | zero => intro l2_9 s10 h; cases h
  | succ f ih =>
    intro l2_9 s10 h
    unfold F_X11_adds_21 at h
    refine g_iln dX11_adds_21 rfl rfl ?_
    refine g_si dX11_adds_22 (by decide) ?_
    refine g_wge dX11_adds_25 (tgt := 49) rfl rfl (xw_id (by decide)) (fun q11 => ?_) (fun q11 => ?_)
    · replace h := xif_f q11 h
      exact hk l2_9 s10 h
    · replace h := xif_t q11 h
      refine g_aln dX11_adds_28 rfl rfl (by decide) ?_
      refine g_getC 136 dX11_adds_29 fl_X11_74 rfl (by decide) ?_
      refine g_iln dX11_adds_32 rfl rfl ?_
      refine g_aln dX11_adds_33 rfl rfl (by decide) ?_
      refine g_getC 136 dX11_adds_34 fl_X11_74 rfl (by decide) ?_
      refine g_iln dX11_adds_37 rfl rfl ?_
      refine g_bi dX11_adds_38 (by decide) ?_
      refine g_iadd dX11_adds_40 ?_
      obtain ⟨hg12, h⟩ := xgd_e h
      refine g_iald 640 dX11_adds_41 rfl hg12 (by decide) ?_
      obtain ⟨hg13, h⟩ := xgd_e h
      obtain ⟨s14, e15, h⟩ := xlt_e h
      refine h_iast 640 dX11_adds_42 rfl hg13 (by decide) e15 ?_
      refine g_inc_2 dX11_adds_43 (by decide) rfl ?_
      refine g_goto dX11_adds_46 (tgt := 21) rfl ?_
      exact ih (l2_9 + 1) s14 h
theorem s_X11_adds {a1 : Int} {s0 : xW} {q : Int × xW} (h : F_X11_adds a1 s0 = some q) : xC 0 0 0 mX11_adds [vR 121, vI a1] 155 s0 (xRv (vI q.1) q.2) := by
  refine xC.of [vR 121, vI a1, vX] (by decide +kernel) (Nat.le_of_ble_eq_true rfl) rfl ?_
  unfold F_X11_adds at h
  refine g_aln dX11_adds_0 rfl rfl (by decide) ?_
  refine g_dup dX11_adds_1 rfl ?_
  refine g_getI 28 dX11_adds_2 fl_X11_218 rfl rfl ?_
  refine g_ic dX11_adds_5 ?_
  refine g_iadd dX11_adds_6 ?_
  obtain ⟨s1, e2, h⟩ := xlt_e h
  refine h_putI 28 dX11_adds_7 fl_X11_218 rfl rfl e2 ?_
  refine g_aln dX11_adds_10 rfl rfl (by decide) ?_
  refine g_getI 28 dX11_adds_11 fl_X11_218 rfl rfl ?_
  refine g_bi dX11_adds_14 (by decide) ?_
  obtain ⟨j4, ej5, h⟩ := xjn_e h
  have hj6 : ∀ (s3 : xW), j4 s3 = some q → xG 0 0 0 mX11_adds 59 [vX, vI a1, vX] [] 155 s3 (xRv (vI q.1) q.2) := by
    intro s3 h
    rw [ej5] at h
    refine g_iln dX11_adds_59 rfl rfl ?_
    exact g_rI rfl dX11_adds_60 h
  clear ej5
  refine g_wle dX11_adds_16 (tgt := 59) rfl rfl (xw_id (by decide)) (fun q7 => ?_) (fun q7 => ?_)
  · replace h := xif_f q7 h
    refine g_drop_0 ?_
    exact hj6 s1 h
  · replace h := xif_t q7 h
    refine g_ic dX11_adds_19 ?_
    refine g_istn_2 dX11_adds_20 (by decide) rfl ?_
    refine s_X11_adds_21 (fun l2_18 s19 h => ?_) xN _ _ h
    refine g_aln dX11_adds_49 rfl rfl (by decide) ?_
    refine g_dup dX11_adds_50 rfl ?_
    refine g_getI 28 dX11_adds_51 fl_X11_218 rfl rfl ?_
    refine g_ic dX11_adds_54 ?_
    refine g_isub dX11_adds_55 ?_
    obtain ⟨s20, e21, h⟩ := xlt_e h
    refine h_putI 28 dX11_adds_56 fl_X11_218 rfl rfl e21 ?_
    refine g_drop_0 ?_
    refine g_drop_2 ?_
    exact hj6 s20 h
theorem dX11_in_0 : decode cX11_in 0 = .ok (.lload_n 0, 1) := by decide +kernel
theorem dX11_in_1 : decode cX11_in 1 = .ok (.lload_n 2, 1) := by decide +kernel
theorem dX11_in_2 : decode cX11_in 2 = .ok (.lcmp, 1) := by decide +kernel
theorem dX11_in_3 : decode cX11_in 3 = .ok (.ifCond .lt 14, 3) := by decide +kernel
theorem dX11_in_6 : decode cX11_in 6 = .ok (.lload_n 0, 1) := by decide +kernel
theorem dX11_in_7 : decode cX11_in 7 = .ok (.lload 4, 2) := by decide +kernel
theorem dX11_in_9 : decode cX11_in 9 = .ok (.lcmp, 1) := by decide +kernel
theorem dX11_in_10 : decode cX11_in 10 = .ok (.ifCond .gt 7, 3) := by decide +kernel
theorem dX11_in_13 : decode cX11_in 13 = .ok (.iconst 1, 1) := by decide +kernel
theorem dX11_in_14 : decode cX11_in 14 = .ok (.goto 4, 3) := by decide +kernel
theorem dX11_in_17 : decode cX11_in 17 = .ok (.iconst 0, 1) := by decide +kernel
theorem dX11_in_18 : decode cX11_in 18 = .ok (.ireturn, 1) := by decide +kernel
theorem s_X11_in {a0 a2 a4 : Int} {s0 : xW} {q : Int} (h : F_X11_in a0 a2 a4 s0 = some q) : xC 0 0 0 mX11_in [vL a0, vL a2, vL a4] 155 s0 (xRv (vI q) s0) := by
  refine xC.of [vL a0, vX, vL a2, vX, vL a4, vX] (by decide +kernel) (Nat.le_of_ble_eq_true rfl) rfl ?_
  unfold F_X11_in at h
  refine g_lln dX11_in_0 rfl rfl ?_
  refine g_lln dX11_in_1 rfl rfl ?_
  refine g_vlt dX11_in_2 dX11_in_3 (tgt := 17) rfl rfl rfl (fun q1 => ?_) (fun q1 => ?_)
  · replace h := xif_f q1 h
    refine g_ic dX11_in_17 ?_
    exact g_pZ rfl dX11_in_18 (by decide) h
  · replace h := xif_t q1 h
    refine g_lln dX11_in_6 rfl rfl ?_
    refine g_ll dX11_in_7 rfl ?_
    refine g_vgt dX11_in_9 dX11_in_10 (tgt := 17) rfl rfl rfl (fun q2 => ?_) (fun q2 => ?_)
    · replace h := xif_f q2 h
      refine g_ic dX11_in_17 ?_
      exact g_pZ rfl dX11_in_18 (by decide) h
    · replace h := xif_t q2 h
      refine g_ic dX11_in_13 ?_
      refine g_goto dX11_in_14 (tgt := 18) rfl ?_
      exact g_pZ rfl dX11_in_18 (by decide) h
theorem dX11_again_0 : decode cX11_again 0 = .ok (.aload_n 0, 1) := by decide +kernel
theorem dX11_again_1 : decode cX11_again 1 = .ok (.iconst 0, 1) := by decide +kernel
theorem dX11_again_2 : decode cX11_again 2 = .ok (.putfield 3, 3) := by decide +kernel
theorem dX11_again_5 : decode cX11_again 5 = .ok (.iload_n 1, 1) := by decide +kernel
theorem dX11_again_6 : decode cX11_again 6 = .ok (.i2l, 1) := by decide +kernel
theorem dX11_again_7 : decode cX11_again 7 = .ok (.lconst 0, 1) := by decide +kernel
theorem dX11_again_8 : decode cX11_again 8 = .ok (.ldc2_w 464, 3) := by decide +kernel
theorem dX11_again_11 : decode cX11_again 11 = .ok (.invokestatic 132, 3) := by decide +kernel
theorem dX11_again_14 : decode cX11_again 14 = .ok (.ifCond .eq 25, 3) := by decide +kernel
theorem dX11_again_17 : decode cX11_again 17 = .ok (.aload_n 0, 1) := by decide +kernel
theorem dX11_again_18 : decode cX11_again 18 = .ok (.getfield 120, 3) := by decide +kernel
theorem dX11_again_21 : decode cX11_again 21 = .ok (.iload_n 1, 1) := by decide +kernel
theorem dX11_again_22 : decode cX11_again 22 = .ok (.baload, 1) := by decide +kernel
theorem dX11_again_23 : decode cX11_again 23 = .ok (.ifCond .eq 16, 3) := by decide +kernel
theorem dX11_again_26 : decode cX11_again 26 = .ok (.aload_n 0, 1) := by decide +kernel
theorem dX11_again_27 : decode cX11_again 27 = .ok (.getfield 123, 3) := by decide +kernel
theorem dX11_again_30 : decode cX11_again 30 = .ok (.iload_n 1, 1) := by decide +kernel
theorem dX11_again_31 : decode cX11_again 31 = .ok (.iaload, 1) := by decide +kernel
theorem dX11_again_32 : decode cX11_again 32 = .ok (.aload_n 0, 1) := by decide +kernel
theorem dX11_again_33 : decode cX11_again 33 = .ok (.getfield 221, 3) := by decide +kernel
theorem dX11_again_36 : decode cX11_again 36 = .ok (.if_icmp .eq 5, 3) := by decide +kernel
theorem dX11_again_39 : decode cX11_again 39 = .ok (.iconst 0, 1) := by decide +kernel
theorem dX11_again_40 : decode cX11_again 40 = .ok (.ireturn, 1) := by decide +kernel
theorem dX11_again_41 : decode cX11_again 41 = .ok (.iconst 0, 1) := by decide +kernel
theorem dX11_again_42 : decode cX11_again 42 = .ok (.istore_n 2, 1) := by decide +kernel
theorem dX11_again_43 : decode cX11_again 43 = .ok (.iload_n 2, 1) := by decide +kernel
theorem dX11_again_44 : decode cX11_again 44 = .ok (.bipush 40, 2) := by decide +kernel
theorem dX11_again_46 : decode cX11_again 46 = .ok (.if_icmp .ge 26, 3) := by decide +kernel
theorem dX11_again_49 : decode cX11_again 49 = .ok (.aload_n 0, 1) := by decide +kernel
theorem dX11_again_50 : decode cX11_again 50 = .ok (.getfield 47, 3) := by decide +kernel
theorem dX11_again_53 : decode cX11_again 53 = .ok (.iload_n 2, 1) := by decide +kernel
theorem dX11_again_54 : decode cX11_again 54 = .ok (.aload_n 0, 1) := by decide +kernel
theorem dX11_again_55 : decode cX11_again 55 = .ok (.getfield 126, 3) := by decide +kernel
theorem dX11_again_58 : decode cX11_again 58 = .ok (.bipush 40, 2) := by decide +kernel
theorem dX11_again_60 : decode cX11_again 60 = .ok (.iload_n 1, 1) := by decide +kernel
theorem dX11_again_61 : decode cX11_again 61 = .ok (.imul, 1) := by decide +kernel
theorem dX11_again_62 : decode cX11_again 62 = .ok (.iload_n 2, 1) := by decide +kernel
theorem dX11_again_63 : decode cX11_again 63 = .ok (.iadd, 1) := by decide +kernel
theorem dX11_again_64 : decode cX11_again 64 = .ok (.iaload, 1) := by decide +kernel
theorem dX11_again_65 : decode cX11_again 65 = .ok (.iastore, 1) := by decide +kernel
theorem dX11_again_66 : decode cX11_again 66 = .ok (.iinc 2 1, 3) := by decide +kernel
theorem dX11_again_69 : decode cX11_again 69 = .ok (.goto (-26), 3) := by decide +kernel
theorem dX11_again_72 : decode cX11_again 72 = .ok (.aload_n 0, 1) := by decide +kernel
theorem dX11_again_73 : decode cX11_again 73 = .ok (.iconst 0, 1) := by decide +kernel
theorem dX11_again_74 : decode cX11_again 74 = .ok (.putfield 218, 3) := by decide +kernel
theorem dX11_again_77 : decode cX11_again 77 = .ok (.iconst 1, 1) := by decide +kernel
theorem dX11_again_78 : decode cX11_again 78 = .ok (.ireturn, 1) := by decide +kernel
theorem s_X11_again_43 {l1_13 : Int} {q : Int × xW} {k : Int → xW → Option (Int × xW)} (hk : ∀ (l2_21 : Int) (s22 : xW), k l2_21 s22 = some q → xG 1 0 0 mX11_again 72 [vR 121, vI l1_13, vI l2_21] [] 155 s22 (xRv (vI q.1) q.2)) : ∀ (f : Nat) (l2_14 : Int) (s15 : xW), F_X11_again_43 l1_13 f l2_14 s15 k = some q → xG 1 0 0 mX11_again 43 [vR 121, vI l1_13, vI l2_14] [] 155 s15 (xRv (vI q.1) q.2) := by
  intro f
  induction f with
  | zero => intro l2_14 s15 h; cases h
  | succ f ih =>
    intro l2_14 s15 h
    unfold F_X11_again_43 at h
    refine g_iln dX11_again_43 rfl rfl ?_
    refine g_bi dX11_again_44 (by decide) ?_
    refine g_wge dX11_again_46 (tgt := 72) rfl rfl (xw_id (by decide)) (fun q16 => ?_) (fun q16 => ?_)
    · replace h := xif_f q16 h
      exact hk l2_14 s15 h
    · replace h := xif_t q16 h
      refine g_aln dX11_again_49 rfl rfl (by decide) ?_
      refine g_getC 127 dX11_again_50 fl_X11_47 rfl (by decide) ?_
      refine g_iln dX11_again_53 rfl rfl ?_
      refine g_aln dX11_again_54 rfl rfl (by decide) ?_
      refine g_getC 153 dX11_again_55 fl_X11_126 rfl (by decide) ?_
      refine g_bi dX11_again_58 (by decide) ?_
      refine g_iln dX11_again_60 rfl rfl ?_
      refine g_imul dX11_again_61 ?_
      refine g_iln dX11_again_62 rfl rfl ?_
      refine g_iadd dX11_again_63 ?_
      obtain ⟨hg17, h⟩ := xgd_e h
      refine g_iald 120 dX11_again_64 rfl hg17 (by decide) ?_
      obtain ⟨hg18, h⟩ := xgd_e h
      obtain ⟨s19, e20, h⟩ := xlt_e h
      refine h_iast 40 dX11_again_65 rfl hg18 (by decide) e20 ?_
      refine g_inc_2 dX11_again_66 (by decide) rfl ?_
      refine g_goto dX11_again_69 (tgt := 43) rfl ?_
      exact ih (l2_14 + 1) s19 h
theorem s_X11_again {a1 : Int} {s0 : xW} {q : Int × xW} (h : F_X11_again a1 s0 = some q) : xC 1 0 0 mX11_again [vR 121, vI a1] 155 s0 (xRv (vI q.1) q.2) := by
  refine xC.of [vR 121, vI a1, vX] (by decide +kernel) (Nat.le_of_ble_eq_true rfl) rfl ?_
  unfold F_X11_again at h
  refine g_aln dX11_again_0 rfl rfl (by decide) ?_
  refine g_ic dX11_again_1 ?_
  obtain ⟨s1, e2, h⟩ := xlt_e h
  refine h_putI 0 dX11_again_2 fl_X11_3 rfl rfl e2 ?_
  refine g_iln dX11_again_5 rfl rfl ?_
  refine g_wi2l dX11_again_6 rfl ?_
  refine g_lc dX11_again_7 (w := 0) rfl ?_
  refine g_ldc2 dX11_again_8 ct_X11_464 (w := 2) rfl ?_
  obtain ⟨r4, e3, h⟩ := xbp_e h
  refine g_cS3v dX11_again_11 ml_X11_132 (s_X11_in e3) (by decide) rfl ?_
  obtain ⟨j5, ej6, h⟩ := xjn_e h
  have hj7 : j5  = some q → xG 1 0 0 mX11_again 39 [vX, vX, vX] [] 155 s1 (xRv (vI q.1) q.2) := by
    intro  h
    rw [ej6] at h
    refine g_ic dX11_again_39 ?_
    exact g_rZ rfl dX11_again_40 (by decide) h
  clear ej6
  refine g_yeq dX11_again_14 (tgt := 39) rfl rfl (fun q8 => ?_) (fun q8 => ?_)
  · replace h := xif_f q8 h
    refine g_drop_0 ?_
    refine g_drop_1 ?_
    exact hj7  h
  · replace h := xif_t q8 h
    refine g_aln dX11_again_17 rfl rfl (by decide) ?_
    refine g_getC 151 dX11_again_18 fl_X11_120 rfl (by decide) ?_
    refine g_iln dX11_again_21 rfl rfl ?_
    obtain ⟨hg9, h⟩ := xgd_e h
    refine g_zald 3 dX11_again_22 rfl hg9 (by decide) ?_
    refine g_yeq dX11_again_23 (tgt := 39) rfl rfl (fun q10 => ?_) (fun q10 => ?_)
    · replace h := xif_f q10 h
      refine g_drop_0 ?_
      refine g_drop_1 ?_
      exact hj7  h
    · replace h := xif_t q10 h
      refine g_aln dX11_again_26 rfl rfl (by decide) ?_
      refine g_getC 152 dX11_again_27 fl_X11_123 rfl (by decide) ?_
      refine g_iln dX11_again_30 rfl rfl ?_
      obtain ⟨hg11, h⟩ := xgd_e h
      refine g_iald 3 dX11_again_31 rfl hg11 (by decide) ?_
      refine g_aln dX11_again_32 rfl rfl (by decide) ?_
      refine g_getI 5 dX11_again_33 fl_X11_221 rfl rfl ?_
      refine g_weq dX11_again_36 (tgt := 41) rfl rfl rfl (fun q12 => ?_) (fun q12 => ?_)
      · replace h := xif_f q12 h
        refine g_ic dX11_again_41 ?_
        refine g_istn_2 dX11_again_42 (by decide) rfl ?_
        refine s_X11_again_43 (fun l2_23 s24 h => ?_) xN _ _ h
        refine g_aln dX11_again_72 rfl rfl (by decide) ?_
        refine g_ic dX11_again_73 ?_
        obtain ⟨s25, e26, h⟩ := xlt_e h
        refine h_putI 28 dX11_again_74 fl_X11_218 rfl rfl e26 ?_
        refine g_ic dX11_again_77 ?_
        exact g_rZ rfl dX11_again_78 (by decide) h
      · replace h := xif_t q12 h
        refine g_drop_0 ?_
        refine g_drop_1 ?_
        exact hj7  h
theorem dX11_copies_0 : decode cX11_copies 0 = .ok (.iconst 0, 1) := by decide +kernel
theorem dX11_copies_1 : decode cX11_copies 1 = .ok (.istore_n 1, 1) := by decide +kernel
theorem dX11_copies_2 : decode cX11_copies 2 = .ok (.iload_n 1, 1) := by decide +kernel
theorem dX11_copies_3 : decode cX11_copies 3 = .ok (.bipush 40, 2) := by decide +kernel
theorem dX11_copies_5 : decode cX11_copies 5 = .ok (.if_icmp .ge 21, 3) := by decide +kernel
theorem dX11_copies_8 : decode cX11_copies 8 = .ok (.aload_n 0, 1) := by decide +kernel
theorem dX11_copies_9 : decode cX11_copies 9 = .ok (.getfield 50, 3) := by decide +kernel
theorem dX11_copies_12 : decode cX11_copies 12 = .ok (.iload_n 1, 1) := by decide +kernel
theorem dX11_copies_13 : decode cX11_copies 13 = .ok (.aload_n 0, 1) := by decide +kernel
theorem dX11_copies_14 : decode cX11_copies 14 = .ok (.getfield 47, 3) := by decide +kernel
theorem dX11_copies_17 : decode cX11_copies 17 = .ok (.iload_n 1, 1) := by decide +kernel
theorem dX11_copies_18 : decode cX11_copies 18 = .ok (.iaload, 1) := by decide +kernel
theorem dX11_copies_19 : decode cX11_copies 19 = .ok (.iastore, 1) := by decide +kernel
theorem dX11_copies_20 : decode cX11_copies 20 = .ok (.iinc 1 1, 3) := by decide +kernel
theorem dX11_copies_23 : decode cX11_copies 23 = .ok (.goto (-21), 3) := by decide +kernel
theorem dX11_copies_26 : decode cX11_copies 26 = .ok (.return_, 1) := by decide +kernel
theorem s_X11_copies_2 {q : xW} {k : Int → xW → Option (xW)} (hk : ∀ (l1_8 : Int) (s9 : xW), k l1_8 s9 = some q → xG 0 0 0 mX11_copies 26 [vR 121, vI l1_8] [] 155 s9 (xR0 q)) : ∀ (f : Nat) (l1_1 : Int) (s2 : xW), F_X11_copies_2  f l1_1 s2 k = some q → xG 0 0 0 mX11_copies 2 [vR 121, vI l1_1] [] 155 s2 (xR0 q) := by
  intro f
  induction f with
  | zero => intro l1_1 s2 h; cases h
  | succ f ih =>
    intro l1_1 s2 h
    unfold F_X11_copies_2 at h
    refine g_iln dX11_copies_2 rfl rfl ?_
    refine g_bi dX11_copies_3 (by decide) ?_
    refine g_wge dX11_copies_5 (tgt := 26) rfl rfl (xw_id (by decide)) (fun q3 => ?_) (fun q3 => ?_)
    · replace h := xif_f q3 h
      exact hk l1_1 s2 h
    · replace h := xif_t q3 h
      refine g_aln dX11_copies_8 rfl rfl (by decide) ?_
      refine g_getC 128 dX11_copies_9 fl_X11_50 rfl (by decide) ?_
      refine g_iln dX11_copies_12 rfl rfl ?_
      refine g_aln dX11_copies_13 rfl rfl (by decide) ?_
      refine g_getC 127 dX11_copies_14 fl_X11_47 rfl (by decide) ?_
      refine g_iln dX11_copies_17 rfl rfl ?_
      obtain ⟨hg4, h⟩ := xgd_e h
      refine g_iald 40 dX11_copies_18 rfl hg4 (by decide) ?_
      obtain ⟨hg5, h⟩ := xgd_e h
      obtain ⟨s6, e7, h⟩ := xlt_e h
      refine h_iast 40 dX11_copies_19 rfl hg5 (by decide) e7 ?_
      refine g_inc_1 dX11_copies_20 (by decide) rfl ?_
      refine g_goto dX11_copies_23 (tgt := 2) rfl ?_
      exact ih (l1_1 + 1) s6 h
theorem s_X11_copies {s0 : xW} {q : xW} (h : F_X11_copies  s0 = some q) : xC 0 0 0 mX11_copies [vR 121] 155 s0 (xR0 q) := by
  refine xC.of [vR 121, vX] (by decide +kernel) (Nat.le_of_ble_eq_true rfl) rfl ?_
  unfold F_X11_copies at h
  refine g_ic dX11_copies_0 ?_
  refine g_istn_1 dX11_copies_1 (by decide) rfl ?_
  refine s_X11_copies_2 (fun l1_10 s11 h => ?_) xN _ _ h
  exact g_rV rfl dX11_copies_26 h
theorem dX11_dampOn_0 : decode cX11_dampOn 0 = .ok (.aload_n 0, 1) := by decide +kernel
theorem dX11_dampOn_1 : decode cX11_dampOn 1 = .ok (.getfield 38, 3) := by decide +kernel
theorem dX11_dampOn_4 : decode cX11_dampOn 4 = .ok (.iload_n 1, 1) := by decide +kernel
theorem dX11_dampOn_5 : decode cX11_dampOn 5 = .ok (.aload_n 0, 1) := by decide +kernel
theorem dX11_dampOn_6 : decode cX11_dampOn 6 = .ok (.getfield 31, 3) := by decide +kernel
theorem dX11_dampOn_9 : decode cX11_dampOn 9 = .ok (.irem, 1) := by decide +kernel
theorem dX11_dampOn_10 : decode cX11_dampOn 10 = .ok (.iaload, 1) := by decide +kernel
theorem dX11_dampOn_11 : decode cX11_dampOn 11 = .ok (.ireturn, 1) := by decide +kernel
theorem s_X11_dampOn {a1 : Int} {s0 : xW} {q : Int} (h : F_X11_dampOn a1 s0 = some q) : xC 0 0 0 mX11_dampOn [vR 121, vI a1] 155 s0 (xRv (vI q) s0) := by
  refine xC.of [vR 121, vI a1] (by decide +kernel) (Nat.le_of_ble_eq_true rfl) rfl ?_
  unfold F_X11_dampOn at h
  refine g_aln dX11_dampOn_0 rfl rfl (by decide) ?_
  refine g_getC 124 dX11_dampOn_1 fl_X11_38 rfl (by decide) ?_
  refine g_iln dX11_dampOn_4 rfl rfl ?_
  refine g_aln dX11_dampOn_5 rfl rfl (by decide) ?_
  refine g_getI 7 dX11_dampOn_6 fl_X11_31 rfl rfl ?_
  obtain ⟨hg1, h⟩ := xgd_e h
  refine g_wrem dX11_dampOn_9 rfl rfl hg1 ?_
  obtain ⟨hg2, h⟩ := xgd_e h
  refine g_iald 20 dX11_dampOn_10 rfl hg2 (by decide) ?_
  exact g_pI rfl dX11_dampOn_11 h
theorem dX11_enters_0 : decode cX11_enters 0 = .ok (.aload_n 0, 1) := by decide +kernel
theorem dX11_enters_1 : decode cX11_enters 1 = .ok (.getfield 11, 3) := by decide +kernel
theorem dX11_enters_4 : decode cX11_enters 4 = .ok (.aload_n 0, 1) := by decide +kernel
theorem dX11_enters_5 : decode cX11_enters 5 = .ok (.getfield 15, 3) := by decide +kernel
theorem dX11_enters_8 : decode cX11_enters 8 = .ok (.lload_n 1, 1) := by decide +kernel
theorem dX11_enters_9 : decode cX11_enters 9 = .ok (.lastore, 1) := by decide +kernel
theorem dX11_enters_10 : decode cX11_enters 10 = .ok (.aload_n 0, 1) := by decide +kernel
theorem dX11_enters_11 : decode cX11_enters 11 = .ok (.dup, 1) := by decide +kernel
theorem dX11_enters_12 : decode cX11_enters 12 = .ok (.getfield 15, 3) := by decide +kernel
theorem dX11_enters_15 : decode cX11_enters 15 = .ok (.iconst 1, 1) := by decide +kernel
theorem dX11_enters_16 : decode cX11_enters 16 = .ok (.iadd, 1) := by decide +kernel
theorem dX11_enters_17 : decode cX11_enters 17 = .ok (.putfield 15, 3) := by decide +kernel
theorem dX11_enters_20 : decode cX11_enters 20 = .ok (.return_, 1) := by decide +kernel
theorem s_X11_enters {a1 : Int} {s0 : xW} {q : xW} (h : F_X11_enters a1 s0 = some q) : xC 0 0 0 mX11_enters [vR 121, vL a1] 155 s0 (xR0 q) := by
  refine xC.of [vR 121, vL a1, vX] (by decide +kernel) (Nat.le_of_ble_eq_true rfl) rfl ?_
  unfold F_X11_enters at h
  refine g_aln dX11_enters_0 rfl rfl (by decide) ?_
  refine g_getC 122 dX11_enters_1 fl_X11_11 rfl (by decide) ?_
  refine g_aln dX11_enters_4 rfl rfl (by decide) ?_
  refine g_getI 1 dX11_enters_5 fl_X11_15 rfl rfl ?_
  refine g_lln dX11_enters_8 rfl rfl ?_
  obtain ⟨hg1, h⟩ := xgd_e h
  obtain ⟨s2, e3, h⟩ := xlt_e h
  refine h_last 24 dX11_enters_9 rfl hg1 (by decide) e3 ?_
  refine g_aln dX11_enters_10 rfl rfl (by decide) ?_
  refine g_dup dX11_enters_11 rfl ?_
  refine g_getI 1 dX11_enters_12 fl_X11_15 rfl rfl ?_
  refine g_ic dX11_enters_15 ?_
  refine g_iadd dX11_enters_16 ?_
  obtain ⟨s4, e5, h⟩ := xlt_e h
  refine h_putI 1 dX11_enters_17 fl_X11_15 rfl rfl e5 ?_
  exact g_rV rfl dX11_enters_20 h
theorem dX11_windOn_0 : decode cX11_windOn 0 = .ok (.aload_n 0, 1) := by decide +kernel
theorem dX11_windOn_1 : decode cX11_windOn 1 = .ok (.getfield 34, 3) := by decide +kernel
theorem dX11_windOn_4 : decode cX11_windOn 4 = .ok (.iload_n 1, 1) := by decide +kernel
theorem dX11_windOn_5 : decode cX11_windOn 5 = .ok (.aload_n 0, 1) := by decide +kernel
theorem dX11_windOn_6 : decode cX11_windOn 6 = .ok (.getfield 28, 3) := by decide +kernel
theorem dX11_windOn_9 : decode cX11_windOn 9 = .ok (.irem, 1) := by decide +kernel
theorem dX11_windOn_10 : decode cX11_windOn 10 = .ok (.iaload, 1) := by decide +kernel
theorem dX11_windOn_11 : decode cX11_windOn 11 = .ok (.ireturn, 1) := by decide +kernel
theorem s_X11_windOn {a1 : Int} {s0 : xW} {q : Int} (h : F_X11_windOn a1 s0 = some q) : xC 0 0 0 mX11_windOn [vR 121, vI a1] 155 s0 (xRv (vI q) s0) := by
  refine xC.of [vR 121, vI a1] (by decide +kernel) (Nat.le_of_ble_eq_true rfl) rfl ?_
  unfold F_X11_windOn at h
  refine g_aln dX11_windOn_0 rfl rfl (by decide) ?_
  refine g_getC 123 dX11_windOn_1 fl_X11_34 rfl (by decide) ?_
  refine g_iln dX11_windOn_4 rfl rfl ?_
  refine g_aln dX11_windOn_5 rfl rfl (by decide) ?_
  refine g_getI 6 dX11_windOn_6 fl_X11_28 rfl rfl ?_
  obtain ⟨hg1, h⟩ := xgd_e h
  refine g_wrem dX11_windOn_9 rfl rfl hg1 ?_
  obtain ⟨hg2, h⟩ := xgd_e h
  refine g_iald 20 dX11_windOn_10 rfl hg2 (by decide) ?_
  exact g_pI rfl dX11_windOn_11 h
theorem dX11_far_0 : decode cX11_far 0 = .ok (.iload_n 0, 1) := by decide +kernel
theorem dX11_far_1 : decode cX11_far 1 = .ok (.iload_n 2, 1) := by decide +kernel
theorem dX11_far_2 : decode cX11_far 2 = .ok (.isub, 1) := by decide +kernel
theorem dX11_far_3 : decode cX11_far 3 = .ok (.invokestatic 269, 3) := by decide +kernel
theorem dX11_far_6 : decode cX11_far 6 = .ok (.iload_n 1, 1) := by decide +kernel
theorem dX11_far_7 : decode cX11_far 7 = .ok (.iload_n 3, 1) := by decide +kernel
theorem dX11_far_8 : decode cX11_far 8 = .ok (.isub, 1) := by decide +kernel
theorem dX11_far_9 : decode cX11_far 9 = .ok (.invokestatic 269, 3) := by decide +kernel
theorem dX11_far_12 : decode cX11_far 12 = .ok (.iadd, 1) := by decide +kernel
theorem dX11_far_13 : decode cX11_far 13 = .ok (.ireturn, 1) := by decide +kernel
theorem s_X11_far {a0 a1 a2 a3 : Int} {s0 : xW} {q : Int} (h : F_X11_far a0 a1 a2 a3 s0 = some q) : xC 1 0 0 mX11_far [vI a0, vI a1, vI a2, vI a3] 155 s0 (xRv (vI q) s0) := by
  refine xC.of [vI a0, vI a1, vI a2, vI a3] (by decide +kernel) (Nat.le_of_ble_eq_true rfl) rfl ?_
  unfold F_X11_far at h
  refine g_iln dX11_far_0 rfl rfl ?_
  refine g_iln dX11_far_1 rfl rfl ?_
  refine g_isub dX11_far_2 ?_
  refine g_wabs dX11_far_3 mx_X11_269 rfl (by decide) rfl ?_
  refine g_iln dX11_far_6 rfl rfl ?_
  refine g_iln dX11_far_7 rfl rfl ?_
  refine g_isub dX11_far_8 ?_
  refine g_wabs dX11_far_9 mx_X11_269 rfl (by decide) rfl ?_
  refine g_iadd dX11_far_12 ?_
  exact g_pI rfl dX11_far_13 h
theorem dX11_flag_0 : decode cX11_flag 0 = .ok (.iload_n 0, 1) := by decide +kernel
theorem dX11_flag_1 : decode cX11_flag 1 = .ok (.ifCond .eq 7, 3) := by decide +kernel
theorem dX11_flag_4 : decode cX11_flag 4 = .ok (.iconst 1, 1) := by decide +kernel
theorem dX11_flag_5 : decode cX11_flag 5 = .ok (.goto 4, 3) := by decide +kernel
theorem dX11_flag_8 : decode cX11_flag 8 = .ok (.iconst 0, 1) := by decide +kernel
theorem dX11_flag_9 : decode cX11_flag 9 = .ok (.ireturn, 1) := by decide +kernel
theorem s_X11_flag {a0 : Int} {s0 : xW} {q : Int} (h : F_X11_flag a0 s0 = some q) : xC 0 0 0 mX11_flag [vI a0] 155 s0 (xRv (vI q) s0) := by
  refine xC.of [vI a0] (by decide +kernel) (Nat.le_of_ble_eq_true rfl) rfl ?_
  unfold F_X11_flag at h
  refine g_iln dX11_flag_0 rfl rfl ?_
  obtain ⟨v2, e3, h⟩ := xlt_e h
  have hj4 : xG 0 0 0 mX11_flag 9 [vX] [vI v2] 155 s0 (xRv (vI q) s0) := by
    exact g_pI rfl dX11_flag_9 h
  refine g_yeq dX11_flag_1 (tgt := 8) rfl rfl (fun c1 => ?_) (fun c1 => ?_)
  · skip
    refine g_ic dX11_flag_8 ?_
    refine g_drop_0 ?_
    exact g_vq ((if_neg c1).symm.trans e3) hj4
  · skip
    refine g_ic dX11_flag_4 ?_
    refine g_goto dX11_flag_5 (tgt := 9) rfl ?_
    refine g_drop_0 ?_
    exact g_vq ((if_pos c1).symm.trans e3) hj4
theorem dX11_worked_0 : decode cX11_worked 0 = .ok (.iload_n 0, 1) := by decide +kernel
theorem dX11_worked_1 : decode cX11_worked 1 = .ok (.tableswitch 93 0 5 #[39, 53, 67, 81, 85, 89], 39) := by decide +kernel
theorem dX11_worked_40 : decode cX11_worked 40 = .ok (.iload_n 1, 1) := by decide +kernel
theorem dX11_worked_41 : decode cX11_worked 41 = .ok (.iload_n 2, 1) := by decide +kernel
theorem dX11_worked_42 : decode cX11_worked 42 = .ok (.if_icmp .ge 7, 3) := by decide +kernel
theorem dX11_worked_45 : decode cX11_worked 45 = .ok (.iconst 1, 1) := by decide +kernel
theorem dX11_worked_46 : decode cX11_worked 46 = .ok (.goto 4, 3) := by decide +kernel
theorem dX11_worked_49 : decode cX11_worked 49 = .ok (.iconst 0, 1) := by decide +kernel
theorem dX11_worked_50 : decode cX11_worked 50 = .ok (.invokestatic 159, 3) := by decide +kernel
theorem dX11_worked_53 : decode cX11_worked 53 = .ok (.ireturn, 1) := by decide +kernel
theorem dX11_worked_54 : decode cX11_worked 54 = .ok (.iload_n 1, 1) := by decide +kernel
theorem dX11_worked_55 : decode cX11_worked 55 = .ok (.iload_n 2, 1) := by decide +kernel
theorem dX11_worked_56 : decode cX11_worked 56 = .ok (.if_icmp .le 7, 3) := by decide +kernel
theorem dX11_worked_59 : decode cX11_worked 59 = .ok (.iconst 1, 1) := by decide +kernel
theorem dX11_worked_60 : decode cX11_worked 60 = .ok (.goto 4, 3) := by decide +kernel
theorem dX11_worked_63 : decode cX11_worked 63 = .ok (.iconst 0, 1) := by decide +kernel
theorem dX11_worked_64 : decode cX11_worked 64 = .ok (.invokestatic 159, 3) := by decide +kernel
theorem dX11_worked_67 : decode cX11_worked 67 = .ok (.ireturn, 1) := by decide +kernel
theorem dX11_worked_68 : decode cX11_worked 68 = .ok (.iload_n 1, 1) := by decide +kernel
theorem dX11_worked_69 : decode cX11_worked 69 = .ok (.iload_n 2, 1) := by decide +kernel
theorem dX11_worked_70 : decode cX11_worked 70 = .ok (.if_icmp .ne 7, 3) := by decide +kernel
theorem dX11_worked_73 : decode cX11_worked 73 = .ok (.iconst 1, 1) := by decide +kernel
theorem dX11_worked_74 : decode cX11_worked 74 = .ok (.goto 4, 3) := by decide +kernel
theorem dX11_worked_77 : decode cX11_worked 77 = .ok (.iconst 0, 1) := by decide +kernel
theorem dX11_worked_78 : decode cX11_worked 78 = .ok (.invokestatic 159, 3) := by decide +kernel
theorem dX11_worked_81 : decode cX11_worked 81 = .ok (.ireturn, 1) := by decide +kernel
theorem dX11_worked_82 : decode cX11_worked 82 = .ok (.iload_n 1, 1) := by decide +kernel
theorem dX11_worked_83 : decode cX11_worked 83 = .ok (.iload_n 2, 1) := by decide +kernel
theorem dX11_worked_84 : decode cX11_worked 84 = .ok (.iadd, 1) := by decide +kernel
theorem dX11_worked_85 : decode cX11_worked 85 = .ok (.ireturn, 1) := by decide +kernel
theorem dX11_worked_86 : decode cX11_worked 86 = .ok (.iload_n 1, 1) := by decide +kernel
theorem dX11_worked_87 : decode cX11_worked 87 = .ok (.iload_n 2, 1) := by decide +kernel
theorem dX11_worked_88 : decode cX11_worked 88 = .ok (.isub, 1) := by decide +kernel
theorem dX11_worked_89 : decode cX11_worked 89 = .ok (.ireturn, 1) := by decide +kernel
theorem dX11_worked_90 : decode cX11_worked 90 = .ok (.iload_n 1, 1) := by decide +kernel
theorem dX11_worked_91 : decode cX11_worked 91 = .ok (.iload_n 2, 1) := by decide +kernel
theorem dX11_worked_92 : decode cX11_worked 92 = .ok (.imul, 1) := by decide +kernel
theorem dX11_worked_93 : decode cX11_worked 93 = .ok (.ireturn, 1) := by decide +kernel
theorem dX11_worked_94 : decode cX11_worked 94 = .ok (.iload_n 2, 1) := by decide +kernel
theorem dX11_worked_95 : decode cX11_worked 95 = .ok (.ifCond .ne 7, 3) := by decide +kernel
theorem dX11_worked_98 : decode cX11_worked 98 = .ok (.iconst 0, 1) := by decide +kernel
theorem dX11_worked_99 : decode cX11_worked 99 = .ok (.goto 6, 3) := by decide +kernel
theorem dX11_worked_102 : decode cX11_worked 102 = .ok (.iload_n 1, 1) := by decide +kernel
theorem dX11_worked_103 : decode cX11_worked 103 = .ok (.iload_n 2, 1) := by decide +kernel
theorem dX11_worked_104 : decode cX11_worked 104 = .ok (.idiv, 1) := by decide +kernel
theorem dX11_worked_105 : decode cX11_worked 105 = .ok (.ireturn, 1) := by decide +kernel
theorem s_X11_worked {a0 a1 a2 : Int} {s0 : xW} {q : Int} (h : F_X11_worked a0 a1 a2 s0 = some q) : xC 1 0 0 mX11_worked [vI a0, vI a1, vI a2] 155 s0 (xRv (vI q) s0) := by
  refine xC.of [vI a0, vI a1, vI a2] (by decide +kernel) (Nat.le_of_ble_eq_true rfl) rfl ?_
  unfold F_X11_worked at h
  refine g_iln dX11_worked_0 rfl rfl ?_
  by_cases q1 : (xw a0) = 0
  · replace h := xif_t q1 h
    refine g_wtK dX11_worked_1 q1 (by decide) (off := 39) rfl (tgt := 40) rfl ?_
    refine g_iln dX11_worked_40 rfl rfl ?_
    refine g_iln dX11_worked_41 rfl rfl ?_
    obtain ⟨v3, e4, h⟩ := xlt_e h
    have hj5 : xG 1 0 0 mX11_worked 50 [vX, vX, vX] [vI v3] 155 s0 (xRv (vI q) s0) := by
      obtain ⟨r7, e6, h⟩ := xbp_e h
      refine g_cS1v dX11_worked_50 ml_X11_159 (s_X11_flag e6) (by decide) rfl ?_
      exact g_pI rfl dX11_worked_53 h
    refine g_wge dX11_worked_42 (tgt := 49) rfl rfl rfl (fun c2 => ?_) (fun c2 => ?_)
    · skip
      refine g_ic dX11_worked_49 ?_
      refine g_drop_0 ?_
      refine g_drop_1 ?_
      refine g_drop_2 ?_
      exact g_vq ((if_neg c2).symm.trans e4) hj5
    · skip
      refine g_ic dX11_worked_45 ?_
      refine g_goto dX11_worked_46 (tgt := 50) rfl ?_
      refine g_drop_0 ?_
      refine g_drop_1 ?_
      refine g_drop_2 ?_
      exact g_vq ((if_pos c2).symm.trans e4) hj5
  replace h := xif_f q1 h
  by_cases q8 : (xw a0) = 1
  · replace h := xif_t q8 h
    refine g_wtK dX11_worked_1 q8 (by decide) (off := 53) rfl (tgt := 54) rfl ?_
    refine g_iln dX11_worked_54 rfl rfl ?_
    refine g_iln dX11_worked_55 rfl rfl ?_
    obtain ⟨v10, e11, h⟩ := xlt_e h
    have hj12 : xG 1 0 0 mX11_worked 64 [vX, vX, vX] [vI v10] 155 s0 (xRv (vI q) s0) := by
      obtain ⟨r14, e13, h⟩ := xbp_e h
      refine g_cS1v dX11_worked_64 ml_X11_159 (s_X11_flag e13) (by decide) rfl ?_
      exact g_pI rfl dX11_worked_67 h
    refine g_wle dX11_worked_56 (tgt := 63) rfl rfl rfl (fun c9 => ?_) (fun c9 => ?_)
    · skip
      refine g_ic dX11_worked_63 ?_
      refine g_drop_0 ?_
      refine g_drop_1 ?_
      refine g_drop_2 ?_
      exact g_vq ((if_neg c9).symm.trans e11) hj12
    · skip
      refine g_ic dX11_worked_59 ?_
      refine g_goto dX11_worked_60 (tgt := 64) rfl ?_
      refine g_drop_0 ?_
      refine g_drop_1 ?_
      refine g_drop_2 ?_
      exact g_vq ((if_pos c9).symm.trans e11) hj12
  replace h := xif_f q8 h
  by_cases q15 : (xw a0) = 2
  · replace h := xif_t q15 h
    refine g_wtK dX11_worked_1 q15 (by decide) (off := 67) rfl (tgt := 68) rfl ?_
    refine g_iln dX11_worked_68 rfl rfl ?_
    refine g_iln dX11_worked_69 rfl rfl ?_
    obtain ⟨v17, e18, h⟩ := xlt_e h
    have hj19 : xG 1 0 0 mX11_worked 78 [vX, vX, vX] [vI v17] 155 s0 (xRv (vI q) s0) := by
      obtain ⟨r21, e20, h⟩ := xbp_e h
      refine g_cS1v dX11_worked_78 ml_X11_159 (s_X11_flag e20) (by decide) rfl ?_
      exact g_pI rfl dX11_worked_81 h
    refine g_wne dX11_worked_70 (tgt := 77) rfl rfl rfl (fun c16 => ?_) (fun c16 => ?_)
    · skip
      refine g_ic dX11_worked_77 ?_
      refine g_drop_0 ?_
      refine g_drop_1 ?_
      refine g_drop_2 ?_
      exact g_vq ((if_neg c16).symm.trans e18) hj19
    · skip
      refine g_ic dX11_worked_73 ?_
      refine g_goto dX11_worked_74 (tgt := 78) rfl ?_
      refine g_drop_0 ?_
      refine g_drop_1 ?_
      refine g_drop_2 ?_
      exact g_vq ((if_pos c16).symm.trans e18) hj19
  replace h := xif_f q15 h
  by_cases q22 : (xw a0) = 3
  · replace h := xif_t q22 h
    refine g_wtK dX11_worked_1 q22 (by decide) (off := 81) rfl (tgt := 82) rfl ?_
    refine g_iln dX11_worked_82 rfl rfl ?_
    refine g_iln dX11_worked_83 rfl rfl ?_
    refine g_iadd dX11_worked_84 ?_
    exact g_pI rfl dX11_worked_85 h
  replace h := xif_f q22 h
  by_cases q23 : (xw a0) = 4
  · replace h := xif_t q23 h
    refine g_wtK dX11_worked_1 q23 (by decide) (off := 85) rfl (tgt := 86) rfl ?_
    refine g_iln dX11_worked_86 rfl rfl ?_
    refine g_iln dX11_worked_87 rfl rfl ?_
    refine g_isub dX11_worked_88 ?_
    exact g_pI rfl dX11_worked_89 h
  replace h := xif_f q23 h
  by_cases q24 : (xw a0) = 5
  · replace h := xif_t q24 h
    refine g_wtK dX11_worked_1 q24 (by decide) (off := 89) rfl (tgt := 90) rfl ?_
    refine g_iln dX11_worked_90 rfl rfl ?_
    refine g_iln dX11_worked_91 rfl rfl ?_
    refine g_imul dX11_worked_92 ?_
    exact g_pI rfl dX11_worked_93 h
  replace h := xif_f q24 h
  refine g_wtO dX11_worked_1 rfl (by omega) (tgt := 94) rfl ?_
  refine g_iln dX11_worked_94 rfl rfl ?_
  obtain ⟨j26, ej27, h⟩ := xjn_e h
  have hj28 : ∀ (t25 : Int), j26 t25 = some q → xG 1 0 0 mX11_worked 105 [vX, vX, vX] [vI t25] 155 s0 (xRv (vI q) s0) := by
    intro t25 h
    rw [ej27] at h
    exact g_pI rfl dX11_worked_105 h
  clear ej27
  refine g_yne dX11_worked_95 (tgt := 102) rfl rfl (fun q29 => ?_) (fun q29 => ?_)
  · replace h := xif_f q29 h
    refine g_iln dX11_worked_102 rfl rfl ?_
    refine g_iln dX11_worked_103 rfl rfl ?_
    obtain ⟨hg30, h⟩ := xgd_e h
    refine g_wdiv dX11_worked_104 rfl rfl hg30 ?_
    refine g_drop_0 ?_
    refine g_drop_1 ?_
    refine g_drop_2 ?_
    exact hj28 (Int.tdiv (xw a1) (xw a2)) h
  · replace h := xif_t q29 h
    refine g_ic dX11_worked_98 ?_
    refine g_goto dX11_worked_99 (tgt := 105) rfl ?_
    refine g_drop_0 ?_
    refine g_drop_1 ?_
    refine g_drop_2 ?_
    exact hj28 0 h
