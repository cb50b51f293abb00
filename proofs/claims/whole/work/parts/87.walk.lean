theorem dX10_mostLeft_0 : decode cX10_mostLeft 0 = .ok (.iconst 0, 1) := by decide +kernel
theorem dX10_mostLeft_1 : decode cX10_mostLeft 1 = .ok (.istore_n 2, 1) := by decide +kernel
theorem dX10_mostLeft_2 : decode cX10_mostLeft 2 = .ok (.aload_n 0, 1) := by decide +kernel
theorem dX10_mostLeft_3 : decode cX10_mostLeft 3 = .ok (.getfield 82, 3) := by decide +kernel
theorem dX10_mostLeft_6 : decode cX10_mostLeft 6 = .ok (.getfield 467, 3) := by decide +kernel
theorem dX10_mostLeft_9 : decode cX10_mostLeft 9 = .ok (.iconst 0, 1) := by decide +kernel
theorem dX10_mostLeft_10 : decode cX10_mostLeft 10 = .ok (.invokestatic 470, 3) := by decide +kernel
theorem dX10_mostLeft_13 : decode cX10_mostLeft 13 = .ok (.iconst 0, 1) := by decide +kernel
theorem dX10_mostLeft_14 : decode cX10_mostLeft 14 = .ok (.istore_n 3, 1) := by decide +kernel
theorem dX10_mostLeft_15 : decode cX10_mostLeft 15 = .ok (.iload_n 3, 1) := by decide +kernel
theorem dX10_mostLeft_16 : decode cX10_mostLeft 16 = .ok (.aload_n 0, 1) := by decide +kernel
theorem dX10_mostLeft_17 : decode cX10_mostLeft 17 = .ok (.getfield 82, 3) := by decide +kernel
theorem dX10_mostLeft_20 : decode cX10_mostLeft 20 = .ok (.getfield 457, 3) := by decide +kernel
theorem dX10_mostLeft_23 : decode cX10_mostLeft 23 = .ok (.if_icmp .ge 35, 3) := by decide +kernel
theorem dX10_mostLeft_26 : decode cX10_mostLeft 26 = .ok (.iload_n 2, 1) := by decide +kernel
theorem dX10_mostLeft_27 : decode cX10_mostLeft 27 = .ok (.aload_n 0, 1) := by decide +kernel
theorem dX10_mostLeft_28 : decode cX10_mostLeft 28 = .ok (.getfield 82, 3) := by decide +kernel
theorem dX10_mostLeft_31 : decode cX10_mostLeft 31 = .ok (.aload_n 0, 1) := by decide +kernel
theorem dX10_mostLeft_32 : decode cX10_mostLeft 32 = .ok (.aload_n 0, 1) := by decide +kernel
theorem dX10_mostLeft_33 : decode cX10_mostLeft 33 = .ok (.getfield 82, 3) := by decide +kernel
theorem dX10_mostLeft_36 : decode cX10_mostLeft 36 = .ok (.getfield 337, 3) := by decide +kernel
theorem dX10_mostLeft_39 : decode cX10_mostLeft 39 = .ok (.iload_n 3, 1) := by decide +kernel
theorem dX10_mostLeft_40 : decode cX10_mostLeft 40 = .ok (.iaload, 1) := by decide +kernel
theorem dX10_mostLeft_41 : decode cX10_mostLeft 41 = .ok (.iload_n 1, 1) := by decide +kernel
theorem dX10_mostLeft_42 : decode cX10_mostLeft 42 = .ok (.invokevirtual 463, 3) := by decide +kernel
theorem dX10_mostLeft_45 : decode cX10_mostLeft 45 = .ok (.invokevirtual 473, 3) := by decide +kernel
theorem dX10_mostLeft_48 : decode cX10_mostLeft 48 = .ok (.invokestatic 392, 3) := by decide +kernel
theorem dX10_mostLeft_51 : decode cX10_mostLeft 51 = .ok (.istore_n 2, 1) := by decide +kernel
theorem dX10_mostLeft_52 : decode cX10_mostLeft 52 = .ok (.iinc 3 1, 3) := by decide +kernel
theorem dX10_mostLeft_55 : decode cX10_mostLeft 55 = .ok (.goto (-40), 3) := by decide +kernel
theorem dX10_mostLeft_58 : decode cX10_mostLeft 58 = .ok (.iload_n 2, 1) := by decide +kernel
theorem dX10_mostLeft_59 : decode cX10_mostLeft 59 = .ok (.ireturn, 1) := by decide +kernel
theorem s_X10_mostLeft_15 {l1_3 : Int} {q : Int × xW} {k : Int → Int → xW → Option (Int × xW)} (hk : ∀ (l2_15 : Int) (l3_16 : Int) (s17 : xW), k l2_15 l3_16 s17 = some q → xG 4 0 0 mX10_mostLeft 58 [vR 0, vI l1_3, vI l2_15, vI l3_16] [] 155 s17 (xRv (vI q.1) q.2)) : ∀ (f : Nat) (l2_4 : Int) (l3_5 : Int) (s6 : xW), F_X10_mostLeft_15 l1_3 f l2_4 l3_5 s6 k = some q → xG 4 0 0 mX10_mostLeft 15 [vR 0, vI l1_3, vI l2_4, vI l3_5] [] 155 s6 (xRv (vI q.1) q.2) := by
  intro f
  induction f with
  | zero => intro l2_4 l3_5 s6 h; cases h
  | succ f ih =>
    intro l2_4 l3_5 s6 h
    unfold F_X10_mostLeft_15 at h
    refine g_iln dX10_mostLeft_15 rfl rfl ?_
    refine g_aln dX10_mostLeft_16 rfl rfl (by decide) ?_
    refine g_getC 100 dX10_mostLeft_17 fl_X10_82 rfl (by decide) ?_
    refine g_getI 4 dX10_mostLeft_20 fl_X10_457 rfl rfl ?_
    refine g_wge dX10_mostLeft_23 (tgt := 58) rfl rfl rfl (fun q7 => ?_) (fun q7 => ?_)
    · replace h := xif_f q7 h
      exact hk l2_4 l3_5 s6 h
    · replace h := xif_t q7 h
      refine g_iln dX10_mostLeft_26 rfl rfl ?_
      refine g_aln dX10_mostLeft_27 rfl rfl (by decide) ?_
      refine g_getC 100 dX10_mostLeft_28 fl_X10_82 rfl (by decide) ?_
      refine g_aln dX10_mostLeft_31 rfl rfl (by decide) ?_
      refine g_aln dX10_mostLeft_32 rfl rfl (by decide) ?_
      refine g_getC 100 dX10_mostLeft_33 fl_X10_82 rfl (by decide) ?_
      refine g_getC 103 dX10_mostLeft_36 fl_X10_337 rfl (by decide) ?_
      refine g_iln dX10_mostLeft_39 rfl rfl ?_
      obtain ⟨hg8, h⟩ := xgd_e h
      refine g_iald 100 dX10_mostLeft_40 rfl hg8 (by decide) ?_
      refine g_iln dX10_mostLeft_41 rfl rfl ?_
      obtain ⟨r10, s11, e9, h⟩ := xbd_e h
      refine g_cV2v dX10_mostLeft_42 ml_X10_463 rfl (s_X10_minuteBy e9) (by decide) rfl ?_
      obtain ⟨r13, s14, e12, h⟩ := xbd_e h
      refine g_cV1v dX10_mostLeft_45 ml_X10_473 rfl (s_X5_countMinute e12) (by decide) rfl ?_
      refine g_wmax dX10_mostLeft_48 mx_X10_392 rfl rfl (by decide) rfl ?_
      refine g_istn_2 dX10_mostLeft_51 (by decide) rfl ?_
      refine g_inc_3 dX10_mostLeft_52 (by decide) rfl ?_
      refine g_goto dX10_mostLeft_55 (tgt := 15) rfl ?_
      exact ih (max (xw l2_4) (xw r13)) (l3_5 + 1) s14 h
theorem s_X10_mostLeft {a1 : Int} {s0 : xW} {q : Int × xW} (h : F_X10_mostLeft a1 s0 = some q) : xC 4 0 0 mX10_mostLeft [vR 0, vI a1] 155 s0 (xRv (vI q.1) q.2) := by
  refine xC.of [vR 0, vI a1, vX, vX] (by decide +kernel) (Nat.le_of_ble_eq_true rfl) rfl ?_
  unfold F_X10_mostLeft at h
  refine g_ic dX10_mostLeft_0 ?_
  refine g_istn_2 dX10_mostLeft_1 (by decide) rfl ?_
  refine g_aln dX10_mostLeft_2 rfl rfl (by decide) ?_
  refine g_getC 100 dX10_mostLeft_3 fl_X10_82 rfl (by decide) ?_
  refine g_getC 104 dX10_mostLeft_6 fl_X10_467 rfl (by decide) ?_
  refine g_ic dX10_mostLeft_9 ?_
  obtain ⟨s1, e2, h⟩ := xlt_e h
  refine h_fillI 120 dX10_mostLeft_10 fl_X10_470 rfl (by decide) (by decide) rfl e2 ?_
  refine g_ic dX10_mostLeft_13 ?_
  refine g_istn_3 dX10_mostLeft_14 (by decide) rfl ?_
  refine s_X10_mostLeft_15 (fun l2_18 l3_19 s20 h => ?_) xN _ _ _ h
  refine g_iln dX10_mostLeft_58 rfl rfl ?_
  exact g_rI rfl dX10_mostLeft_59 h
theorem dX10_asks_0 : decode cX10_asks 0 = .ok (.aload_n 0, 1) := by decide +kernel
theorem dX10_asks_1 : decode cX10_asks 1 = .ok (.getfield 93, 3) := by decide +kernel
theorem dX10_asks_4 : decode cX10_asks 4 = .ok (.ifCond .eq 10, 3) := by decide +kernel
theorem dX10_asks_7 : decode cX10_asks 7 = .ok (.aload_n 0, 1) := by decide +kernel
theorem dX10_asks_8 : decode cX10_asks 8 = .ok (.invokevirtual 334, 3) := by decide +kernel
theorem dX10_asks_11 : decode cX10_asks 11 = .ok (.ifCond .ne 6, 3) := by decide +kernel
theorem dX10_asks_14 : decode cX10_asks 14 = .ok (.bipush (-2), 2) := by decide +kernel
theorem dX10_asks_16 : decode cX10_asks 16 = .ok (.ireturn, 1) := by decide +kernel
theorem dX10_asks_17 : decode cX10_asks 17 = .ok (.bipush 101, 2) := by decide +kernel
theorem dX10_asks_19 : decode cX10_asks 19 = .ok (.istore_n 1, 1) := by decide +kernel
theorem dX10_asks_20 : decode cX10_asks 20 = .ok (.iconst 0, 1) := by decide +kernel
theorem dX10_asks_21 : decode cX10_asks 21 = .ok (.istore_n 2, 1) := by decide +kernel
theorem dX10_asks_22 : decode cX10_asks 22 = .ok (.iconst 0, 1) := by decide +kernel
theorem dX10_asks_23 : decode cX10_asks 23 = .ok (.istore_n 3, 1) := by decide +kernel
theorem dX10_asks_24 : decode cX10_asks 24 = .ok (.iload_n 3, 1) := by decide +kernel
theorem dX10_asks_25 : decode cX10_asks 25 = .ok (.aload_n 0, 1) := by decide +kernel
theorem dX10_asks_26 : decode cX10_asks 26 = .ok (.getfield 93, 3) := by decide +kernel
theorem dX10_asks_29 : decode cX10_asks 29 = .ok (.if_icmp .ge 27, 3) := by decide +kernel
theorem dX10_asks_32 : decode cX10_asks 32 = .ok (.aload_n 0, 1) := by decide +kernel
theorem dX10_asks_33 : decode cX10_asks 33 = .ok (.iload_n 3, 1) := by decide +kernel
theorem dX10_asks_34 : decode cX10_asks 34 = .ok (.invokevirtual 340, 3) := by decide +kernel
theorem dX10_asks_37 : decode cX10_asks 37 = .ok (.istore 4, 2) := by decide +kernel
theorem dX10_asks_39 : decode cX10_asks 39 = .ok (.iload 4, 2) := by decide +kernel
theorem dX10_asks_41 : decode cX10_asks 41 = .ok (.iload_n 1, 1) := by decide +kernel
theorem dX10_asks_42 : decode cX10_asks 42 = .ok (.if_icmp .ge 8, 3) := by decide +kernel
theorem dX10_asks_45 : decode cX10_asks 45 = .ok (.iload 4, 2) := by decide +kernel
theorem dX10_asks_47 : decode cX10_asks 47 = .ok (.istore_n 1, 1) := by decide +kernel
theorem dX10_asks_48 : decode cX10_asks 48 = .ok (.iload_n 3, 1) := by decide +kernel
theorem dX10_asks_49 : decode cX10_asks 49 = .ok (.istore_n 2, 1) := by decide +kernel
theorem dX10_asks_50 : decode cX10_asks 50 = .ok (.iinc 3 1, 3) := by decide +kernel
theorem dX10_asks_53 : decode cX10_asks 53 = .ok (.goto (-29), 3) := by decide +kernel
theorem dX10_asks_56 : decode cX10_asks 56 = .ok (.aload_n 0, 1) := by decide +kernel
theorem dX10_asks_57 : decode cX10_asks 57 = .ok (.getfield 19, 3) := by decide +kernel
theorem dX10_asks_60 : decode cX10_asks 60 = .ok (.iload_n 1, 1) := by decide +kernel
theorem dX10_asks_61 : decode cX10_asks 61 = .ok (.i2l, 1) := by decide +kernel
theorem dX10_asks_62 : decode cX10_asks 62 = .ok (.invokevirtual 286, 3) := by decide +kernel
theorem dX10_asks_65 : decode cX10_asks 65 = .ok (.iload_n 2, 1) := by decide +kernel
theorem dX10_asks_66 : decode cX10_asks 66 = .ok (.ireturn, 1) := by decide +kernel
theorem s_X10_asks_24 {q : Int × xW} {k : Int → Int → Int → xW → Option (Int × xW)} (hk : ∀ (l1_24 : Int) (l2_25 : Int) (l3_26 : Int) (s27 : xW), k l1_24 l2_25 l3_26 s27 = some q → xG 6 0 0 mX10_asks 56 [vR 0, vI l1_24, vI l2_25, vI l3_26, vX] [] 155 s27 (xRv (vI q.1) q.2)) : ∀ (f : Nat) (l1_10 : Int) (l2_11 : Int) (l3_12 : Int) (s13 : xW), F_X10_asks_24  f l1_10 l2_11 l3_12 s13 k = some q → xG 6 0 0 mX10_asks 24 [vR 0, vI l1_10, vI l2_11, vI l3_12, vX] [] 155 s13 (xRv (vI q.1) q.2) := by
  intro f
  induction f with
  | zero => intro l1_10 l2_11 l3_12 s13 h; cases h
  | succ f ih =>
    intro l1_10 l2_11 l3_12 s13 h
    unfold F_X10_asks_24 at h
    refine g_iln dX10_asks_24 rfl rfl ?_
    refine g_aln dX10_asks_25 rfl rfl (by decide) ?_
    refine g_getI 14 dX10_asks_26 fl_X10_93 rfl rfl ?_
    refine g_wge dX10_asks_29 (tgt := 56) rfl rfl rfl (fun q14 => ?_) (fun q14 => ?_)
    · replace h := xif_f q14 h
      exact hk l1_10 l2_11 l3_12 s13 h
    · replace h := xif_t q14 h
      refine g_aln dX10_asks_32 rfl rfl (by decide) ?_
      refine g_iln dX10_asks_33 rfl rfl ?_
      obtain ⟨r16, s17, e15, h⟩ := xbd_e h
      refine g_cV1v dX10_asks_34 ml_X10_340 rfl (s_X10_mostLeft e15) (by decide) rfl ?_
      refine g_ist_4 dX10_asks_37 (by decide) rfl ?_
      refine g_il dX10_asks_39 rfl ?_
      refine g_iln dX10_asks_41 rfl rfl ?_
      obtain ⟨j20, ej21, h⟩ := xjn_e h
      have hj22 : ∀ (l1_18 : Int) (l2_19 : Int), j20 l1_18 l2_19 = some q → xG 6 0 0 mX10_asks 50 [vR 0, vI l1_18, vI l2_19, vI l3_12, vX] [] 155 s17 (xRv (vI q.1) q.2) := by
        intro l1_18 l2_19 h
        rw [ej21] at h
        refine g_inc_3 dX10_asks_50 (by decide) rfl ?_
        refine g_goto dX10_asks_53 (tgt := 24) rfl ?_
        exact ih l1_18 l2_19 (l3_12 + 1) s17 h
      clear ej21
      refine g_wge dX10_asks_42 (tgt := 50) rfl rfl rfl (fun q23 => ?_) (fun q23 => ?_)
      · replace h := xif_f q23 h
        refine g_drop_4 ?_
        exact hj22 l1_10 l2_11 h
      · replace h := xif_t q23 h
        refine g_il dX10_asks_45 rfl ?_
        refine g_istn_1 dX10_asks_47 (by decide) rfl ?_
        refine g_iln dX10_asks_48 rfl rfl ?_
        refine g_istn_2 dX10_asks_49 (by decide) rfl ?_
        refine g_drop_4 ?_
        exact hj22 r16 l3_12 h
theorem s_X10_asks {s0 : xW} {q : Int × xW} (h : F_X10_asks  s0 = some q) : xC 6 0 0 mX10_asks [vR 0] 155 s0 (xRv (vI q.1) q.2) := by
  refine xC.of [vR 0, vX, vX, vX, vX] (by decide +kernel) (Nat.le_of_ble_eq_true rfl) rfl ?_
  unfold F_X10_asks at h
  refine g_aln dX10_asks_0 rfl rfl (by decide) ?_
  refine g_getI 14 dX10_asks_1 fl_X10_93 rfl rfl ?_
  obtain ⟨j2, ej3, h⟩ := xjn_e h
  have hj4 : ∀ (s1 : xW), j2 s1 = some q → xG 6 0 0 mX10_asks 14 [vX, vX, vX, vX, vX] [] 155 s1 (xRv (vI q.1) q.2) := by
    intro s1 h
    rw [ej3] at h
    refine g_bi dX10_asks_14 (by decide) ?_
    exact g_rI rfl dX10_asks_16 h
  clear ej3
  refine g_yeq dX10_asks_4 (tgt := 14) rfl rfl (fun q5 => ?_) (fun q5 => ?_)
  · replace h := xif_f q5 h
    refine g_drop_0 ?_
    exact hj4 s0 h
  · replace h := xif_t q5 h
    refine g_aln dX10_asks_7 rfl rfl (by decide) ?_
    obtain ⟨r7, s8, e6, h⟩ := xbd_e h
    refine g_cV0v dX10_asks_8 ml_X10_334 rfl (s_X10_findWeathers e6) (by decide) rfl ?_
    refine g_yne dX10_asks_11 (tgt := 17) rfl rfl (fun q9 => ?_) (fun q9 => ?_)
    · replace h := xif_f q9 h
      refine g_bi dX10_asks_17 (by decide) ?_
      refine g_istn_1 dX10_asks_19 (by decide) rfl ?_
      refine g_ic dX10_asks_20 ?_
      refine g_istn_2 dX10_asks_21 (by decide) rfl ?_
      refine g_ic dX10_asks_22 ?_
      refine g_istn_3 dX10_asks_23 (by decide) rfl ?_
      refine s_X10_asks_24 (fun l1_28 l2_29 l3_30 s31 h => ?_) xN _ _ _ _ h
      refine g_aln dX10_asks_56 rfl rfl (by decide) ?_
      refine g_getC 3 dX10_asks_57 fl_X10_19 rfl (by decide) ?_
      refine g_iln dX10_asks_60 rfl rfl ?_
      refine g_wi2l dX10_asks_61 rfl ?_
      obtain ⟨s33, e32, h⟩ := xbp_e h
      refine g_cV10 dX10_asks_62 ml_X10_286 rfl (s_X6_tell e32) (by decide) rfl ?_
      refine g_iln dX10_asks_65 rfl rfl ?_
      exact g_rI rfl dX10_asks_66 h
    · replace h := xif_t q9 h
      refine g_drop_0 ?_
      exact hj4 s8 h
theorem dX6_tell___0 : decode cX6_tell__ 0 = .ok (.aload_n 0, 1) := by decide +kernel
theorem dX6_tell___1 : decode cX6_tell__ 1 = .ok (.lload_n 1, 1) := by decide +kernel
theorem dX6_tell___2 : decode cX6_tell__ 2 = .ok (.lload_n 3, 1) := by decide +kernel
theorem dX6_tell___3 : decode cX6_tell__ 3 = .ok (.invokevirtual 27, 3) := by decide +kernel
theorem dX6_tell___6 : decode cX6_tell__ 6 = .ok (.aload_n 0, 1) := by decide +kernel
theorem dX6_tell___7 : decode cX6_tell__ 7 = .ok (.lload 5, 2) := by decide +kernel
theorem dX6_tell___9 : decode cX6_tell__ 9 = .ok (.invokevirtual 20, 3) := by decide +kernel
theorem dX6_tell___12 : decode cX6_tell__ 12 = .ok (.return_, 1) := by decide +kernel
theorem s_X6_tell__ {a1 a3 a5 : Int} {s0 : xW} {q : xW} (h : F_X6_tell__ a1 a3 a5 s0 = some q) : xC 3 0 0 mX6_tell__ [vR 3, vL a1, vL a3, vL a5] 155 s0 (xR0 q) := by
  refine xC.of [vR 3, vL a1, vX, vL a3, vX, vL a5, vX] (by decide +kernel) (Nat.le_of_ble_eq_true rfl) rfl ?_
  unfold F_X6_tell__ at h
  refine g_aln dX6_tell___0 rfl rfl (by decide) ?_
  refine g_lln dX6_tell___1 rfl rfl ?_
  refine g_lln dX6_tell___2 rfl rfl ?_
  obtain ⟨s2, e1, h⟩ := xbp_e h
  refine g_cV20 dX6_tell___3 ml_X6_27 rfl (s_X6_tell_ e1) (by decide) rfl ?_
  refine g_aln dX6_tell___6 rfl rfl (by decide) ?_
  refine g_ll dX6_tell___7 rfl ?_
  obtain ⟨s4, e3, h⟩ := xbp_e h
  refine g_cV10 dX6_tell___9 ml_X6_20 rfl (s_X6_add e3) (by decide) rfl ?_
  exact g_rV rfl dX6_tell___12 h
theorem dX10_best_0 : decode cX10_best 0 = .ok (.iconst 0, 1) := by decide +kernel
theorem dX10_best_1 : decode cX10_best 1 = .ok (.istore_n 1, 1) := by decide +kernel
theorem dX10_best_2 : decode cX10_best 2 = .ok (.iconst (-1), 1) := by decide +kernel
theorem dX10_best_3 : decode cX10_best 3 = .ok (.istore_n 2, 1) := by decide +kernel
theorem dX10_best_4 : decode cX10_best 4 = .ok (.iconst 0, 1) := by decide +kernel
theorem dX10_best_5 : decode cX10_best 5 = .ok (.istore_n 3, 1) := by decide +kernel
theorem dX10_best_6 : decode cX10_best 6 = .ok (.iload_n 3, 1) := by decide +kernel
theorem dX10_best_7 : decode cX10_best 7 = .ok (.bipush 100, 2) := by decide +kernel
theorem dX10_best_9 : decode cX10_best 9 = .ok (.if_icmp .ge 50, 3) := by decide +kernel
theorem dX10_best_12 : decode cX10_best 12 = .ok (.aload_n 0, 1) := by decide +kernel
theorem dX10_best_13 : decode cX10_best 13 = .ok (.aload_n 0, 1) := by decide +kernel
theorem dX10_best_14 : decode cX10_best 14 = .ok (.getfield 36, 3) := by decide +kernel
theorem dX10_best_17 : decode cX10_best 17 = .ok (.iload_n 3, 1) := by decide +kernel
theorem dX10_best_18 : decode cX10_best 18 = .ok (.aload_n 0, 1) := by decide +kernel
theorem dX10_best_19 : decode cX10_best 19 = .ok (.getfield 46, 3) := by decide +kernel
theorem dX10_best_22 : decode cX10_best 22 = .ok (.getfield 277, 3) := by decide +kernel
theorem dX10_best_25 : decode cX10_best 25 = .ok (.invokevirtual 305, 3) := by decide +kernel
theorem dX10_best_28 : decode cX10_best 28 = .ok (.aload_n 0, 1) := by decide +kernel
theorem dX10_best_29 : decode cX10_best 29 = .ok (.getfield 75, 3) := by decide +kernel
theorem dX10_best_32 : decode cX10_best 32 = .ok (.invokevirtual 309, 3) := by decide +kernel
theorem dX10_best_35 : decode cX10_best 35 = .ok (.istore 4, 2) := by decide +kernel
theorem dX10_best_37 : decode cX10_best 37 = .ok (.iload_n 2, 1) := by decide +kernel
theorem dX10_best_38 : decode cX10_best 38 = .ok (.iconst (-1), 1) := by decide +kernel
theorem dX10_best_39 : decode cX10_best 39 = .ok (.if_icmp .eq 9, 3) := by decide +kernel
theorem dX10_best_42 : decode cX10_best 42 = .ok (.iload 4, 2) := by decide +kernel
theorem dX10_best_44 : decode cX10_best 44 = .ok (.iload_n 1, 1) := by decide +kernel
theorem dX10_best_45 : decode cX10_best 45 = .ok (.if_icmp .ge 8, 3) := by decide +kernel
theorem dX10_best_48 : decode cX10_best 48 = .ok (.iload 4, 2) := by decide +kernel
theorem dX10_best_50 : decode cX10_best 50 = .ok (.istore_n 1, 1) := by decide +kernel
theorem dX10_best_51 : decode cX10_best 51 = .ok (.iload_n 3, 1) := by decide +kernel
theorem dX10_best_52 : decode cX10_best 52 = .ok (.istore_n 2, 1) := by decide +kernel
theorem dX10_best_53 : decode cX10_best 53 = .ok (.iinc 3 1, 3) := by decide +kernel
theorem dX10_best_56 : decode cX10_best 56 = .ok (.goto (-50), 3) := by decide +kernel
theorem dX10_best_59 : decode cX10_best 59 = .ok (.aload_n 0, 1) := by decide +kernel
theorem dX10_best_60 : decode cX10_best 60 = .ok (.getfield 19, 3) := by decide +kernel
theorem dX10_best_63 : decode cX10_best 63 = .ok (.iload_n 2, 1) := by decide +kernel
theorem dX10_best_64 : decode cX10_best 64 = .ok (.bipush 10, 2) := by decide +kernel
theorem dX10_best_66 : decode cX10_best 66 = .ok (.idiv, 1) := by decide +kernel
theorem dX10_best_67 : decode cX10_best 67 = .ok (.i2l, 1) := by decide +kernel
theorem dX10_best_68 : decode cX10_best 68 = .ok (.iload_n 2, 1) := by decide +kernel
theorem dX10_best_69 : decode cX10_best 69 = .ok (.bipush 10, 2) := by decide +kernel
theorem dX10_best_71 : decode cX10_best 71 = .ok (.irem, 1) := by decide +kernel
theorem dX10_best_72 : decode cX10_best 72 = .ok (.i2l, 1) := by decide +kernel
theorem dX10_best_73 : decode cX10_best 73 = .ok (.aload_n 0, 1) := by decide +kernel
theorem dX10_best_74 : decode cX10_best 74 = .ok (.aload_n 0, 1) := by decide +kernel
theorem dX10_best_75 : decode cX10_best 75 = .ok (.getfield 46, 3) := by decide +kernel
theorem dX10_best_78 : decode cX10_best 78 = .ok (.getfield 277, 3) := by decide +kernel
theorem dX10_best_81 : decode cX10_best 81 = .ok (.invokevirtual 283, 3) := by decide +kernel
theorem dX10_best_84 : decode cX10_best 84 = .ok (.i2l, 1) := by decide +kernel
theorem dX10_best_85 : decode cX10_best 85 = .ok (.invokevirtual 274, 3) := by decide +kernel
theorem dX10_best_88 : decode cX10_best 88 = .ok (.iload_n 1, 1) := by decide +kernel
theorem dX10_best_89 : decode cX10_best 89 = .ok (.ireturn, 1) := by decide +kernel
theorem s_X10_best_6 {q : Int × xW} {k : Int → Int → Int → xW → Option (Int × xW)} (hk : ∀ (l1_21 : Int) (l2_22 : Int) (l3_23 : Int) (s24 : xW), k l1_21 l2_22 l3_23 s24 = some q → xG 5 0 0 mX10_best 59 [vR 0, vI l1_21, vI l2_22, vI l3_23, vX] [] 155 s24 (xRv (vI q.1) q.2)) : ∀ (f : Nat) (l1_1 : Int) (l2_2 : Int) (l3_3 : Int) (s4 : xW), F_X10_best_6  f l1_1 l2_2 l3_3 s4 k = some q → xG 5 0 0 mX10_best 6 [vR 0, vI l1_1, vI l2_2, vI l3_3, vX] [] 155 s4 (xRv (vI q.1) q.2) := by
  intro f
  induction f with
  | zero => intro l1_1 l2_2 l3_3 s4 h; cases h
  | succ f ih =>
    intro l1_1 l2_2 l3_3 s4 h
    unfold F_X10_best_6 at h
    refine g_iln dX10_best_6 rfl rfl ?_
    refine g_bi dX10_best_7 (by decide) ?_
    refine g_wge dX10_best_9 (tgt := 59) rfl rfl (xw_id (by decide)) (fun q5 => ?_) (fun q5 => ?_)
    · replace h := xif_f q5 h
      exact hk l1_1 l2_2 l3_3 s4 h
    · replace h := xif_t q5 h
      refine g_aln dX10_best_12 rfl rfl (by decide) ?_
      refine g_aln dX10_best_13 rfl rfl (by decide) ?_
      obtain ⟨hg6, h⟩ := xgd_e h
      refine g_getR 4 dX10_best_14 fl_X10_36 rfl rfl ?_
      refine g_iln dX10_best_17 rfl rfl ?_
      refine g_aln dX10_best_18 rfl rfl (by decide) ?_
      refine g_getC 17 dX10_best_19 fl_X10_46 rfl (by decide) ?_
      refine g_getI 5 dX10_best_22 fl_X10_277 rfl rfl ?_
      obtain ⟨s8, e7, h⟩ := xbp_e h
      refine g_cV30 dX10_best_25 ml_X10_305 rfl (s_X10_planFor e7) (by decide) rfl ?_
      refine g_aln dX10_best_28 rfl rfl (by decide) ?_
      refine g_getC 92 dX10_best_29 fl_X10_75 rfl (by decide) ?_
      obtain ⟨r10, e9, h⟩ := xbp_e h
      refine g_cV0v dX10_best_32 ml_X10_309 rfl (s_X4_pairs e9) (by decide) rfl ?_
      refine g_ist_4 dX10_best_35 (by decide) rfl ?_
      refine g_iln dX10_best_37 rfl rfl ?_
      refine g_ic dX10_best_38 ?_
      obtain ⟨j13, ej14, h⟩ := xjn_e h
      have hj15 : ∀ (l1_11 : Int) (l2_12 : Int), j13 l1_11 l2_12 = some q → xG 5 0 0 mX10_best 53 [vR 0, vI l1_11, vI l2_12, vI l3_3, vX] [] 155 s8 (xRv (vI q.1) q.2) := by
        intro l1_11 l2_12 h
        rw [ej14] at h
        refine g_inc_3 dX10_best_53 (by decide) rfl ?_
        refine g_goto dX10_best_56 (tgt := 6) rfl ?_
        exact ih l1_11 l2_12 (l3_3 + 1) s8 h
      clear ej14
      obtain ⟨j16, ej17, h⟩ := xjn_e h
      have hj18 : j16  = some q → xG 5 0 0 mX10_best 48 [vR 0, vX, vX, vI l3_3, vI r10] [] 155 s8 (xRv (vI q.1) q.2) := by
        intro  h
        rw [ej17] at h
        refine g_il dX10_best_48 rfl ?_
        refine g_istn_1 dX10_best_50 (by decide) rfl ?_
        refine g_iln dX10_best_51 rfl rfl ?_
        refine g_istn_2 dX10_best_52 (by decide) rfl ?_
        refine g_drop_4 ?_
        exact hj15 r10 l3_3 h
      clear ej17
      refine g_weq dX10_best_39 (tgt := 48) rfl rfl (xw_id (by decide)) (fun q19 => ?_) (fun q19 => ?_)
      · replace h := xif_f q19 h
        refine g_drop_1 ?_
        refine g_drop_2 ?_
        exact hj18  h
      · replace h := xif_t q19 h
        refine g_il dX10_best_42 rfl ?_
        refine g_iln dX10_best_44 rfl rfl ?_
        refine g_wge dX10_best_45 (tgt := 53) rfl rfl rfl (fun q20 => ?_) (fun q20 => ?_)
        · replace h := xif_f q20 h
          refine g_drop_4 ?_
          exact hj15 l1_1 l2_2 h
        · replace h := xif_t q20 h
          refine g_drop_1 ?_
          refine g_drop_2 ?_
          exact hj18  h
theorem s_X10_best {s0 : xW} {q : Int × xW} (h : F_X10_best  s0 = some q) : xC 5 0 0 mX10_best [vR 0] 155 s0 (xRv (vI q.1) q.2) := by
  refine xC.of [vR 0, vX, vX, vX, vX] (by decide +kernel) (Nat.le_of_ble_eq_true rfl) rfl ?_
  unfold F_X10_best at h
  refine g_ic dX10_best_0 ?_
  refine g_istn_1 dX10_best_1 (by decide) rfl ?_
  refine g_ic dX10_best_2 ?_
  refine g_istn_2 dX10_best_3 (by decide) rfl ?_
  refine g_ic dX10_best_4 ?_
  refine g_istn_3 dX10_best_5 (by decide) rfl ?_
  refine s_X10_best_6 (fun l1_25 l2_26 l3_27 s28 h => ?_) xN _ _ _ _ h
  refine g_aln dX10_best_59 rfl rfl (by decide) ?_
  refine g_getC 3 dX10_best_60 fl_X10_19 rfl (by decide) ?_
  refine g_iln dX10_best_63 rfl rfl ?_
  refine g_bi dX10_best_64 (by decide) ?_
  refine g_wdiv dX10_best_66 rfl (xw_id (by decide)) (by decide) ?_
  refine g_wi2l dX10_best_67 rfl ?_
  refine g_iln dX10_best_68 rfl rfl ?_
  refine g_bi dX10_best_69 (by decide) ?_
  refine g_wrem dX10_best_71 rfl (xw_id (by decide)) (by decide) ?_
  refine g_wi2l dX10_best_72 rfl ?_
  refine g_aln dX10_best_73 rfl rfl (by decide) ?_
  refine g_aln dX10_best_74 rfl rfl (by decide) ?_
  refine g_getC 17 dX10_best_75 fl_X10_46 rfl (by decide) ?_
  refine g_getI 5 dX10_best_78 fl_X10_277 rfl rfl ?_
  obtain ⟨r30, s31, e29, h⟩ := xbd_e h
  refine g_cV1v dX10_best_81 ml_X10_283 rfl (s_X10_pairsOn e29) (by decide) rfl ?_
  refine g_wi2l dX10_best_84 rfl ?_
  obtain ⟨s33, e32, h⟩ := xbp_e h
  refine g_cV30 dX10_best_85 ml_X10_274 rfl (s_X6_tell__ e32) (by decide) rfl ?_
  refine g_iln dX10_best_88 rfl rfl ?_
  exact g_rI rfl dX10_best_89 h
theorem dX10_buy_0 : decode cX10_buy 0 = .ok (.iload_n 1, 1) := by decide +kernel
theorem dX10_buy_1 : decode cX10_buy 1 = .ok (.iconst 1, 1) := by decide +kernel
theorem dX10_buy_2 : decode cX10_buy 2 = .ok (.if_icmp .lt 9, 3) := by decide +kernel
theorem dX10_buy_5 : decode cX10_buy 5 = .ok (.iload_n 1, 1) := by decide +kernel
theorem dX10_buy_6 : decode cX10_buy 6 = .ok (.bipush 99, 2) := by decide +kernel
theorem dX10_buy_8 : decode cX10_buy 8 = .ok (.if_icmp .le 5, 3) := by decide +kernel
theorem dX10_buy_11 : decode cX10_buy 11 = .ok (.iconst (-1), 1) := by decide +kernel
theorem dX10_buy_12 : decode cX10_buy 12 = .ok (.ireturn, 1) := by decide +kernel
theorem dX10_buy_13 : decode cX10_buy 13 = .ok (.aload_n 0, 1) := by decide +kernel
theorem dX10_buy_14 : decode cX10_buy 14 = .ok (.getfield 46, 3) := by decide +kernel
theorem dX10_buy_17 : decode cX10_buy 17 = .ok (.getfield 288, 3) := by decide +kernel
theorem dX10_buy_20 : decode cX10_buy 20 = .ok (.iload_n 1, 1) := by decide +kernel
theorem dX10_buy_21 : decode cX10_buy 21 = .ok (.iadd, 1) := by decide +kernel
theorem dX10_buy_22 : decode cX10_buy 22 = .ok (.bipush 99, 2) := by decide +kernel
theorem dX10_buy_24 : decode cX10_buy 24 = .ok (.if_icmp .le 6, 3) := by decide +kernel
theorem dX10_buy_27 : decode cX10_buy 27 = .ok (.bipush (-3), 2) := by decide +kernel
theorem dX10_buy_29 : decode cX10_buy 29 = .ok (.ireturn, 1) := by decide +kernel
theorem dX10_buy_30 : decode cX10_buy 30 = .ok (.aload_n 0, 1) := by decide +kernel
theorem dX10_buy_31 : decode cX10_buy 31 = .ok (.getfield 46, 3) := by decide +kernel
theorem dX10_buy_34 : decode cX10_buy 34 = .ok (.dup, 1) := by decide +kernel
theorem dX10_buy_35 : decode cX10_buy 35 = .ok (.getfield 288, 3) := by decide +kernel
theorem dX10_buy_38 : decode cX10_buy 38 = .ok (.iload_n 1, 1) := by decide +kernel
theorem dX10_buy_39 : decode cX10_buy 39 = .ok (.iadd, 1) := by decide +kernel
theorem dX10_buy_40 : decode cX10_buy 40 = .ok (.putfield 288, 3) := by decide +kernel
theorem dX10_buy_43 : decode cX10_buy 43 = .ok (.aload_n 0, 1) := by decide +kernel
theorem dX10_buy_44 : decode cX10_buy 44 = .ok (.getfield 46, 3) := by decide +kernel
theorem dX10_buy_47 : decode cX10_buy 47 = .ok (.getfield 288, 3) := by decide +kernel
theorem dX10_buy_50 : decode cX10_buy 50 = .ok (.ireturn, 1) := by decide +kernel
theorem s_X10_buy {a1 : Int} {s0 : xW} {q : Int × xW} (h : F_X10_buy a1 s0 = some q) : xC 0 0 0 mX10_buy [vR 0, vI a1] 155 s0 (xRv (vI q.1) q.2) := by
  refine xC.of [vR 0, vI a1] (by decide +kernel) (Nat.le_of_ble_eq_true rfl) rfl ?_
  unfold F_X10_buy at h
  refine g_iln dX10_buy_0 rfl rfl ?_
  refine g_ic dX10_buy_1 ?_
  obtain ⟨j1, ej2, h⟩ := xjn_e h
  have hj3 : j1  = some q → xG 0 0 0 mX10_buy 11 [vX, vX] [] 155 s0 (xRv (vI q.1) q.2) := by
    intro  h
    rw [ej2] at h
    refine g_ic dX10_buy_11 ?_
    exact g_rI rfl dX10_buy_12 h
  clear ej2
  refine g_wlt dX10_buy_2 (tgt := 11) rfl rfl (xw_id (by decide)) (fun q4 => ?_) (fun q4 => ?_)
  · replace h := xif_f q4 h
    refine g_drop_0 ?_
    refine g_drop_1 ?_
    exact hj3  h
  · replace h := xif_t q4 h
    refine g_iln dX10_buy_5 rfl rfl ?_
    refine g_bi dX10_buy_6 (by decide) ?_
    refine g_wle dX10_buy_8 (tgt := 13) rfl rfl (xw_id (by decide)) (fun q5 => ?_) (fun q5 => ?_)
    · replace h := xif_f q5 h
      refine g_aln dX10_buy_13 rfl rfl (by decide) ?_
      refine g_getC 17 dX10_buy_14 fl_X10_46 rfl (by decide) ?_
      refine g_getI 2 dX10_buy_17 fl_X10_288 rfl rfl ?_
      refine g_iln dX10_buy_20 rfl rfl ?_
      refine g_iadd dX10_buy_21 ?_
      refine g_bi dX10_buy_22 (by decide) ?_
      refine g_wle dX10_buy_24 (tgt := 30) rfl rfl (xw_id (by decide)) (fun q6 => ?_) (fun q6 => ?_)
      · replace h := xif_f q6 h
        refine g_aln dX10_buy_30 rfl rfl (by decide) ?_
        refine g_getC 17 dX10_buy_31 fl_X10_46 rfl (by decide) ?_
        refine g_dup dX10_buy_34 rfl ?_
        refine g_getI 2 dX10_buy_35 fl_X10_288 rfl rfl ?_
        refine g_iln dX10_buy_38 rfl rfl ?_
        refine g_iadd dX10_buy_39 ?_
        obtain ⟨s7, e8, h⟩ := xlt_e h
        refine h_putI 2 dX10_buy_40 fl_X10_288 rfl rfl e8 ?_
        refine g_aln dX10_buy_43 rfl rfl (by decide) ?_
        refine g_getC 17 dX10_buy_44 fl_X10_46 rfl (by decide) ?_
        refine g_getI 2 dX10_buy_47 fl_X10_288 rfl rfl ?_
        exact g_rI rfl dX10_buy_50 h
      · replace h := xif_t q6 h
        refine g_bi dX10_buy_27 (by decide) ?_
        exact g_rI rfl dX10_buy_29 h
    · replace h := xif_t q5 h
      refine g_drop_0 ?_
      refine g_drop_1 ?_
      exact hj3  h
theorem dX3_note_0 : decode cX3_note 0 = .ok (.aload_n 0, 1) := by decide +kernel
theorem dX3_note_1 : decode cX3_note 1 = .ok (.getfield 11, 3) := by decide +kernel
theorem dX3_note_4 : decode cX3_note 4 = .ok (.aload_n 0, 1) := by decide +kernel
theorem dX3_note_5 : decode cX3_note 5 = .ok (.getfield 15, 3) := by decide +kernel
theorem dX3_note_8 : decode cX3_note 8 = .ok (.aaload, 1) := by decide +kernel
theorem dX3_note_9 : decode cX3_note 9 = .ok (.aload_n 1, 1) := by decide +kernel
theorem dX3_note_10 : decode cX3_note 10 = .ok (.invokevirtual 23, 3) := by decide +kernel
theorem dX3_note_13 : decode cX3_note 13 = .ok (.return_, 1) := by decide +kernel
theorem s_X3_note {s0 : xW} {q : xW} (h : F_X3_note  s0 = some q) : xC 2 0 0 mX3_note [vR 21, vR 17] 155 s0 (xR0 q) := by
  refine xC.of [vR 21, vR 17] (by decide +kernel) (Nat.le_of_ble_eq_true rfl) rfl ?_
  unfold F_X3_note at h
  refine g_aln dX3_note_0 rfl rfl (by decide) ?_
  refine g_getC 22 dX3_note_1 fl_X3_11 rfl (by decide) ?_
  refine g_aln dX3_note_4 rfl rfl (by decide) ?_
  refine g_getI 1 dX3_note_5 fl_X3_15 rfl rfl ?_
  obtain ⟨hg1, h⟩ := xgd_e h
  obtain ⟨hg2, h⟩ := xgd_e h
  refine g_aald 16 23 dX3_note_8 rfl rfl hg1 (by decide) ?_
  refine g_aln dX3_note_9 rfl rfl (by decide) ?_
  obtain ⟨s4, e3, h⟩ := xbp_e h
  refine g_cV10 dX3_note_10 ml_X3_23 (xf_town_33 _ hg2) (s_X9_copy e3) (by decide) rfl ?_
  exact g_rV rfl dX3_note_13 h
theorem dX3_add_0 : decode cX3_add 0 = .ok (.aload_n 0, 1) := by decide +kernel
theorem dX3_add_1 : decode cX3_add 1 = .ok (.aload_n 0, 1) := by decide +kernel
theorem dX3_add_2 : decode cX3_add 2 = .ok (.getfield 15, 3) := by decide +kernel
theorem dX3_add_5 : decode cX3_add 5 = .ok (.iconst 1, 1) := by decide +kernel
theorem dX3_add_6 : decode cX3_add 6 = .ok (.iadd, 1) := by decide +kernel
theorem dX3_add_7 : decode cX3_add 7 = .ok (.bipush 16, 2) := by decide +kernel
theorem dX3_add_9 : decode cX3_add 9 = .ok (.irem, 1) := by decide +kernel
theorem dX3_add_10 : decode cX3_add 10 = .ok (.putfield 15, 3) := by decide +kernel
theorem dX3_add_13 : decode cX3_add 13 = .ok (.aload_n 0, 1) := by decide +kernel
theorem dX3_add_14 : decode cX3_add 14 = .ok (.bipush 15, 2) := by decide +kernel
theorem dX3_add_16 : decode cX3_add 16 = .ok (.aload_n 0, 1) := by decide +kernel
theorem dX3_add_17 : decode cX3_add 17 = .ok (.getfield 19, 3) := by decide +kernel
theorem dX3_add_20 : decode cX3_add 20 = .ok (.iconst 1, 1) := by decide +kernel
theorem dX3_add_21 : decode cX3_add 21 = .ok (.iadd, 1) := by decide +kernel
theorem dX3_add_22 : decode cX3_add 22 = .ok (.invokestatic 27, 3) := by decide +kernel
theorem dX3_add_25 : decode cX3_add 25 = .ok (.putfield 19, 3) := by decide +kernel
theorem dX3_add_28 : decode cX3_add 28 = .ok (.return_, 1) := by decide +kernel
theorem s_X3_add {s0 : xW} {q : xW} (h : F_X3_add  s0 = some q) : xC 1 0 0 mX3_add [vR 21] 155 s0 (xR0 q) := by
  refine xC.of [vR 21] (by decide +kernel) (Nat.le_of_ble_eq_true rfl) rfl ?_
  unfold F_X3_add at h
  refine g_aln dX3_add_0 rfl rfl (by decide) ?_
  refine g_aln dX3_add_1 rfl rfl (by decide) ?_
  refine g_getI 1 dX3_add_2 fl_X3_15 rfl rfl ?_
  refine g_ic dX3_add_5 ?_
  refine g_iadd dX3_add_6 ?_
  refine g_bi dX3_add_7 (by decide) ?_
  refine g_wrem dX3_add_9 rfl (xw_id (by decide)) (by decide) ?_
  obtain ⟨s1, e2, h⟩ := xlt_e h
  refine h_putI 1 dX3_add_10 fl_X3_15 rfl rfl e2 ?_
  refine g_aln dX3_add_13 rfl rfl (by decide) ?_
  refine g_bi dX3_add_14 (by decide) ?_
  refine g_aln dX3_add_16 rfl rfl (by decide) ?_
  refine g_getI 2 dX3_add_17 fl_X3_19 rfl rfl ?_
  refine g_ic dX3_add_20 ?_
  refine g_iadd dX3_add_21 ?_
  refine g_wmin dX3_add_22 mx_X3_27 (xw_id (by decide)) rfl (by decide) rfl ?_
  obtain ⟨s3, e4, h⟩ := xlt_e h
  refine h_putI 2 dX3_add_25 fl_X3_19 rfl rfl e4 ?_
  exact g_rV rfl dX3_add_28 h
theorem dX10_noted_0 : decode cX10_noted 0 = .ok (.iload_n 1, 1) := by decide +kernel
theorem dX10_noted_1 : decode cX10_noted 1 = .ok (.ifCond .lt 10, 3) := by decide +kernel
theorem dX10_noted_4 : decode cX10_noted 4 = .ok (.aload_n 0, 1) := by decide +kernel
theorem dX10_noted_5 : decode cX10_noted 5 = .ok (.getfield 53, 3) := by decide +kernel
theorem dX10_noted_8 : decode cX10_noted 8 = .ok (.invokevirtual 237, 3) := by decide +kernel
theorem dX10_noted_11 : decode cX10_noted 11 = .ok (.iload_n 1, 1) := by decide +kernel
theorem dX10_noted_12 : decode cX10_noted 12 = .ok (.ireturn, 1) := by decide +kernel
theorem s_X10_noted {a1 : Int} {s0 : xW} {q : Int × xW} (h : F_X10_noted a1 s0 = some q) : xC 2 0 0 mX10_noted [vR 0, vI a1] 155 s0 (xRv (vI q.1) q.2) := by
  refine xC.of [vR 0, vI a1] (by decide +kernel) (Nat.le_of_ble_eq_true rfl) rfl ?_
  unfold F_X10_noted at h
  refine g_iln dX10_noted_0 rfl rfl ?_
  obtain ⟨j2, ej3, h⟩ := xjn_e h
  have hj4 : ∀ (s1 : xW), j2 s1 = some q → xG 2 0 0 mX10_noted 11 [vX, vI a1] [] 155 s1 (xRv (vI q.1) q.2) := by
    intro s1 h
    rw [ej3] at h
    refine g_iln dX10_noted_11 rfl rfl ?_
    exact g_rI rfl dX10_noted_12 h
  clear ej3
  refine g_ylt dX10_noted_1 (tgt := 11) rfl rfl (fun q5 => ?_) (fun q5 => ?_)
  · replace h := xif_f q5 h
    refine g_drop_0 ?_
    exact hj4 s0 h
  · replace h := xif_t q5 h
    refine g_aln dX10_noted_4 rfl rfl (by decide) ?_
    refine g_getC 21 dX10_noted_5 fl_X10_53 rfl (by decide) ?_
    obtain ⟨s7, e6, h⟩ := xbp_e h
    refine g_cV00 dX10_noted_8 ml_X10_237 rfl (s_X3_add e6) (by decide) rfl ?_
    refine g_drop_0 ?_
    exact hj4 s7 h
theorem dX10_buys_0 : decode cX10_buys 0 = .ok (.aload_n 0, 1) := by decide +kernel
theorem dX10_buys_1 : decode cX10_buys 1 = .ok (.getfield 53, 3) := by decide +kernel
theorem dX10_buys_4 : decode cX10_buys 4 = .ok (.aload_n 0, 1) := by decide +kernel
theorem dX10_buys_5 : decode cX10_buys 5 = .ok (.getfield 46, 3) := by decide +kernel
theorem dX10_buys_8 : decode cX10_buys 8 = .ok (.invokevirtual 198, 3) := by decide +kernel
theorem dX10_buys_11 : decode cX10_buys 11 = .ok (.aload_n 0, 1) := by decide +kernel
theorem dX10_buys_12 : decode cX10_buys 12 = .ok (.aload_n 0, 1) := by decide +kernel
theorem dX10_buys_13 : decode cX10_buys 13 = .ok (.iload_n 1, 1) := by decide +kernel
theorem dX10_buys_14 : decode cX10_buys 14 = .ok (.invokevirtual 208, 3) := by decide +kernel
theorem dX10_buys_17 : decode cX10_buys 17 = .ok (.invokevirtual 205, 3) := by decide +kernel
theorem dX10_buys_20 : decode cX10_buys 20 = .ok (.ireturn, 1) := by decide +kernel
theorem s_X10_buys {a1 : Int} {s0 : xW} {q : Int × xW} (h : F_X10_buys a1 s0 = some q) : xC 3 0 0 mX10_buys [vR 0, vI a1] 155 s0 (xRv (vI q.1) q.2) := by
  refine xC.of [vR 0, vI a1] (by decide +kernel) (Nat.le_of_ble_eq_true rfl) rfl ?_
  unfold F_X10_buys at h
  refine g_aln dX10_buys_0 rfl rfl (by decide) ?_
  refine g_getC 21 dX10_buys_1 fl_X10_53 rfl (by decide) ?_
  refine g_aln dX10_buys_4 rfl rfl (by decide) ?_
  refine g_getC 17 dX10_buys_5 fl_X10_46 rfl (by decide) ?_
  obtain ⟨s2, e1, h⟩ := xbp_e h
  refine g_cV10 dX10_buys_8 ml_X10_198 rfl (s_X3_note e1) (by decide) rfl ?_
  refine g_aln dX10_buys_11 rfl rfl (by decide) ?_
  refine g_aln dX10_buys_12 rfl rfl (by decide) ?_
  refine g_iln dX10_buys_13 rfl rfl ?_
  obtain ⟨r4, s5, e3, h⟩ := xbd_e h
  refine g_cV1v dX10_buys_14 ml_X10_208 rfl (s_X10_buy e3) (by decide) rfl ?_
  obtain ⟨r7, s8, e6, h⟩ := xbd_e h
  refine g_cV1v dX10_buys_17 ml_X10_205 rfl (s_X10_noted e6) (by decide) rfl ?_
  exact g_rI rfl dX10_buys_20 h
theorem dX10_planToday_0 : decode cX10_planToday 0 = .ok (.aload_n 0, 1) := by decide +kernel
theorem dX10_planToday_1 : decode cX10_planToday 1 = .ok (.aload_n 0, 1) := by decide +kernel
theorem dX10_planToday_2 : decode cX10_planToday 2 = .ok (.getfield 36, 3) := by decide +kernel
theorem dX10_planToday_5 : decode cX10_planToday 5 = .ok (.aload_n 0, 1) := by decide +kernel
theorem dX10_planToday_6 : decode cX10_planToday 6 = .ok (.getfield 46, 3) := by decide +kernel
theorem dX10_planToday_9 : decode cX10_planToday 9 = .ok (.getfield 379, 3) := by decide +kernel
theorem dX10_planToday_12 : decode cX10_planToday 12 = .ok (.aload_n 0, 1) := by decide +kernel
theorem dX10_planToday_13 : decode cX10_planToday 13 = .ok (.getfield 46, 3) := by decide +kernel
theorem dX10_planToday_16 : decode cX10_planToday 16 = .ok (.getfield 277, 3) := by decide +kernel
theorem dX10_planToday_19 : decode cX10_planToday 19 = .ok (.invokevirtual 305, 3) := by decide +kernel
theorem dX10_planToday_22 : decode cX10_planToday 22 = .ok (.return_, 1) := by decide +kernel
theorem s_X10_planToday {s0 : xW} {q : xW} (h : F_X10_planToday  s0 = some q) : xC 4 0 0 mX10_planToday [vR 0] 155 s0 (xR0 q) := by
  refine xC.of [vR 0] (by decide +kernel) (Nat.le_of_ble_eq_true rfl) rfl ?_
  unfold F_X10_planToday at h
  refine g_aln dX10_planToday_0 rfl rfl (by decide) ?_
  refine g_aln dX10_planToday_1 rfl rfl (by decide) ?_
  obtain ⟨hg1, h⟩ := xgd_e h
  refine g_getR 4 dX10_planToday_2 fl_X10_36 rfl rfl ?_
  refine g_aln dX10_planToday_5 rfl rfl (by decide) ?_
  refine g_getC 17 dX10_planToday_6 fl_X10_46 rfl (by decide) ?_
  refine g_getI 0 dX10_planToday_9 fl_X10_379 rfl rfl ?_
  refine g_aln dX10_planToday_12 rfl rfl (by decide) ?_
  refine g_getC 17 dX10_planToday_13 fl_X10_46 rfl (by decide) ?_
  refine g_getI 5 dX10_planToday_16 fl_X10_277 rfl rfl ?_
  obtain ⟨s3, e2, h⟩ := xbp_e h
  refine g_cV30 dX10_planToday_19 ml_X10_305 rfl (s_X10_planFor e2) (by decide) rfl ?_
  exact g_rV rfl dX10_planToday_22 h
theorem dX10_clashes_0 : decode cX10_clashes 0 = .ok (.aload_n 0, 1) := by decide +kernel
theorem dX10_clashes_1 : decode cX10_clashes 1 = .ok (.invokevirtual 173, 3) := by decide +kernel
theorem dX10_clashes_4 : decode cX10_clashes 4 = .ok (.aload_n 0, 1) := by decide +kernel
theorem dX10_clashes_5 : decode cX10_clashes 5 = .ok (.getfield 19, 3) := by decide +kernel
theorem dX10_clashes_8 : decode cX10_clashes 8 = .ok (.invokevirtual 254, 3) := by decide +kernel
theorem dX10_clashes_11 : decode cX10_clashes 11 = .ok (.iconst 0, 1) := by decide +kernel
theorem dX10_clashes_12 : decode cX10_clashes 12 = .ok (.istore_n 1, 1) := by decide +kernel
theorem dX10_clashes_13 : decode cX10_clashes 13 = .ok (.iconst 0, 1) := by decide +kernel
theorem dX10_clashes_14 : decode cX10_clashes 14 = .ok (.istore_n 2, 1) := by decide +kernel
theorem dX10_clashes_15 : decode cX10_clashes 15 = .ok (.iload_n 2, 1) := by decide +kernel
theorem dX10_clashes_16 : decode cX10_clashes 16 = .ok (.aload_n 0, 1) := by decide +kernel
theorem dX10_clashes_17 : decode cX10_clashes 17 = .ok (.getfield 75, 3) := by decide +kernel
theorem dX10_clashes_20 : decode cX10_clashes 20 = .ok (.getfield 131, 3) := by decide +kernel
theorem dX10_clashes_23 : decode cX10_clashes 23 = .ok (.if_icmp .ge 61, 3) := by decide +kernel
theorem dX10_clashes_26 : decode cX10_clashes 26 = .ok (.iload_n 2, 1) := by decide +kernel
theorem dX10_clashes_27 : decode cX10_clashes 27 = .ok (.iconst 1, 1) := by decide +kernel
theorem dX10_clashes_28 : decode cX10_clashes 28 = .ok (.iadd, 1) := by decide +kernel
theorem dX10_clashes_29 : decode cX10_clashes 29 = .ok (.istore_n 3, 1) := by decide +kernel
theorem dX10_clashes_30 : decode cX10_clashes 30 = .ok (.iload_n 3, 1) := by decide +kernel
theorem dX10_clashes_31 : decode cX10_clashes 31 = .ok (.aload_n 0, 1) := by decide +kernel
theorem dX10_clashes_32 : decode cX10_clashes 32 = .ok (.getfield 75, 3) := by decide +kernel
theorem dX10_clashes_35 : decode cX10_clashes 35 = .ok (.getfield 131, 3) := by decide +kernel
theorem dX10_clashes_38 : decode cX10_clashes 38 = .ok (.if_icmp .ge 40, 3) := by decide +kernel
theorem dX10_clashes_41 : decode cX10_clashes 41 = .ok (.aload_n 0, 1) := by decide +kernel
theorem dX10_clashes_42 : decode cX10_clashes 42 = .ok (.getfield 75, 3) := by decide +kernel
theorem dX10_clashes_45 : decode cX10_clashes 45 = .ok (.iload_n 2, 1) := by decide +kernel
theorem dX10_clashes_46 : decode cX10_clashes 46 = .ok (.iload_n 3, 1) := by decide +kernel
theorem dX10_clashes_47 : decode cX10_clashes 47 = .ok (.invokevirtual 261, 3) := by decide +kernel
theorem dX10_clashes_50 : decode cX10_clashes 50 = .ok (.ifCond .eq 22, 3) := by decide +kernel
theorem dX10_clashes_53 : decode cX10_clashes 53 = .ok (.iinc 1 1, 3) := by decide +kernel
theorem dX10_clashes_56 : decode cX10_clashes 56 = .ok (.iload_n 1, 1) := by decide +kernel
theorem dX10_clashes_57 : decode cX10_clashes 57 = .ok (.iconst 1, 1) := by decide +kernel
theorem dX10_clashes_58 : decode cX10_clashes 58 = .ok (.if_icmp .ne 14, 3) := by decide +kernel
theorem dX10_clashes_61 : decode cX10_clashes 61 = .ok (.aload_n 0, 1) := by decide +kernel
theorem dX10_clashes_62 : decode cX10_clashes 62 = .ok (.getfield 19, 3) := by decide +kernel
theorem dX10_clashes_65 : decode cX10_clashes 65 = .ok (.iload_n 2, 1) := by decide +kernel
theorem dX10_clashes_66 : decode cX10_clashes 66 = .ok (.i2l, 1) := by decide +kernel
theorem dX10_clashes_67 : decode cX10_clashes 67 = .ok (.iload_n 3, 1) := by decide +kernel
theorem dX10_clashes_68 : decode cX10_clashes 68 = .ok (.i2l, 1) := by decide +kernel
theorem dX10_clashes_69 : decode cX10_clashes 69 = .ok (.invokevirtual 242, 3) := by decide +kernel
theorem dX10_clashes_72 : decode cX10_clashes 72 = .ok (.iinc 3 1, 3) := by decide +kernel
theorem dX10_clashes_75 : decode cX10_clashes 75 = .ok (.goto (-45), 3) := by decide +kernel
theorem dX10_clashes_78 : decode cX10_clashes 78 = .ok (.iinc 2 1, 3) := by decide +kernel
theorem dX10_clashes_81 : decode cX10_clashes 81 = .ok (.goto (-66), 3) := by decide +kernel
theorem dX10_clashes_84 : decode cX10_clashes 84 = .ok (.iload_n 1, 1) := by decide +kernel
theorem dX10_clashes_85 : decode cX10_clashes 85 = .ok (.ireturn, 1) := by decide +kernel
theorem s_X10_clashes_30 {l2_10 : Int} {q : Int × xW} {k : Int → Int → xW → Option (Int × xW)} (hk : ∀ (l1_25 : Int) (l3_26 : Int) (s27 : xW), k l1_25 l3_26 s27 = some q → xG 5 0 0 mX10_clashes 78 [vR 0, vI l1_25, vI l2_10, vI l3_26] [] 155 s27 (xRv (vI q.1) q.2)) : ∀ (f : Nat) (l1_9 : Int) (l3_11 : Int) (s12 : xW), F_X10_clashes_30 l2_10 f l1_9 l3_11 s12 k = some q → xG 5 0 0 mX10_clashes 30 [vR 0, vI l1_9, vI l2_10, vI l3_11] [] 155 s12 (xRv (vI q.1) q.2) := by
  intro f
  induction f with
  | zero => intro l1_9 l3_11 s12 h; cases h
  | succ f ih =>
    intro l1_9 l3_11 s12 h
    unfold F_X10_clashes_30 at h
    refine g_iln dX10_clashes_30 rfl rfl ?_
    refine g_aln dX10_clashes_31 rfl rfl (by decide) ?_
    refine g_getC 92 dX10_clashes_32 fl_X10_75 rfl (by decide) ?_
    refine g_getI 0 dX10_clashes_35 fl_X10_131 rfl rfl ?_
    refine g_wge dX10_clashes_38 (tgt := 78) rfl rfl rfl (fun q13 => ?_) (fun q13 => ?_)
    · replace h := xif_f q13 h
      exact hk l1_9 l3_11 s12 h
    · replace h := xif_t q13 h
      refine g_aln dX10_clashes_41 rfl rfl (by decide) ?_
      refine g_getC 92 dX10_clashes_42 fl_X10_75 rfl (by decide) ?_
      refine g_iln dX10_clashes_45 rfl rfl ?_
      refine g_iln dX10_clashes_46 rfl rfl ?_
      obtain ⟨r15, e14, h⟩ := xbp_e h
      refine g_cV2v dX10_clashes_47 ml_X10_261 rfl (s_X4_collide e14) (by decide) rfl ?_
      obtain ⟨j18, ej19, h⟩ := xjn_e h
      have hj20 : ∀ (l1_16 : Int) (s17 : xW), j18 l1_16 s17 = some q → xG 5 0 0 mX10_clashes 72 [vR 0, vI l1_16, vI l2_10, vI l3_11] [] 155 s17 (xRv (vI q.1) q.2) := by
        intro l1_16 s17 h
        rw [ej19] at h
        refine g_inc_3 dX10_clashes_72 (by decide) rfl ?_
        refine g_goto dX10_clashes_75 (tgt := 30) rfl ?_
        exact ih l1_16 (l3_11 + 1) s17 h
      clear ej19
      refine g_yeq dX10_clashes_50 (tgt := 72) rfl rfl (fun q21 => ?_) (fun q21 => ?_)
      · replace h := xif_f q21 h
        exact hj20 l1_9 s12 h
      · replace h := xif_t q21 h
        refine g_inc_1 dX10_clashes_53 (by decide) rfl ?_
        refine g_iln dX10_clashes_56 rfl rfl ?_
        refine g_ic dX10_clashes_57 ?_
        refine g_wne dX10_clashes_58 (tgt := 72) rfl rfl (xw_id (by decide)) (fun q22 => ?_) (fun q22 => ?_)
        · replace h := xif_f q22 h
          exact hj20 (l1_9 + 1) s12 h
        · replace h := xif_t q22 h
          refine g_aln dX10_clashes_61 rfl rfl (by decide) ?_
          refine g_getC 3 dX10_clashes_62 fl_X10_19 rfl (by decide) ?_
          refine g_iln dX10_clashes_65 rfl rfl ?_
          refine g_wi2l dX10_clashes_66 rfl ?_
          refine g_iln dX10_clashes_67 rfl rfl ?_
          refine g_wi2l dX10_clashes_68 rfl ?_
          obtain ⟨s24, e23, h⟩ := xbp_e h
          refine g_cV20 dX10_clashes_69 ml_X10_242 rfl (s_X6_tell_ e23) (by decide) rfl ?_
          exact hj20 (l1_9 + 1) s24 h
theorem s_X10_clashes_15 {q : Int × xW} {k : Int → Int → xW → Option (Int × xW)} (hk : ∀ (l1_31 : Int) (l2_32 : Int) (s33 : xW), k l1_31 l2_32 s33 = some q → xG 5 0 0 mX10_clashes 84 [vR 0, vI l1_31, vI l2_32, vX] [] 155 s33 (xRv (vI q.1) q.2)) : ∀ (f : Nat) (l1_5 : Int) (l2_6 : Int) (s7 : xW), F_X10_clashes_15  f l1_5 l2_6 s7 k = some q → xG 5 0 0 mX10_clashes 15 [vR 0, vI l1_5, vI l2_6, vX] [] 155 s7 (xRv (vI q.1) q.2) := by
  intro f
  induction f with
  | zero => intro l1_5 l2_6 s7 h; cases h
  | succ f ih =>
    intro l1_5 l2_6 s7 h
    unfold F_X10_clashes_15 at h
    refine g_iln dX10_clashes_15 rfl rfl ?_
    refine g_aln dX10_clashes_16 rfl rfl (by decide) ?_
    refine g_getC 92 dX10_clashes_17 fl_X10_75 rfl (by decide) ?_
    refine g_getI 0 dX10_clashes_20 fl_X10_131 rfl rfl ?_
    refine g_wge dX10_clashes_23 (tgt := 84) rfl rfl rfl (fun q8 => ?_) (fun q8 => ?_)
    · replace h := xif_f q8 h
      exact hk l1_5 l2_6 s7 h
    · replace h := xif_t q8 h
      refine g_iln dX10_clashes_26 rfl rfl ?_
      refine g_ic dX10_clashes_27 ?_
      refine g_iadd dX10_clashes_28 ?_
      refine g_istn_3 dX10_clashes_29 (by decide) rfl ?_
      refine s_X10_clashes_30 (fun l1_28 l3_29 s30 h => ?_) xN _ _ _ h
      refine g_inc_2 dX10_clashes_78 (by decide) rfl ?_
      refine g_goto dX10_clashes_81 (tgt := 15) rfl ?_
      refine g_drop_3 ?_
      exact ih l1_28 (l2_6 + 1) s30 h
theorem s_X10_clashes {s0 : xW} {q : Int × xW} (h : F_X10_clashes  s0 = some q) : xC 5 0 0 mX10_clashes [vR 0] 155 s0 (xRv (vI q.1) q.2) := by
  refine xC.of [vR 0, vX, vX, vX] (by decide +kernel) (Nat.le_of_ble_eq_true rfl) rfl ?_
  unfold F_X10_clashes at h
  refine g_aln dX10_clashes_0 rfl rfl (by decide) ?_
  obtain ⟨s2, e1, h⟩ := xbp_e h
  refine g_cV00 dX10_clashes_1 ml_X10_173 rfl (s_X10_planToday e1) (by decide) rfl ?_
  refine g_aln dX10_clashes_4 rfl rfl (by decide) ?_
  refine g_getC 3 dX10_clashes_5 fl_X10_19 rfl (by decide) ?_
  obtain ⟨s4, e3, h⟩ := xbp_e h
  refine g_cV00 dX10_clashes_8 ml_X10_254 rfl (s_X6_clear e3) (by decide) rfl ?_
  refine g_ic dX10_clashes_11 ?_
  refine g_istn_1 dX10_clashes_12 (by decide) rfl ?_
  refine g_ic dX10_clashes_13 ?_
  refine g_istn_2 dX10_clashes_14 (by decide) rfl ?_
  refine s_X10_clashes_15 (fun l1_34 l2_35 s36 h => ?_) xN _ _ _ h
  refine g_iln dX10_clashes_84 rfl rfl ?_
  exact g_rI rfl dX10_clashes_85 h
theorem dX10_count_0 : decode cX10_count 0 = .ok (.iload_n 1, 1) := by decide +kernel
theorem dX10_count_1 : decode cX10_count 1 = .ok (.tableswitch 200 0 13 #[71, 76, 84, 92, 100, 108, 116, 127, 138, 153, 168, 176, 184, 192], 71) := by decide +kernel
theorem dX10_count_72 : decode cX10_count 72 = .ok (.aload_n 0, 1) := by decide +kernel
theorem dX10_count_73 : decode cX10_count 73 = .ok (.getfield 93, 3) := by decide +kernel
theorem dX10_count_76 : decode cX10_count 76 = .ok (.ireturn, 1) := by decide +kernel
theorem dX10_count_77 : decode cX10_count 77 = .ok (.aload_n 0, 1) := by decide +kernel
theorem dX10_count_78 : decode cX10_count 78 = .ok (.getfield 75, 3) := by decide +kernel
theorem dX10_count_81 : decode cX10_count 81 = .ok (.getfield 131, 3) := by decide +kernel
theorem dX10_count_84 : decode cX10_count 84 = .ok (.ireturn, 1) := by decide +kernel
theorem dX10_count_85 : decode cX10_count 85 = .ok (.aload_n 0, 1) := by decide +kernel
theorem dX10_count_86 : decode cX10_count 86 = .ok (.getfield 46, 3) := by decide +kernel
theorem dX10_count_89 : decode cX10_count 89 = .ok (.getfield 277, 3) := by decide +kernel
theorem dX10_count_92 : decode cX10_count 92 = .ok (.ireturn, 1) := by decide +kernel
theorem dX10_count_93 : decode cX10_count 93 = .ok (.aload_n 0, 1) := by decide +kernel
theorem dX10_count_94 : decode cX10_count 94 = .ok (.getfield 46, 3) := by decide +kernel
theorem dX10_count_97 : decode cX10_count 97 = .ok (.getfield 288, 3) := by decide +kernel
theorem dX10_count_100 : decode cX10_count 100 = .ok (.ireturn, 1) := by decide +kernel
theorem dX10_count_101 : decode cX10_count 101 = .ok (.aload_n 0, 1) := by decide +kernel
theorem dX10_count_102 : decode cX10_count 102 = .ok (.getfield 46, 3) := by decide +kernel
theorem dX10_count_105 : decode cX10_count 105 = .ok (.getfield 239, 3) := by decide +kernel
theorem dX10_count_108 : decode cX10_count 108 = .ok (.ireturn, 1) := by decide +kernel
theorem dX10_count_109 : decode cX10_count 109 = .ok (.aload_n 0, 1) := by decide +kernel
theorem dX10_count_110 : decode cX10_count 110 = .ok (.getfield 46, 3) := by decide +kernel
theorem dX10_count_113 : decode cX10_count 113 = .ok (.getfield 404, 3) := by decide +kernel
theorem dX10_count_116 : decode cX10_count 116 = .ok (.ireturn, 1) := by decide +kernel
theorem dX10_count_117 : decode cX10_count 117 = .ok (.aload_n 0, 1) := by decide +kernel
theorem dX10_count_118 : decode cX10_count 118 = .ok (.getfield 46, 3) := by decide +kernel
theorem dX10_count_121 : decode cX10_count 121 = .ok (.getfield 379, 3) := by decide +kernel
theorem dX10_count_124 : decode cX10_count 124 = .ok (.bipush 10, 2) := by decide +kernel
theorem dX10_count_126 : decode cX10_count 126 = .ok (.idiv, 1) := by decide +kernel
theorem dX10_count_127 : decode cX10_count 127 = .ok (.ireturn, 1) := by decide +kernel
theorem dX10_count_128 : decode cX10_count 128 = .ok (.aload_n 0, 1) := by decide +kernel
theorem dX10_count_129 : decode cX10_count 129 = .ok (.getfield 46, 3) := by decide +kernel
theorem dX10_count_132 : decode cX10_count 132 = .ok (.getfield 379, 3) := by decide +kernel
theorem dX10_count_135 : decode cX10_count 135 = .ok (.bipush 10, 2) := by decide +kernel
theorem dX10_count_137 : decode cX10_count 137 = .ok (.irem, 1) := by decide +kernel
theorem dX10_count_138 : decode cX10_count 138 = .ok (.ireturn, 1) := by decide +kernel
theorem dX10_count_139 : decode cX10_count 139 = .ok (.aload_n 0, 1) := by decide +kernel
theorem dX10_count_140 : decode cX10_count 140 = .ok (.getfield 26, 3) := by decide +kernel
theorem dX10_count_143 : decode cX10_count 143 = .ok (.aload_n 0, 1) := by decide +kernel
theorem dX10_count_144 : decode cX10_count 144 = .ok (.getfield 46, 3) := by decide +kernel
theorem dX10_count_147 : decode cX10_count 147 = .ok (.getfield 277, 3) := by decide +kernel
theorem dX10_count_150 : decode cX10_count 150 = .ok (.invokevirtual 280, 3) := by decide +kernel
theorem dX10_count_153 : decode cX10_count 153 = .ok (.ireturn, 1) := by decide +kernel
theorem dX10_count_154 : decode cX10_count 154 = .ok (.aload_n 0, 1) := by decide +kernel
theorem dX10_count_155 : decode cX10_count 155 = .ok (.getfield 30, 3) := by decide +kernel
theorem dX10_count_158 : decode cX10_count 158 = .ok (.aload_n 0, 1) := by decide +kernel
theorem dX10_count_159 : decode cX10_count 159 = .ok (.getfield 46, 3) := by decide +kernel
theorem dX10_count_162 : decode cX10_count 162 = .ok (.getfield 277, 3) := by decide +kernel
theorem dX10_count_165 : decode cX10_count 165 = .ok (.invokevirtual 280, 3) := by decide +kernel
theorem dX10_count_168 : decode cX10_count 168 = .ok (.ireturn, 1) := by decide +kernel
theorem dX10_count_169 : decode cX10_count 169 = .ok (.aload_n 0, 1) := by decide +kernel
theorem dX10_count_170 : decode cX10_count 170 = .ok (.getfield 82, 3) := by decide +kernel
theorem dX10_count_173 : decode cX10_count 173 = .ok (.getfield 333, 3) := by decide +kernel
theorem dX10_count_176 : decode cX10_count 176 = .ok (.ireturn, 1) := by decide +kernel
theorem dX10_count_177 : decode cX10_count 177 = .ok (.aload_n 0, 1) := by decide +kernel
theorem dX10_count_178 : decode cX10_count 178 = .ok (.getfield 53, 3) := by decide +kernel
theorem dX10_count_181 : decode cX10_count 181 = .ok (.getfield 250, 3) := by decide +kernel
theorem dX10_count_184 : decode cX10_count 184 = .ok (.ireturn, 1) := by decide +kernel
theorem dX10_count_185 : decode cX10_count 185 = .ok (.aload_n 0, 1) := by decide +kernel
theorem dX10_count_186 : decode cX10_count 186 = .ok (.getfield 19, 3) := by decide +kernel
theorem dX10_count_189 : decode cX10_count 189 = .ok (.getfield 407, 3) := by decide +kernel
theorem dX10_count_192 : decode cX10_count 192 = .ok (.ireturn, 1) := by decide +kernel
theorem dX10_count_193 : decode cX10_count 193 = .ok (.aload_n 0, 1) := by decide +kernel
theorem dX10_count_194 : decode cX10_count 194 = .ok (.getfield 12, 3) := by decide +kernel
theorem dX10_count_197 : decode cX10_count 197 = .ok (.getfield 112, 3) := by decide +kernel
theorem dX10_count_200 : decode cX10_count 200 = .ok (.ireturn, 1) := by decide +kernel
theorem dX10_count_201 : decode cX10_count 201 = .ok (.bipush (-100), 2) := by decide +kernel
theorem dX10_count_203 : decode cX10_count 203 = .ok (.ireturn, 1) := by decide +kernel
theorem s_X10_count {a1 : Int} {s0 : xW} {q : Int} (h : F_X10_count a1 s0 = some q) : xC 1 0 0 mX10_count [vR 0, vI a1] 155 s0 (xRv (vI q) s0) := by
  refine xC.of [vR 0, vI a1] (by decide +kernel) (Nat.le_of_ble_eq_true rfl) rfl ?_
  unfold F_X10_count at h
  refine g_iln dX10_count_0 rfl rfl ?_
  by_cases q1 : (xw a1) = 0
  · replace h := xif_t q1 h
    refine g_wtK dX10_count_1 q1 (by decide) (off := 71) rfl (tgt := 72) rfl ?_
    refine g_aln dX10_count_72 rfl rfl (by decide) ?_
    refine g_getI 14 dX10_count_73 fl_X10_93 rfl rfl ?_
    exact g_pI rfl dX10_count_76 h
  replace h := xif_f q1 h
  by_cases q2 : (xw a1) = 1
  · replace h := xif_t q2 h
    refine g_wtK dX10_count_1 q2 (by decide) (off := 76) rfl (tgt := 77) rfl ?_
    refine g_aln dX10_count_77 rfl rfl (by decide) ?_
    refine g_getC 92 dX10_count_78 fl_X10_75 rfl (by decide) ?_
    refine g_getI 0 dX10_count_81 fl_X10_131 rfl rfl ?_
    exact g_pI rfl dX10_count_84 h
  replace h := xif_f q2 h
  by_cases q3 : (xw a1) = 2
  · replace h := xif_t q3 h
    refine g_wtK dX10_count_1 q3 (by decide) (off := 84) rfl (tgt := 85) rfl ?_
    refine g_aln dX10_count_85 rfl rfl (by decide) ?_
    refine g_getC 17 dX10_count_86 fl_X10_46 rfl (by decide) ?_
    refine g_getI 5 dX10_count_89 fl_X10_277 rfl rfl ?_
    exact g_pI rfl dX10_count_92 h
  replace h := xif_f q3 h
  by_cases q4 : (xw a1) = 3
  · replace h := xif_t q4 h
    refine g_wtK dX10_count_1 q4 (by decide) (off := 92) rfl (tgt := 93) rfl ?_
    refine g_aln dX10_count_93 rfl rfl (by decide) ?_
    refine g_getC 17 dX10_count_94 fl_X10_46 rfl (by decide) ?_
    refine g_getI 2 dX10_count_97 fl_X10_288 rfl rfl ?_
    exact g_pI rfl dX10_count_100 h
  replace h := xif_f q4 h
  by_cases q5 : (xw a1) = 4
  · replace h := xif_t q5 h
    refine g_wtK dX10_count_1 q5 (by decide) (off := 100) rfl (tgt := 101) rfl ?_
    refine g_aln dX10_count_101 rfl rfl (by decide) ?_
    refine g_getC 17 dX10_count_102 fl_X10_46 rfl (by decide) ?_
    refine g_getI 3 dX10_count_105 fl_X10_239 rfl rfl ?_
    exact g_pI rfl dX10_count_108 h
  replace h := xif_f q5 h
  by_cases q6 : (xw a1) = 5
  · replace h := xif_t q6 h
    refine g_wtK dX10_count_1 q6 (by decide) (off := 108) rfl (tgt := 109) rfl ?_
    refine g_aln dX10_count_109 rfl rfl (by decide) ?_
    refine g_getC 17 dX10_count_110 fl_X10_46 rfl (by decide) ?_
    refine g_getI 4 dX10_count_113 fl_X10_404 rfl rfl ?_
    exact g_pI rfl dX10_count_116 h
  replace h := xif_f q6 h
  by_cases q7 : (xw a1) = 6
  · replace h := xif_t q7 h
    refine g_wtK dX10_count_1 q7 (by decide) (off := 116) rfl (tgt := 117) rfl ?_
    refine g_aln dX10_count_117 rfl rfl (by decide) ?_
    refine g_getC 17 dX10_count_118 fl_X10_46 rfl (by decide) ?_
    refine g_getI 0 dX10_count_121 fl_X10_379 rfl rfl ?_
    refine g_bi dX10_count_124 (by decide) ?_
    refine g_wdiv dX10_count_126 rfl (xw_id (by decide)) (by decide) ?_
    exact g_pI rfl dX10_count_127 h
  replace h := xif_f q7 h
  by_cases q8 : (xw a1) = 7
  · replace h := xif_t q8 h
    refine g_wtK dX10_count_1 q8 (by decide) (off := 127) rfl (tgt := 128) rfl ?_
    refine g_aln dX10_count_128 rfl rfl (by decide) ?_
    refine g_getC 17 dX10_count_129 fl_X10_46 rfl (by decide) ?_
    refine g_getI 0 dX10_count_132 fl_X10_379 rfl rfl ?_
    refine g_bi dX10_count_135 (by decide) ?_
    refine g_wrem dX10_count_137 rfl (xw_id (by decide)) (by decide) ?_
    exact g_pI rfl dX10_count_138 h
  replace h := xif_f q8 h
  by_cases q9 : (xw a1) = 8
  · replace h := xif_t q9 h
    refine g_wtK dX10_count_1 q9 (by decide) (off := 138) rfl (tgt := 139) rfl ?_
    refine g_aln dX10_count_139 rfl rfl (by decide) ?_
    refine g_getC 5 dX10_count_140 fl_X10_26 rfl (by decide) ?_
    refine g_aln dX10_count_143 rfl rfl (by decide) ?_
    refine g_getC 17 dX10_count_144 fl_X10_46 rfl (by decide) ?_
    refine g_getI 5 dX10_count_147 fl_X10_277 rfl rfl ?_
    obtain ⟨r11, e10, h⟩ := xbp_e h
    refine g_cV1v dX10_count_150 ml_X10_280 rfl (s_X1_of e10) (by decide) rfl ?_
    exact g_pI rfl dX10_count_153 h
  replace h := xif_f q9 h
  by_cases q12 : (xw a1) = 9
  · replace h := xif_t q12 h
    refine g_wtK dX10_count_1 q12 (by decide) (off := 153) rfl (tgt := 154) rfl ?_
    refine g_aln dX10_count_154 rfl rfl (by decide) ?_
    refine g_getC 7 dX10_count_155 fl_X10_30 rfl (by decide) ?_
    refine g_aln dX10_count_158 rfl rfl (by decide) ?_
    refine g_getC 17 dX10_count_159 fl_X10_46 rfl (by decide) ?_
    refine g_getI 5 dX10_count_162 fl_X10_277 rfl rfl ?_
    obtain ⟨r14, e13, h⟩ := xbp_e h
    refine g_cV1v dX10_count_165 ml_X10_280 rfl (s_X1_of e13) (by decide) rfl ?_
    exact g_pI rfl dX10_count_168 h
  replace h := xif_f q12 h
  by_cases q15 : (xw a1) = 10
  · replace h := xif_t q15 h
    refine g_wtK dX10_count_1 q15 (by decide) (off := 168) rfl (tgt := 169) rfl ?_
    refine g_aln dX10_count_169 rfl rfl (by decide) ?_
    refine g_getC 100 dX10_count_170 fl_X10_82 rfl (by decide) ?_
    refine g_getI 2 dX10_count_173 fl_X10_333 rfl rfl ?_
    exact g_pI rfl dX10_count_176 h
  replace h := xif_f q15 h
  by_cases q16 : (xw a1) = 11
  · replace h := xif_t q16 h
    refine g_wtK dX10_count_1 q16 (by decide) (off := 176) rfl (tgt := 177) rfl ?_
    refine g_aln dX10_count_177 rfl rfl (by decide) ?_
    refine g_getC 21 dX10_count_178 fl_X10_53 rfl (by decide) ?_
    refine g_getI 2 dX10_count_181 fl_X10_250 rfl rfl ?_
    exact g_pI rfl dX10_count_184 h
  replace h := xif_f q16 h
  by_cases q17 : (xw a1) = 12
  · replace h := xif_t q17 h
    refine g_wtK dX10_count_1 q17 (by decide) (off := 184) rfl (tgt := 185) rfl ?_
    refine g_aln dX10_count_185 rfl rfl (by decide) ?_
    refine g_getC 3 dX10_count_186 fl_X10_19 rfl (by decide) ?_
    refine g_getI 1 dX10_count_189 fl_X10_407 rfl rfl ?_
    exact g_pI rfl dX10_count_192 h
  replace h := xif_f q17 h
  by_cases q18 : (xw a1) = 13
  · replace h := xif_t q18 h
    refine g_wtK dX10_count_1 q18 (by decide) (off := 192) rfl (tgt := 193) rfl ?_
    refine g_aln dX10_count_193 rfl rfl (by decide) ?_
    refine g_getC 1 dX10_count_194 fl_X10_12 rfl (by decide) ?_
    refine g_getI 1 dX10_count_197 fl_X10_112 rfl rfl ?_
    exact g_pI rfl dX10_count_200 h
  replace h := xif_f q18 h
  refine g_wtO dX10_count_1 rfl (by omega) (tgt := 201) rfl ?_
  refine g_bi dX10_count_201 (by decide) ?_
  exact g_pI rfl dX10_count_203 h
theorem dX8_at_0 : decode cX8_at 0 = .ok (.iload_n 1, 1) := by decide +kernel
theorem dX8_at_1 : decode cX8_at 1 = .ok (.ifCond .lt 20, 3) := by decide +kernel
theorem dX8_at_4 : decode cX8_at 4 = .ok (.iload_n 1, 1) := by decide +kernel
theorem dX8_at_5 : decode cX8_at 5 = .ok (.aload_n 0, 1) := by decide +kernel
theorem dX8_at_6 : decode cX8_at 6 = .ok (.getfield 15, 3) := by decide +kernel
theorem dX8_at_9 : decode cX8_at 9 = .ok (.if_icmp .ge 12, 3) := by decide +kernel
theorem dX8_at_12 : decode cX8_at 12 = .ok (.aload_n 0, 1) := by decide +kernel
theorem dX8_at_13 : decode cX8_at 13 = .ok (.getfield 11, 3) := by decide +kernel
theorem dX8_at_16 : decode cX8_at 16 = .ok (.iload_n 1, 1) := by decide +kernel
theorem dX8_at_17 : decode cX8_at 17 = .ok (.caload, 1) := by decide +kernel
theorem dX8_at_18 : decode cX8_at 18 = .ok (.goto 4, 3) := by decide +kernel
theorem dX8_at_21 : decode cX8_at 21 = .ok (.iconst 0, 1) := by decide +kernel
theorem dX8_at_22 : decode cX8_at 22 = .ok (.ireturn, 1) := by decide +kernel
theorem s_X8_at {a1 : Int} {s0 : xW} {q : Int} (h : F_X8_at a1 s0 = some q) : xC 0 0 0 mX8_at [vR 1, vI a1] 155 s0 (xRv (vI q) s0) := by
  refine xC.of [vR 1, vI a1] (by decide +kernel) (Nat.le_of_ble_eq_true rfl) rfl ?_
  unfold F_X8_at at h
  refine g_iln dX8_at_0 rfl rfl ?_
  obtain ⟨j2, ej3, h⟩ := xjn_e h
  have hj4 : ∀ (t1 : Int), j2 t1 = some q → xG 0 0 0 mX8_at 22 [vX, vX] [vI t1] 155 s0 (xRv (vI q) s0) := by
    intro t1 h
    rw [ej3] at h
    obtain ⟨hg5, h⟩ := xgd_e h
    exact g_pC rfl dX8_at_22 hg5 h
  clear ej3
  obtain ⟨j6, ej7, h⟩ := xjn_e h
  have hj8 : j6  = some q → xG 0 0 0 mX8_at 21 [vX, vX] [] 155 s0 (xRv (vI q) s0) := by
    intro  h
    rw [ej7] at h
    refine g_ic dX8_at_21 ?_
    exact hj4 0 h
  clear ej7
  refine g_ylt dX8_at_1 (tgt := 21) rfl rfl (fun q9 => ?_) (fun q9 => ?_)
  · replace h := xif_f q9 h
    refine g_drop_0 ?_
    refine g_drop_1 ?_
    exact hj8  h
  · replace h := xif_t q9 h
    refine g_iln dX8_at_4 rfl rfl ?_
    refine g_aln dX8_at_5 rfl rfl (by decide) ?_
    refine g_getI 1 dX8_at_6 fl_X8_15 rfl rfl ?_
    refine g_wge dX8_at_9 (tgt := 21) rfl rfl rfl (fun q10 => ?_) (fun q10 => ?_)
    · replace h := xif_f q10 h
      refine g_drop_0 ?_
      refine g_drop_1 ?_
      exact hj8  h
    · replace h := xif_t q10 h
      refine g_aln dX8_at_12 rfl rfl (by decide) ?_
      refine g_getC 2 dX8_at_13 fl_X8_11 rfl (by decide) ?_
      refine g_iln dX8_at_16 rfl rfl ?_
      obtain ⟨hg11, h⟩ := xgd_e h
      refine g_cald 80 dX8_at_17 rfl hg11 (by decide) ?_
      refine g_goto dX8_at_18 (tgt := 22) rfl ?_
      refine g_drop_0 ?_
      refine g_drop_1 ?_
      exact hj4 (s0 2 a1) h
theorem dX8_digit_0 : decode cX8_digit 0 = .ok (.aload_n 0, 1) := by decide +kernel
theorem dX8_digit_1 : decode cX8_digit 1 = .ok (.iload_n 1, 1) := by decide +kernel
theorem dX8_digit_2 : decode cX8_digit 2 = .ok (.invokevirtual 19, 3) := by decide +kernel
theorem dX8_digit_5 : decode cX8_digit 5 = .ok (.istore_n 2, 1) := by decide +kernel
theorem dX8_digit_6 : decode cX8_digit 6 = .ok (.iload_n 2, 1) := by decide +kernel
theorem dX8_digit_7 : decode cX8_digit 7 = .ok (.bipush 48, 2) := by decide +kernel
theorem dX8_digit_9 : decode cX8_digit 9 = .ok (.if_icmp .lt 16, 3) := by decide +kernel
theorem dX8_digit_12 : decode cX8_digit 12 = .ok (.iload_n 2, 1) := by decide +kernel
theorem dX8_digit_13 : decode cX8_digit 13 = .ok (.bipush 57, 2) := by decide +kernel
theorem dX8_digit_15 : decode cX8_digit 15 = .ok (.if_icmp .gt 10, 3) := by decide +kernel
theorem dX8_digit_18 : decode cX8_digit 18 = .ok (.iload_n 2, 1) := by decide +kernel
theorem dX8_digit_19 : decode cX8_digit 19 = .ok (.bipush 48, 2) := by decide +kernel
theorem dX8_digit_21 : decode cX8_digit 21 = .ok (.isub, 1) := by decide +kernel
theorem dX8_digit_22 : decode cX8_digit 22 = .ok (.goto 4, 3) := by decide +kernel
theorem dX8_digit_25 : decode cX8_digit 25 = .ok (.iconst (-1), 1) := by decide +kernel
theorem dX8_digit_26 : decode cX8_digit 26 = .ok (.ireturn, 1) := by decide +kernel
theorem s_X8_digit {a1 : Int} {s0 : xW} {q : Int} (h : F_X8_digit a1 s0 = some q) : xC 1 0 0 mX8_digit [vR 1, vI a1] 155 s0 (xRv (vI q) s0) := by
  refine xC.of [vR 1, vI a1, vX] (by decide +kernel) (Nat.le_of_ble_eq_true rfl) rfl ?_
  unfold F_X8_digit at h
  refine g_aln dX8_digit_0 rfl rfl (by decide) ?_
  refine g_iln dX8_digit_1 rfl rfl ?_
  obtain ⟨r2, e1, h⟩ := xbp_e h
  refine g_cV1v dX8_digit_2 ml_X8_19 rfl (s_X8_at e1) (by decide) rfl ?_
  refine g_istn_2 dX8_digit_5 (by decide) rfl ?_
  refine g_iln dX8_digit_6 rfl rfl ?_
  refine g_bi dX8_digit_7 (by decide) ?_
  obtain ⟨v5, e6, h⟩ := xlt_e h
  have hj7 : xG 1 0 0 mX8_digit 26 [vX, vX, vX] [vI v5] 155 s0 (xRv (vI q) s0) := by
    exact g_pI rfl dX8_digit_26 h
  refine g_wlt dX8_digit_9 (tgt := 25) rfl rfl (xw_id (by decide)) (fun c3 => ?_) (fun c3 => ?_)
  · skip
    refine g_ic dX8_digit_25 ?_
    refine g_drop_0 ?_
    refine g_drop_1 ?_
    refine g_drop_2 ?_
    exact g_vq ((if_neg c3).symm.trans e6) hj7
  · skip
    refine g_iln dX8_digit_12 rfl rfl ?_
    refine g_bi dX8_digit_13 (by decide) ?_
    refine g_wgt dX8_digit_15 (tgt := 25) rfl rfl (xw_id (by decide)) (fun c4 => ?_) (fun c4 => ?_)
    · skip
      refine g_ic dX8_digit_25 ?_
      refine g_drop_0 ?_
      refine g_drop_1 ?_
      refine g_drop_2 ?_
      exact g_vq (((if_pos c3).trans (if_neg c4)).symm.trans e6) hj7
    · skip
      refine g_iln dX8_digit_18 rfl rfl ?_
      refine g_bi dX8_digit_19 (by decide) ?_
      refine g_isub dX8_digit_21 ?_
      refine g_goto dX8_digit_22 (tgt := 26) rfl ?_
      refine g_drop_0 ?_
      refine g_drop_1 ?_
      refine g_drop_2 ?_
      exact g_vq (((if_pos c3).trans (if_pos c4)).symm.trans e6) hj7
theorem dX1_read_0 : decode cX1_read 0 = .ok (.iconst 0, 1) := by decide +kernel
theorem dX1_read_1 : decode cX1_read 1 = .ok (.istore_n 2, 1) := by decide +kernel
theorem dX1_read_2 : decode cX1_read 2 = .ok (.iload_n 2, 1) := by decide +kernel
theorem dX1_read_3 : decode cX1_read 3 = .ok (.aload_n 1, 1) := by decide +kernel
theorem dX1_read_4 : decode cX1_read 4 = .ok (.getfield 19, 3) := by decide +kernel
theorem dX1_read_7 : decode cX1_read 7 = .ok (.if_icmp .ge 26, 3) := by decide +kernel
theorem dX1_read_10 : decode cX1_read 10 = .ok (.iload_n 2, 1) := by decide +kernel
theorem dX1_read_11 : decode cX1_read 11 = .ok (.bipush 20, 2) := by decide +kernel
theorem dX1_read_13 : decode cX1_read 13 = .ok (.if_icmp .eq 12, 3) := by decide +kernel
theorem dX1_read_16 : decode cX1_read 16 = .ok (.aload_n 1, 1) := by decide +kernel
theorem dX1_read_17 : decode cX1_read 17 = .ok (.iload_n 2, 1) := by decide +kernel
theorem dX1_read_18 : decode cX1_read 18 = .ok (.invokevirtual 24, 3) := by decide +kernel
theorem dX1_read_21 : decode cX1_read 21 = .ok (.iconst (-1), 1) := by decide +kernel
theorem dX1_read_22 : decode cX1_read 22 = .ok (.if_icmp .ne 5, 3) := by decide +kernel
theorem dX1_read_25 : decode cX1_read 25 = .ok (.iload_n 2, 1) := by decide +kernel
theorem dX1_read_26 : decode cX1_read 26 = .ok (.ireturn, 1) := by decide +kernel
theorem dX1_read_27 : decode cX1_read 27 = .ok (.iinc 2 1, 3) := by decide +kernel
theorem dX1_read_30 : decode cX1_read 30 = .ok (.goto (-28), 3) := by decide +kernel
theorem dX1_read_33 : decode cX1_read 33 = .ok (.aload_n 1, 1) := by decide +kernel
theorem dX1_read_34 : decode cX1_read 34 = .ok (.getfield 19, 3) := by decide +kernel
theorem dX1_read_37 : decode cX1_read 37 = .ok (.ifCond .ne 5, 3) := by decide +kernel
theorem dX1_read_40 : decode cX1_read 40 = .ok (.iconst 0, 1) := by decide +kernel
theorem dX1_read_41 : decode cX1_read 41 = .ok (.ireturn, 1) := by decide +kernel
theorem dX1_read_42 : decode cX1_read 42 = .ok (.aload_n 0, 1) := by decide +kernel
theorem dX1_read_43 : decode cX1_read 43 = .ok (.aload_n 1, 1) := by decide +kernel
theorem dX1_read_44 : decode cX1_read 44 = .ok (.getfield 19, 3) := by decide +kernel
theorem dX1_read_47 : decode cX1_read 47 = .ok (.putfield 15, 3) := by decide +kernel
theorem dX1_read_50 : decode cX1_read 50 = .ok (.iconst 0, 1) := by decide +kernel
theorem dX1_read_51 : decode cX1_read 51 = .ok (.istore_n 2, 1) := by decide +kernel
theorem dX1_read_52 : decode cX1_read 52 = .ok (.iload_n 2, 1) := by decide +kernel
theorem dX1_read_53 : decode cX1_read 53 = .ok (.aload_n 0, 1) := by decide +kernel
theorem dX1_read_54 : decode cX1_read 54 = .ok (.getfield 15, 3) := by decide +kernel
theorem dX1_read_57 : decode cX1_read 57 = .ok (.if_icmp .ge 20, 3) := by decide +kernel
theorem dX1_read_60 : decode cX1_read 60 = .ok (.aload_n 0, 1) := by decide +kernel
theorem dX1_read_61 : decode cX1_read 61 = .ok (.getfield 11, 3) := by decide +kernel
theorem dX1_read_64 : decode cX1_read 64 = .ok (.iload_n 2, 1) := by decide +kernel
theorem dX1_read_65 : decode cX1_read 65 = .ok (.aload_n 1, 1) := by decide +kernel
theorem dX1_read_66 : decode cX1_read 66 = .ok (.iload_n 2, 1) := by decide +kernel
theorem dX1_read_67 : decode cX1_read 67 = .ok (.invokevirtual 24, 3) := by decide +kernel
theorem dX1_read_70 : decode cX1_read 70 = .ok (.iastore, 1) := by decide +kernel
theorem dX1_read_71 : decode cX1_read 71 = .ok (.iinc 2 1, 3) := by decide +kernel
theorem dX1_read_74 : decode cX1_read 74 = .ok (.goto (-22), 3) := by decide +kernel
theorem dX1_read_77 : decode cX1_read 77 = .ok (.iconst (-1), 1) := by decide +kernel
theorem dX1_read_78 : decode cX1_read 78 = .ok (.ireturn, 1) := by decide +kernel
theorem s_X1_read_2 {s4 : xW} {l0_1 : Int} (hm2 : l0_1 ∈ xDigs) {q : Int × xW} {k : Int → Option (Int × xW)} (hk : ∀ (l2_13 : Int), k l2_13 = some q → xG 2 0 0 mX1_read 33 [vR l0_1, vR 1, vI l2_13] [] 155 s4 (xRv (vI q.1) q.2)) : ∀ (f : Nat) (l2_3 : Int), F_X1_read_2 l0_1 s4 f l2_3 k = some q → xG 2 0 0 mX1_read 2 [vR l0_1, vR 1, vI l2_3] [] 155 s4 (xRv (vI q.1) q.2) := by
  intro f
  induction f with
  | zero => intro l2_3 h; cases h
  | succ f ih =>
    intro l2_3 h
    unfold F_X1_read_2 at h
    refine g_iln dX1_read_2 rfl rfl ?_
    refine g_aln dX1_read_3 rfl rfl (by decide) ?_
    refine g_getI 1 dX1_read_4 fl_X1_19 rfl rfl ?_
    refine g_wge dX1_read_7 (tgt := 33) rfl rfl rfl (fun q5 => ?_) (fun q5 => ?_)
    · replace h := xif_f q5 h
      exact hk l2_3 h
    · replace h := xif_t q5 h
      refine g_iln dX1_read_10 rfl rfl ?_
      refine g_bi dX1_read_11 (by decide) ?_
      obtain ⟨j6, ej7, h⟩ := xjn_e h
      have hj8 : j6  = some q → xG 2 0 0 mX1_read 25 [vX, vX, vI l2_3] [] 155 s4 (xRv (vI q.1) q.2) := by
        intro  h
        rw [ej7] at h
        refine g_iln dX1_read_25 rfl rfl ?_
        exact g_rI rfl dX1_read_26 h
      clear ej7
      refine g_weq dX1_read_13 (tgt := 25) rfl rfl (xw_id (by decide)) (fun q9 => ?_) (fun q9 => ?_)
      · replace h := xif_f q9 h
        refine g_drop_0 ?_
        refine g_drop_1 ?_
        exact hj8  h
      · replace h := xif_t q9 h
        refine g_aln dX1_read_16 rfl rfl (by decide) ?_
        refine g_iln dX1_read_17 rfl rfl ?_
        obtain ⟨r11, e10, h⟩ := xbp_e h
        refine g_cV1v dX1_read_18 ml_X1_24 rfl (s_X8_digit e10) (by decide) rfl ?_
        refine g_ic dX1_read_21 ?_
        refine g_wne dX1_read_22 (tgt := 27) rfl rfl (xw_id (by decide)) (fun q12 => ?_) (fun q12 => ?_)
        · replace h := xif_f q12 h
          refine g_inc_2 dX1_read_27 (by decide) rfl ?_
          refine g_goto dX1_read_30 (tgt := 2) rfl ?_
          exact ih (l2_3 + 1) h
        · replace h := xif_t q12 h
          refine g_drop_0 ?_
          refine g_drop_1 ?_
          exact hj8  h
theorem s_X1_read_52 {l0_18 : Int} (hm19 : l0_18 ∈ xDigs) {q : Int × xW} {k : Int → xW → Option (Int × xW)} (hk : ∀ (l2_28 : Int) (s29 : xW), k l2_28 s29 = some q → xG 2 0 0 mX1_read 77 [vR l0_18, vR 1, vI l2_28] [] 155 s29 (xRv (vI q.1) q.2)) : ∀ (f : Nat) (l2_20 : Int) (s21 : xW), F_X1_read_52 l0_18 f l2_20 s21 k = some q → xG 2 0 0 mX1_read 52 [vR l0_18, vR 1, vI l2_20] [] 155 s21 (xRv (vI q.1) q.2) := by
  intro f
  induction f with
  | zero => intro l2_20 s21 h; cases h
  | succ f ih =>
    intro l2_20 s21 h
    unfold F_X1_read_52 at h
    refine g_iln dX1_read_52 rfl rfl ?_
    refine g_aln dX1_read_53 rfl rfl (xf_dig_28 _ hm19) ?_
    refine g_getI 1 dX1_read_54 fl_X1_15 (xf_dig_29 _ hm19) rfl ?_
    refine g_wge dX1_read_57 (tgt := 77) rfl rfl rfl (fun q22 => ?_) (fun q22 => ?_)
    · replace h := xif_f q22 h
      exact hk l2_20 s21 h
    · replace h := xif_t q22 h
      refine g_aln dX1_read_60 rfl rfl (xf_dig_28 _ hm19) ?_
      refine g_getC (l0_18 + 1) dX1_read_61 fl_X1_11 (xf_dig_30 _ hm19) (xf_dig_31 _ hm19) ?_
      refine g_iln dX1_read_64 rfl rfl ?_
      refine g_aln dX1_read_65 rfl rfl (by decide) ?_
      refine g_iln dX1_read_66 rfl rfl ?_
      obtain ⟨r24, e23, h⟩ := xbp_e h
      refine g_cV1v dX1_read_67 ml_X1_24 rfl (s_X8_digit e23) (by decide) rfl ?_
      obtain ⟨hg25, h⟩ := xgd_e h
      obtain ⟨s26, e27, h⟩ := xlt_e h
      refine h_iast 20 dX1_read_70 (xf_dig_32 _ hm19) hg25 (by decide) e27 ?_
      refine g_inc_2 dX1_read_71 (by decide) rfl ?_
      refine g_goto dX1_read_74 (tgt := 52) rfl ?_
      exact ih (l2_20 + 1) s26 h
theorem s_X1_read {a0 : Int} {s0 : xW} {q : Int × xW} (h : F_X1_read a0 s0 = some q) : xC 2 0 0 mX1_read [vR a0, vR 1] 155 s0 (xRv (vI q.1) q.2) := by
  refine xC.of [vR a0, vR 1, vX] (by decide +kernel) (Nat.le_of_ble_eq_true rfl) rfl ?_
  unfold F_X1_read at h
  obtain ⟨hm0, h⟩ := xgd_e h
  refine g_ic dX1_read_0 ?_
  refine g_istn_2 dX1_read_1 (by decide) rfl ?_
  refine s_X1_read_2 hm0 (fun l2_14 h => ?_) xN _ h
  refine g_aln dX1_read_33 rfl rfl (by decide) ?_
  refine g_getI 1 dX1_read_34 fl_X1_19 rfl rfl ?_
  refine g_yne dX1_read_37 (tgt := 42) rfl rfl (fun q15 => ?_) (fun q15 => ?_)
  · replace h := xif_f q15 h
    refine g_aln dX1_read_42 rfl rfl (xf_dig_28 _ hm0) ?_
    refine g_aln dX1_read_43 rfl rfl (by decide) ?_
    refine g_getI 1 dX1_read_44 fl_X1_19 rfl rfl ?_
    obtain ⟨s16, e17, h⟩ := xlt_e h
    refine h_putI 1 dX1_read_47 fl_X1_15 (xf_dig_29 _ hm0) rfl e17 ?_
    refine g_ic dX1_read_50 ?_
    refine g_istn_2 dX1_read_51 (by decide) rfl ?_
    refine s_X1_read_52 hm0 (fun l2_30 s31 h => ?_) xN _ _ h
    refine g_ic dX1_read_77 ?_
    exact g_rI rfl dX1_read_78 h
  · replace h := xif_t q15 h
    refine g_ic dX1_read_40 ?_
    exact g_rI rfl dX1_read_41 h
theorem dX8_clear_0 : decode cX8_clear 0 = .ok (.aload_n 0, 1) := by decide +kernel
theorem dX8_clear_1 : decode cX8_clear 1 = .ok (.iconst 0, 1) := by decide +kernel
theorem dX8_clear_2 : decode cX8_clear 2 = .ok (.putfield 15, 3) := by decide +kernel
theorem dX8_clear_5 : decode cX8_clear 5 = .ok (.return_, 1) := by decide +kernel
theorem s_X8_clear {s0 : xW} {q : xW} (h : F_X8_clear  s0 = some q) : xC 0 0 0 mX8_clear [vR 1] 155 s0 (xR0 q) := by
  refine xC.of [vR 1] (by decide +kernel) (Nat.le_of_ble_eq_true rfl) rfl ?_
  unfold F_X8_clear at h
  refine g_aln dX8_clear_0 rfl rfl (by decide) ?_
  refine g_ic dX8_clear_1 ?_
  obtain ⟨s1, e2, h⟩ := xlt_e h
  refine h_putI 1 dX8_clear_2 fl_X8_15 rfl rfl e2 ?_
  exact g_rV rfl dX8_clear_5 h
theorem dX10_readDigits_0 : decode cX10_readDigits 0 = .ok (.aload_n 1, 1) := by decide +kernel
theorem dX10_readDigits_1 : decode cX10_readDigits 1 = .ok (.aload_n 0, 1) := by decide +kernel
theorem dX10_readDigits_2 : decode cX10_readDigits 2 = .ok (.getfield 12, 3) := by decide +kernel
theorem dX10_readDigits_5 : decode cX10_readDigits 5 = .ok (.invokevirtual 422, 3) := by decide +kernel
theorem dX10_readDigits_8 : decode cX10_readDigits 8 = .ok (.istore_n 2, 1) := by decide +kernel
theorem dX10_readDigits_9 : decode cX10_readDigits 9 = .ok (.iload_n 2, 1) := by decide +kernel
theorem dX10_readDigits_10 : decode cX10_readDigits 10 = .ok (.iconst (-1), 1) := by decide +kernel
theorem dX10_readDigits_11 : decode cX10_readDigits 11 = .ok (.if_icmp .ne 13, 3) := by decide +kernel
theorem dX10_readDigits_14 : decode cX10_readDigits 14 = .ok (.aload_n 0, 1) := by decide +kernel
theorem dX10_readDigits_15 : decode cX10_readDigits 15 = .ok (.getfield 12, 3) := by decide +kernel
theorem dX10_readDigits_18 : decode cX10_readDigits 18 = .ok (.getfield 112, 3) := by decide +kernel
theorem dX10_readDigits_21 : decode cX10_readDigits 21 = .ok (.goto 6, 3) := by decide +kernel
theorem dX10_readDigits_24 : decode cX10_readDigits 24 = .ok (.iconst (-1), 1) := by decide +kernel
theorem dX10_readDigits_25 : decode cX10_readDigits 25 = .ok (.iload_n 2, 1) := by decide +kernel
theorem dX10_readDigits_26 : decode cX10_readDigits 26 = .ok (.isub, 1) := by decide +kernel
theorem dX10_readDigits_27 : decode cX10_readDigits 27 = .ok (.istore_n 3, 1) := by decide +kernel
theorem dX10_readDigits_28 : decode cX10_readDigits 28 = .ok (.aload_n 0, 1) := by decide +kernel
theorem dX10_readDigits_29 : decode cX10_readDigits 29 = .ok (.getfield 12, 3) := by decide +kernel
theorem dX10_readDigits_32 : decode cX10_readDigits 32 = .ok (.invokevirtual 125, 3) := by decide +kernel
theorem dX10_readDigits_35 : decode cX10_readDigits 35 = .ok (.iload_n 3, 1) := by decide +kernel
theorem dX10_readDigits_36 : decode cX10_readDigits 36 = .ok (.ireturn, 1) := by decide +kernel
theorem s_X10_readDigits {a1 : Int} {s0 : xW} {q : Int × xW} (h : F_X10_readDigits a1 s0 = some q) : xC 3 0 0 mX10_readDigits [vR 0, vR a1] 155 s0 (xRv (vI q.1) q.2) := by
  refine xC.of [vR 0, vR a1, vX, vX] (by decide +kernel) (Nat.le_of_ble_eq_true rfl) rfl ?_
  unfold F_X10_readDigits at h
  obtain ⟨hm1, h⟩ := xgd_e h
  refine g_aln dX10_readDigits_0 rfl rfl (xf_dig_28 _ hm1) ?_
  refine g_aln dX10_readDigits_1 rfl rfl (by decide) ?_
  refine g_getC 1 dX10_readDigits_2 fl_X10_12 rfl (by decide) ?_
  obtain ⟨r2, s3, e1, h⟩ := xbd_e h
  refine g_cV1v dX10_readDigits_5 ml_X10_422 (xf_dig_34 _ hm1) (s_X1_read e1) (by decide) rfl ?_
  refine g_istn_2 dX10_readDigits_8 (by decide) rfl ?_
  refine g_iln dX10_readDigits_9 rfl rfl ?_
  refine g_ic dX10_readDigits_10 ?_
  obtain ⟨v5, e6, h⟩ := xlt_e h
  have hj7 : xG 3 0 0 mX10_readDigits 27 [vR 0, vX, vX, vX] [vI v5] 155 s3 (xRv (vI q.1) q.2) := by
    refine g_istn_3 dX10_readDigits_27 (by decide) rfl ?_
    refine g_aln dX10_readDigits_28 rfl rfl (by decide) ?_
    refine g_getC 1 dX10_readDigits_29 fl_X10_12 rfl (by decide) ?_
    obtain ⟨s9, e8, h⟩ := xbp_e h
    refine g_cV00 dX10_readDigits_32 ml_X10_125 rfl (s_X8_clear e8) (by decide) rfl ?_
    refine g_iln dX10_readDigits_35 rfl rfl ?_
    exact g_rI rfl dX10_readDigits_36 h
  refine g_wne dX10_readDigits_11 (tgt := 24) rfl rfl (xw_id (by decide)) (fun c4 => ?_) (fun c4 => ?_)
  · skip
    refine g_ic dX10_readDigits_24 ?_
    refine g_iln dX10_readDigits_25 rfl rfl ?_
    refine g_isub dX10_readDigits_26 ?_
    refine g_drop_1 ?_
    refine g_drop_2 ?_
    exact g_vq ((if_neg c4).symm.trans e6) hj7
  · skip
    refine g_aln dX10_readDigits_14 rfl rfl (by decide) ?_
    refine g_getC 1 dX10_readDigits_15 fl_X10_12 rfl (by decide) ?_
    refine g_getI 1 dX10_readDigits_18 fl_X10_112 rfl rfl ?_
    refine g_goto dX10_readDigits_21 (tgt := 27) rfl ?_
    refine g_drop_1 ?_
    refine g_drop_2 ?_
    exact g_vq ((if_pos c4).symm.trans e6) hj7
theorem dX10_damps_0 : decode cX10_damps 0 = .ok (.aload_n 0, 1) := by decide +kernel
theorem dX10_damps_1 : decode cX10_damps 1 = .ok (.aload_n 0, 1) := by decide +kernel
theorem dX10_damps_2 : decode cX10_damps 2 = .ok (.getfield 30, 3) := by decide +kernel
theorem dX10_damps_5 : decode cX10_damps 5 = .ok (.invokevirtual 134, 3) := by decide +kernel
theorem dX10_damps_8 : decode cX10_damps 8 = .ok (.ireturn, 1) := by decide +kernel
theorem s_X10_damps {s0 : xW} {q : Int × xW} (h : F_X10_damps  s0 = some q) : xC 4 0 0 mX10_damps [vR 0] 155 s0 (xRv (vI q.1) q.2) := by
  refine xC.of [vR 0] (by decide +kernel) (Nat.le_of_ble_eq_true rfl) rfl ?_
  unfold F_X10_damps at h
  refine g_aln dX10_damps_0 rfl rfl (by decide) ?_
  refine g_aln dX10_damps_1 rfl rfl (by decide) ?_
  refine g_getC 7 dX10_damps_2 fl_X10_30 rfl (by decide) ?_
  obtain ⟨r2, s3, e1, h⟩ := xbd_e h
  refine g_cV1v dX10_damps_5 ml_X10_134 rfl (s_X10_readDigits e1) (by decide) rfl ?_
  exact g_rI rfl dX10_damps_8 h
theorem dX10_passDay_0 : decode cX10_passDay 0 = .ok (.iconst (-1), 1) := by decide +kernel
theorem dX10_passDay_1 : decode cX10_passDay 1 = .ok (.istore_n 1, 1) := by decide +kernel
theorem dX10_passDay_2 : decode cX10_passDay 2 = .ok (.aload_n 0, 1) := by decide +kernel
theorem dX10_passDay_3 : decode cX10_passDay 3 = .ok (.getfield 46, 3) := by decide +kernel
theorem dX10_passDay_6 : decode cX10_passDay 6 = .ok (.getfield 288, 3) := by decide +kernel
theorem dX10_passDay_9 : decode cX10_passDay 9 = .ok (.ifCond .le 94, 3) := by decide +kernel
theorem dX10_passDay_12 : decode cX10_passDay 12 = .ok (.aload_n 0, 1) := by decide +kernel
theorem dX10_passDay_13 : decode cX10_passDay 13 = .ok (.aload_n 0, 1) := by decide +kernel
theorem dX10_passDay_14 : decode cX10_passDay 14 = .ok (.getfield 36, 3) := by decide +kernel
theorem dX10_passDay_17 : decode cX10_passDay 17 = .ok (.aload_n 0, 1) := by decide +kernel
theorem dX10_passDay_18 : decode cX10_passDay 18 = .ok (.getfield 46, 3) := by decide +kernel
theorem dX10_passDay_21 : decode cX10_passDay 21 = .ok (.getfield 379, 3) := by decide +kernel
theorem dX10_passDay_24 : decode cX10_passDay 24 = .ok (.aload_n 0, 1) := by decide +kernel
theorem dX10_passDay_25 : decode cX10_passDay 25 = .ok (.getfield 46, 3) := by decide +kernel
theorem dX10_passDay_28 : decode cX10_passDay 28 = .ok (.getfield 277, 3) := by decide +kernel
theorem dX10_passDay_31 : decode cX10_passDay 31 = .ok (.invokevirtual 305, 3) := by decide +kernel
theorem dX10_passDay_34 : decode cX10_passDay 34 = .ok (.aload_n 0, 1) := by decide +kernel
theorem dX10_passDay_35 : decode cX10_passDay 35 = .ok (.getfield 75, 3) := by decide +kernel
theorem dX10_passDay_38 : decode cX10_passDay 38 = .ok (.invokevirtual 309, 3) := by decide +kernel
theorem dX10_passDay_41 : decode cX10_passDay 41 = .ok (.istore_n 1, 1) := by decide +kernel
theorem dX10_passDay_42 : decode cX10_passDay 42 = .ok (.aload_n 0, 1) := by decide +kernel
theorem dX10_passDay_43 : decode cX10_passDay 43 = .ok (.getfield 46, 3) := by decide +kernel
theorem dX10_passDay_46 : decode cX10_passDay 46 = .ok (.dup, 1) := by decide +kernel
theorem dX10_passDay_47 : decode cX10_passDay 47 = .ok (.getfield 288, 3) := by decide +kernel
theorem dX10_passDay_50 : decode cX10_passDay 50 = .ok (.iconst 1, 1) := by decide +kernel
theorem dX10_passDay_51 : decode cX10_passDay 51 = .ok (.isub, 1) := by decide +kernel
theorem dX10_passDay_52 : decode cX10_passDay 52 = .ok (.putfield 288, 3) := by decide +kernel
theorem dX10_passDay_55 : decode cX10_passDay 55 = .ok (.aload_n 0, 1) := by decide +kernel
theorem dX10_passDay_56 : decode cX10_passDay 56 = .ok (.getfield 46, 3) := by decide +kernel
theorem dX10_passDay_59 : decode cX10_passDay 59 = .ok (.sipush 9999, 3) := by decide +kernel
theorem dX10_passDay_62 : decode cX10_passDay 62 = .ok (.aload_n 0, 1) := by decide +kernel
theorem dX10_passDay_63 : decode cX10_passDay 63 = .ok (.getfield 46, 3) := by decide +kernel
theorem dX10_passDay_66 : decode cX10_passDay 66 = .ok (.getfield 239, 3) := by decide +kernel
theorem dX10_passDay_69 : decode cX10_passDay 69 = .ok (.iload_n 1, 1) := by decide +kernel
theorem dX10_passDay_70 : decode cX10_passDay 70 = .ok (.iadd, 1) := by decide +kernel
theorem dX10_passDay_71 : decode cX10_passDay 71 = .ok (.invokestatic 423, 3) := by decide +kernel
theorem dX10_passDay_74 : decode cX10_passDay 74 = .ok (.putfield 239, 3) := by decide +kernel
theorem dX10_passDay_77 : decode cX10_passDay 77 = .ok (.aload_n 0, 1) := by decide +kernel
theorem dX10_passDay_78 : decode cX10_passDay 78 = .ok (.getfield 68, 3) := by decide +kernel
theorem dX10_passDay_81 : decode cX10_passDay 81 = .ok (.getfield 325, 3) := by decide +kernel
theorem dX10_passDay_84 : decode cX10_passDay 84 = .ok (.iconst 0, 1) := by decide +kernel
theorem dX10_passDay_85 : decode cX10_passDay 85 = .ok (.aload_n 0, 1) := by decide +kernel
theorem dX10_passDay_86 : decode cX10_passDay 86 = .ok (.getfield 46, 3) := by decide +kernel
theorem dX10_passDay_89 : decode cX10_passDay 89 = .ok (.getfield 155, 3) := by decide +kernel
theorem dX10_passDay_92 : decode cX10_passDay 92 = .ok (.iconst 0, 1) := by decide +kernel
theorem dX10_passDay_93 : decode cX10_passDay 93 = .ok (.aload_n 0, 1) := by decide +kernel
theorem dX10_passDay_94 : decode cX10_passDay 94 = .ok (.getfield 93, 3) := by decide +kernel
theorem dX10_passDay_97 : decode cX10_passDay 97 = .ok (.invokestatic 426, 3) := by decide +kernel
theorem dX10_passDay_100 : decode cX10_passDay 100 = .ok (.goto 25, 3) := by decide +kernel
theorem dX10_passDay_103 : decode cX10_passDay 103 = .ok (.aload_n 0, 1) := by decide +kernel
theorem dX10_passDay_104 : decode cX10_passDay 104 = .ok (.getfield 46, 3) := by decide +kernel
theorem dX10_passDay_107 : decode cX10_passDay 107 = .ok (.sipush 999, 3) := by decide +kernel
theorem dX10_passDay_110 : decode cX10_passDay 110 = .ok (.aload_n 0, 1) := by decide +kernel
theorem dX10_passDay_111 : decode cX10_passDay 111 = .ok (.getfield 46, 3) := by decide +kernel
theorem dX10_passDay_114 : decode cX10_passDay 114 = .ok (.getfield 404, 3) := by decide +kernel
theorem dX10_passDay_117 : decode cX10_passDay 117 = .ok (.iconst 1, 1) := by decide +kernel
theorem dX10_passDay_118 : decode cX10_passDay 118 = .ok (.iadd, 1) := by decide +kernel
theorem dX10_passDay_119 : decode cX10_passDay 119 = .ok (.invokestatic 423, 3) := by decide +kernel
theorem dX10_passDay_122 : decode cX10_passDay 122 = .ok (.putfield 404, 3) := by decide +kernel
theorem dX10_passDay_125 : decode cX10_passDay 125 = .ok (.aload_n 0, 1) := by decide +kernel
theorem dX10_passDay_126 : decode cX10_passDay 126 = .ok (.getfield 46, 3) := by decide +kernel
theorem dX10_passDay_129 : decode cX10_passDay 129 = .ok (.dup, 1) := by decide +kernel
theorem dX10_passDay_130 : decode cX10_passDay 130 = .ok (.getfield 277, 3) := by decide +kernel
theorem dX10_passDay_133 : decode cX10_passDay 133 = .ok (.iconst 1, 1) := by decide +kernel
theorem dX10_passDay_134 : decode cX10_passDay 134 = .ok (.iadd, 1) := by decide +kernel
theorem dX10_passDay_135 : decode cX10_passDay 135 = .ok (.putfield 277, 3) := by decide +kernel
theorem dX10_passDay_138 : decode cX10_passDay 138 = .ok (.iload_n 1, 1) := by decide +kernel
theorem dX10_passDay_139 : decode cX10_passDay 139 = .ok (.ireturn, 1) := by decide +kernel
theorem s_X10_passDay {s0 : xW} {q : Int × xW} (h : F_X10_passDay  s0 = some q) : xC 4 0 0 mX10_passDay [vR 0] 155 s0 (xRv (vI q.1) q.2) := by
  refine xC.of [vR 0, vX] (by decide +kernel) (Nat.le_of_ble_eq_true rfl) rfl ?_
  unfold F_X10_passDay at h
  refine g_ic dX10_passDay_0 ?_
  refine g_istn_1 dX10_passDay_1 (by decide) rfl ?_
  refine g_aln dX10_passDay_2 rfl rfl (by decide) ?_
  refine g_getC 17 dX10_passDay_3 fl_X10_46 rfl (by decide) ?_
  refine g_getI 2 dX10_passDay_6 fl_X10_288 rfl rfl ?_
  obtain ⟨j3, ej4, h⟩ := xjn_e h
  have hj5 : ∀ (l1_1 : Int) (s2 : xW), j3 l1_1 s2 = some q → xG 4 0 0 mX10_passDay 125 [vR 0, vI l1_1] [] 155 s2 (xRv (vI q.1) q.2) := by
    intro l1_1 s2 h
    rw [ej4] at h
    refine g_aln dX10_passDay_125 rfl rfl (by decide) ?_
    refine g_getC 17 dX10_passDay_126 fl_X10_46 rfl (by decide) ?_
    refine g_dup dX10_passDay_129 rfl ?_
    refine g_getI 5 dX10_passDay_130 fl_X10_277 rfl rfl ?_
    refine g_ic dX10_passDay_133 ?_
    refine g_iadd dX10_passDay_134 ?_
    obtain ⟨s6, e7, h⟩ := xlt_e h
    refine h_putI 5 dX10_passDay_135 fl_X10_277 rfl rfl e7 ?_
    refine g_iln dX10_passDay_138 rfl rfl ?_
    exact g_rI rfl dX10_passDay_139 h
  clear ej4
  refine g_yle dX10_passDay_9 (tgt := 103) rfl rfl (fun q8 => ?_) (fun q8 => ?_)
  · replace h := xif_f q8 h
    refine g_aln dX10_passDay_103 rfl rfl (by decide) ?_
    refine g_getC 17 dX10_passDay_104 fl_X10_46 rfl (by decide) ?_
    refine g_si dX10_passDay_107 (by decide) ?_
    refine g_aln dX10_passDay_110 rfl rfl (by decide) ?_
    refine g_getC 17 dX10_passDay_111 fl_X10_46 rfl (by decide) ?_
    refine g_getI 4 dX10_passDay_114 fl_X10_404 rfl rfl ?_
    refine g_ic dX10_passDay_117 ?_
    refine g_iadd dX10_passDay_118 ?_
    refine g_wmin dX10_passDay_119 mx_X10_423 (xw_id (by decide)) rfl (by decide) rfl ?_
    obtain ⟨s9, e10, h⟩ := xlt_e h
    refine h_putI 4 dX10_passDay_122 fl_X10_404 rfl rfl e10 ?_
    exact hj5 (-1) s9 h
  · replace h := xif_t q8 h
    refine g_aln dX10_passDay_12 rfl rfl (by decide) ?_
    refine g_aln dX10_passDay_13 rfl rfl (by decide) ?_
    obtain ⟨hg11, h⟩ := xgd_e h
    refine g_getR 4 dX10_passDay_14 fl_X10_36 rfl rfl ?_
    refine g_aln dX10_passDay_17 rfl rfl (by decide) ?_
    refine g_getC 17 dX10_passDay_18 fl_X10_46 rfl (by decide) ?_
    refine g_getI 0 dX10_passDay_21 fl_X10_379 rfl rfl ?_
    refine g_aln dX10_passDay_24 rfl rfl (by decide) ?_
    refine g_getC 17 dX10_passDay_25 fl_X10_46 rfl (by decide) ?_
    refine g_getI 5 dX10_passDay_28 fl_X10_277 rfl rfl ?_
    obtain ⟨s13, e12, h⟩ := xbp_e h
    refine g_cV30 dX10_passDay_31 ml_X10_305 rfl (s_X10_planFor e12) (by decide) rfl ?_
    refine g_aln dX10_passDay_34 rfl rfl (by decide) ?_
    refine g_getC 92 dX10_passDay_35 fl_X10_75 rfl (by decide) ?_
    obtain ⟨r15, e14, h⟩ := xbp_e h
    refine g_cV0v dX10_passDay_38 ml_X10_309 rfl (s_X4_pairs e14) (by decide) rfl ?_
    refine g_istn_1 dX10_passDay_41 (by decide) rfl ?_
    refine g_aln dX10_passDay_42 rfl rfl (by decide) ?_
    refine g_getC 17 dX10_passDay_43 fl_X10_46 rfl (by decide) ?_
    refine g_dup dX10_passDay_46 rfl ?_
    refine g_getI 2 dX10_passDay_47 fl_X10_288 rfl rfl ?_
    refine g_ic dX10_passDay_50 ?_
    refine g_isub dX10_passDay_51 ?_
    obtain ⟨s16, e17, h⟩ := xlt_e h
    refine h_putI 2 dX10_passDay_52 fl_X10_288 rfl rfl e17 ?_
    refine g_aln dX10_passDay_55 rfl rfl (by decide) ?_
    refine g_getC 17 dX10_passDay_56 fl_X10_46 rfl (by decide) ?_
    refine g_si dX10_passDay_59 (by decide) ?_
    refine g_aln dX10_passDay_62 rfl rfl (by decide) ?_
    refine g_getC 17 dX10_passDay_63 fl_X10_46 rfl (by decide) ?_
    refine g_getI 3 dX10_passDay_66 fl_X10_239 rfl rfl ?_
    refine g_iln dX10_passDay_69 rfl rfl ?_
    refine g_iadd dX10_passDay_70 ?_
    refine g_wmin dX10_passDay_71 mx_X10_423 (xw_id (by decide)) rfl (by decide) rfl ?_
    obtain ⟨s18, e19, h⟩ := xlt_e h
    refine h_putI 3 dX10_passDay_74 fl_X10_239 rfl rfl e19 ?_
    refine g_aln dX10_passDay_77 rfl rfl (by decide) ?_
    refine g_getC 89 dX10_passDay_78 fl_X10_68 rfl (by decide) ?_
    refine g_getC 91 dX10_passDay_81 fl_X10_325 rfl (by decide) ?_
    refine g_ic dX10_passDay_84 ?_
    refine g_aln dX10_passDay_85 rfl rfl (by decide) ?_
    refine g_getC 17 dX10_passDay_86 fl_X10_46 rfl (by decide) ?_
    refine g_getC 19 dX10_passDay_89 fl_X10_155 rfl (by decide) ?_
    refine g_ic dX10_passDay_92 ?_
    refine g_aln dX10_passDay_93 rfl rfl (by decide) ?_
    refine g_getI 14 dX10_passDay_94 fl_X10_93 rfl rfl ?_
    obtain ⟨hg20, h⟩ := xgd_e h
    obtain ⟨s21, e22, h⟩ := xlt_e h
    refine h_copy 8 8 dX10_passDay_97 mc_X10_426 rfl rfl hg20 (by decide) (by decide) rfl e22 ?_
    refine g_goto dX10_passDay_100 (tgt := 125) rfl ?_
    exact hj5 r15 s21 h
theorem dX10_passDays_0 : decode cX10_passDays 0 = .ok (.iload_n 1, 1) := by decide +kernel
theorem dX10_passDays_1 : decode cX10_passDays 1 = .ok (.ifCond .lt 9, 3) := by decide +kernel
theorem dX10_passDays_4 : decode cX10_passDays 4 = .ok (.iload_n 1, 1) := by decide +kernel
theorem dX10_passDays_5 : decode cX10_passDays 5 = .ok (.bipush 60, 2) := by decide +kernel
theorem dX10_passDays_7 : decode cX10_passDays 7 = .ok (.if_icmp .le 5, 3) := by decide +kernel
theorem dX10_passDays_10 : decode cX10_passDays 10 = .ok (.iconst (-1), 1) := by decide +kernel
theorem dX10_passDays_11 : decode cX10_passDays 11 = .ok (.ireturn, 1) := by decide +kernel
theorem dX10_passDays_12 : decode cX10_passDays 12 = .ok (.iconst 0, 1) := by decide +kernel
theorem dX10_passDays_13 : decode cX10_passDays 13 = .ok (.istore_n 2, 1) := by decide +kernel
theorem dX10_passDays_14 : decode cX10_passDays 14 = .ok (.iconst 0, 1) := by decide +kernel
theorem dX10_passDays_15 : decode cX10_passDays 15 = .ok (.istore_n 3, 1) := by decide +kernel
theorem dX10_passDays_16 : decode cX10_passDays 16 = .ok (.iconst 0, 1) := by decide +kernel
theorem dX10_passDays_17 : decode cX10_passDays 17 = .ok (.istore 4, 2) := by decide +kernel
theorem dX10_passDays_19 : decode cX10_passDays 19 = .ok (.iload 4, 2) := by decide +kernel
theorem dX10_passDays_21 : decode cX10_passDays 21 = .ok (.iload_n 1, 1) := by decide +kernel
theorem dX10_passDays_22 : decode cX10_passDays 22 = .ok (.if_icmp .ge 38, 3) := by decide +kernel
theorem dX10_passDays_25 : decode cX10_passDays 25 = .ok (.aload_n 0, 1) := by decide +kernel
theorem dX10_passDays_26 : decode cX10_passDays 26 = .ok (.invokevirtual 389, 3) := by decide +kernel
theorem dX10_passDays_29 : decode cX10_passDays 29 = .ok (.istore 5, 2) := by decide +kernel
theorem dX10_passDays_31 : decode cX10_passDays 31 = .ok (.iload_n 2, 1) := by decide +kernel
theorem dX10_passDays_32 : decode cX10_passDays 32 = .ok (.iload 5, 2) := by decide +kernel
theorem dX10_passDays_34 : decode cX10_passDays 34 = .ok (.iconst 0, 1) := by decide +kernel
theorem dX10_passDays_35 : decode cX10_passDays 35 = .ok (.invokestatic 392, 3) := by decide +kernel
theorem dX10_passDays_38 : decode cX10_passDays 38 = .ok (.iadd, 1) := by decide +kernel
theorem dX10_passDays_39 : decode cX10_passDays 39 = .ok (.istore_n 2, 1) := by decide +kernel
theorem dX10_passDays_40 : decode cX10_passDays 40 = .ok (.iload_n 3, 1) := by decide +kernel
theorem dX10_passDays_41 : decode cX10_passDays 41 = .ok (.iload 5, 2) := by decide +kernel
theorem dX10_passDays_43 : decode cX10_passDays 43 = .ok (.iconst (-1), 1) := by decide +kernel
theorem dX10_passDays_44 : decode cX10_passDays 44 = .ok (.if_icmp .ne 7, 3) := by decide +kernel
theorem dX10_passDays_47 : decode cX10_passDays 47 = .ok (.iconst 1, 1) := by decide +kernel
theorem dX10_passDays_48 : decode cX10_passDays 48 = .ok (.goto 4, 3) := by decide +kernel
theorem dX10_passDays_51 : decode cX10_passDays 51 = .ok (.iconst 0, 1) := by decide +kernel
theorem dX10_passDays_52 : decode cX10_passDays 52 = .ok (.iadd, 1) := by decide +kernel
theorem dX10_passDays_53 : decode cX10_passDays 53 = .ok (.istore_n 3, 1) := by decide +kernel
theorem dX10_passDays_54 : decode cX10_passDays 54 = .ok (.iinc 4 1, 3) := by decide +kernel
theorem dX10_passDays_57 : decode cX10_passDays 57 = .ok (.goto (-38), 3) := by decide +kernel
theorem dX10_passDays_60 : decode cX10_passDays 60 = .ok (.aload_n 0, 1) := by decide +kernel
theorem dX10_passDays_61 : decode cX10_passDays 61 = .ok (.getfield 19, 3) := by decide +kernel
theorem dX10_passDays_64 : decode cX10_passDays 64 = .ok (.iload_n 2, 1) := by decide +kernel
theorem dX10_passDays_65 : decode cX10_passDays 65 = .ok (.i2l, 1) := by decide +kernel
theorem dX10_passDays_66 : decode cX10_passDays 66 = .ok (.iload_n 3, 1) := by decide +kernel
theorem dX10_passDays_67 : decode cX10_passDays 67 = .ok (.i2l, 1) := by decide +kernel
theorem dX10_passDays_68 : decode cX10_passDays 68 = .ok (.invokevirtual 242, 3) := by decide +kernel
theorem dX10_passDays_71 : decode cX10_passDays 71 = .ok (.aload_n 0, 1) := by decide +kernel
theorem dX10_passDays_72 : decode cX10_passDays 72 = .ok (.getfield 46, 3) := by decide +kernel
theorem dX10_passDays_75 : decode cX10_passDays 75 = .ok (.getfield 288, 3) := by decide +kernel
theorem dX10_passDays_78 : decode cX10_passDays 78 = .ok (.ireturn, 1) := by decide +kernel
theorem s_X10_passDays_19 {l1_6 : Int} {q : Int × xW} {k : Int → Int → Int → xW → Option (Int × xW)} (hk : ∀ (l2_19 : Int) (l3_20 : Int) (l4_21 : Int) (s22 : xW), k l2_19 l3_20 l4_21 s22 = some q → xG 5 0 0 mX10_passDays 60 [vR 0, vI l1_6, vI l2_19, vI l3_20, vI l4_21, vX] [] 155 s22 (xRv (vI q.1) q.2)) : ∀ (f : Nat) (l2_7 : Int) (l3_8 : Int) (l4_9 : Int) (s10 : xW), F_X10_passDays_19 l1_6 f l2_7 l3_8 l4_9 s10 k = some q → xG 5 0 0 mX10_passDays 19 [vR 0, vI l1_6, vI l2_7, vI l3_8, vI l4_9, vX] [] 155 s10 (xRv (vI q.1) q.2) := by
  intro f
  induction f with
  | zero => intro l2_7 l3_8 l4_9 s10 h; cases h
  | succ f ih =>
    intro l2_7 l3_8 l4_9 s10 h
    unfold F_X10_passDays_19 at h
    refine g_il dX10_passDays_19 rfl ?_
    refine g_iln dX10_passDays_21 rfl rfl ?_
    refine g_wge dX10_passDays_22 (tgt := 60) rfl rfl rfl (fun q11 => ?_) (fun q11 => ?_)
    · replace h := xif_f q11 h
      exact hk l2_7 l3_8 l4_9 s10 h
    · replace h := xif_t q11 h
      refine g_aln dX10_passDays_25 rfl rfl (by decide) ?_
      obtain ⟨r13, s14, e12, h⟩ := xbd_e h
      refine g_cV0v dX10_passDays_26 ml_X10_389 rfl (s_X10_passDay e12) (by decide) rfl ?_
      refine g_ist_5 dX10_passDays_29 (by decide) rfl ?_
      refine g_iln dX10_passDays_31 rfl rfl ?_
      refine g_il dX10_passDays_32 rfl ?_
      refine g_ic dX10_passDays_34 ?_
      refine g_wmax dX10_passDays_35 mx_X10_392 rfl (xw_id (by decide)) (by decide) rfl ?_
      refine g_iadd dX10_passDays_38 ?_
      refine g_istn_2 dX10_passDays_39 (by decide) rfl ?_
      refine g_iln dX10_passDays_40 rfl rfl ?_
      refine g_il dX10_passDays_41 rfl ?_
      refine g_ic dX10_passDays_43 ?_
      obtain ⟨v16, e17, h⟩ := xlt_e h
      have hj18 : xG 5 0 0 mX10_passDays 52 [vR 0, vI l1_6, vI (l2_7 + (max (xw r13) 0)), vX, vI l4_9, vX] [vI v16, vI l3_8] 155 s14 (xRv (vI q.1) q.2) := by
        refine g_iadd dX10_passDays_52 ?_
        refine g_istn_3 dX10_passDays_53 (by decide) rfl ?_
        refine g_inc_4 dX10_passDays_54 (by decide) rfl ?_
        refine g_goto dX10_passDays_57 (tgt := 19) rfl ?_
        exact ih (l2_7 + (max (xw r13) 0)) (l3_8 + v16) (l4_9 + 1) s14 h
      refine g_wne dX10_passDays_44 (tgt := 51) rfl rfl (xw_id (by decide)) (fun c15 => ?_) (fun c15 => ?_)
      · skip
        refine g_ic dX10_passDays_51 ?_
        refine g_drop_3 ?_
        refine g_drop_5 ?_
        exact g_vq ((if_neg c15).symm.trans e17) hj18
      · skip
        refine g_ic dX10_passDays_47 ?_
        refine g_goto dX10_passDays_48 (tgt := 52) rfl ?_
        refine g_drop_3 ?_
        refine g_drop_5 ?_
        exact g_vq ((if_pos c15).symm.trans e17) hj18
theorem s_X10_passDays {a1 : Int} {s0 : xW} {q : Int × xW} (h : F_X10_passDays a1 s0 = some q) : xC 5 0 0 mX10_passDays [vR 0, vI a1] 155 s0 (xRv (vI q.1) q.2) := by
  refine xC.of [vR 0, vI a1, vX, vX, vX, vX] (by decide +kernel) (Nat.le_of_ble_eq_true rfl) rfl ?_
  unfold F_X10_passDays at h
  refine g_iln dX10_passDays_0 rfl rfl ?_
  obtain ⟨j1, ej2, h⟩ := xjn_e h
  have hj3 : j1  = some q → xG 5 0 0 mX10_passDays 10 [vX, vX, vX, vX, vX, vX] [] 155 s0 (xRv (vI q.1) q.2) := by
    intro  h
    rw [ej2] at h
    refine g_ic dX10_passDays_10 ?_
    exact g_rI rfl dX10_passDays_11 h
  clear ej2
  refine g_ylt dX10_passDays_1 (tgt := 10) rfl rfl (fun q4 => ?_) (fun q4 => ?_)
  · replace h := xif_f q4 h
    refine g_drop_0 ?_
    refine g_drop_1 ?_
    exact hj3  h
  · replace h := xif_t q4 h
    refine g_iln dX10_passDays_4 rfl rfl ?_
    refine g_bi dX10_passDays_5 (by decide) ?_
    refine g_wle dX10_passDays_7 (tgt := 12) rfl rfl (xw_id (by decide)) (fun q5 => ?_) (fun q5 => ?_)
    · replace h := xif_f q5 h
      refine g_ic dX10_passDays_12 ?_
      refine g_istn_2 dX10_passDays_13 (by decide) rfl ?_
      refine g_ic dX10_passDays_14 ?_
      refine g_istn_3 dX10_passDays_15 (by decide) rfl ?_
      refine g_ic dX10_passDays_16 ?_
      refine g_ist_4 dX10_passDays_17 (by decide) rfl ?_
      refine s_X10_passDays_19 (fun l2_23 l3_24 l4_25 s26 h => ?_) xN _ _ _ _ h
      refine g_aln dX10_passDays_60 rfl rfl (by decide) ?_
      refine g_getC 3 dX10_passDays_61 fl_X10_19 rfl (by decide) ?_
      refine g_iln dX10_passDays_64 rfl rfl ?_
      refine g_wi2l dX10_passDays_65 rfl ?_
      refine g_iln dX10_passDays_66 rfl rfl ?_
      refine g_wi2l dX10_passDays_67 rfl ?_
      obtain ⟨s28, e27, h⟩ := xbp_e h
      refine g_cV20 dX10_passDays_68 ml_X10_242 rfl (s_X6_tell_ e27) (by decide) rfl ?_
      refine g_aln dX10_passDays_71 rfl rfl (by decide) ?_
      refine g_getC 17 dX10_passDays_72 fl_X10_46 rfl (by decide) ?_
      refine g_getI 2 dX10_passDays_75 fl_X10_288 rfl rfl ?_
      exact g_rI rfl dX10_passDays_78 h
    · replace h := xif_t q5 h
      refine g_drop_0 ?_
      refine g_drop_1 ?_
      exact hj3  h
theorem dX10_days_0 : decode cX10_days 0 = .ok (.aload_n 0, 1) := by decide +kernel
theorem dX10_days_1 : decode cX10_days 1 = .ok (.getfield 53, 3) := by decide +kernel
theorem dX10_days_4 : decode cX10_days 4 = .ok (.aload_n 0, 1) := by decide +kernel
theorem dX10_days_5 : decode cX10_days 5 = .ok (.getfield 46, 3) := by decide +kernel
theorem dX10_days_8 : decode cX10_days 8 = .ok (.invokevirtual 198, 3) := by decide +kernel
theorem dX10_days_11 : decode cX10_days 11 = .ok (.aload_n 0, 1) := by decide +kernel
theorem dX10_days_12 : decode cX10_days 12 = .ok (.aload_n 0, 1) := by decide +kernel
theorem dX10_days_13 : decode cX10_days 13 = .ok (.iload_n 1, 1) := by decide +kernel
theorem dX10_days_14 : decode cX10_days 14 = .ok (.invokevirtual 202, 3) := by decide +kernel
theorem dX10_days_17 : decode cX10_days 17 = .ok (.invokevirtual 205, 3) := by decide +kernel
theorem dX10_days_20 : decode cX10_days 20 = .ok (.ireturn, 1) := by decide +kernel
theorem s_X10_days {a1 : Int} {s0 : xW} {q : Int × xW} (h : F_X10_days a1 s0 = some q) : xC 6 0 0 mX10_days [vR 0, vI a1] 155 s0 (xRv (vI q.1) q.2) := by
  refine xC.of [vR 0, vI a1] (by decide +kernel) (Nat.le_of_ble_eq_true rfl) rfl ?_
  unfold F_X10_days at h
  refine g_aln dX10_days_0 rfl rfl (by decide) ?_
  refine g_getC 21 dX10_days_1 fl_X10_53 rfl (by decide) ?_
  refine g_aln dX10_days_4 rfl rfl (by decide) ?_
  refine g_getC 17 dX10_days_5 fl_X10_46 rfl (by decide) ?_
  obtain ⟨s2, e1, h⟩ := xbp_e h
  refine g_cV10 dX10_days_8 ml_X10_198 rfl (s_X3_note e1) (by decide) rfl ?_
  refine g_aln dX10_days_11 rfl rfl (by decide) ?_
  refine g_aln dX10_days_12 rfl rfl (by decide) ?_
  refine g_iln dX10_days_13 rfl rfl ?_
  obtain ⟨r4, s5, e3, h⟩ := xbd_e h
  refine g_cV1v dX10_days_14 ml_X10_202 rfl (s_X10_passDays e3) (by decide) rfl ?_
  obtain ⟨r7, s8, e6, h⟩ := xbd_e h
  refine g_cV1v dX10_days_17 ml_X10_205 rfl (s_X10_noted e6) (by decide) rfl ?_
  exact g_rI rfl dX10_days_20 h
theorem dX10_isDeed_0 : decode cX10_isDeed 0 = .ok (.iload_n 1, 1) := by decide +kernel
theorem dX10_isDeed_1 : decode cX10_isDeed 1 = .ok (.ifCond .lt 18, 3) := by decide +kernel
theorem dX10_isDeed_4 : decode cX10_isDeed 4 = .ok (.iload_n 1, 1) := by decide +kernel
theorem dX10_isDeed_5 : decode cX10_isDeed 5 = .ok (.aload_n 0, 1) := by decide +kernel
theorem dX10_isDeed_6 : decode cX10_isDeed 6 = .ok (.getfield 75, 3) := by decide +kernel
theorem dX10_isDeed_9 : decode cX10_isDeed 9 = .ok (.getfield 131, 3) := by decide +kernel
theorem dX10_isDeed_12 : decode cX10_isDeed 12 = .ok (.if_icmp .ge 7, 3) := by decide +kernel
theorem dX10_isDeed_15 : decode cX10_isDeed 15 = .ok (.iconst 1, 1) := by decide +kernel
theorem dX10_isDeed_16 : decode cX10_isDeed 16 = .ok (.goto 4, 3) := by decide +kernel
theorem dX10_isDeed_19 : decode cX10_isDeed 19 = .ok (.iconst 0, 1) := by decide +kernel
theorem dX10_isDeed_20 : decode cX10_isDeed 20 = .ok (.ireturn, 1) := by decide +kernel
theorem s_X10_isDeed {a1 : Int} {s0 : xW} {q : Int} (h : F_X10_isDeed a1 s0 = some q) : xC 0 0 0 mX10_isDeed [vR 0, vI a1] 155 s0 (xRv (vI q) s0) := by
  refine xC.of [vR 0, vI a1] (by decide +kernel) (Nat.le_of_ble_eq_true rfl) rfl ?_
  unfold F_X10_isDeed at h
  refine g_iln dX10_isDeed_0 rfl rfl ?_
  obtain ⟨v3, e4, h⟩ := xlt_e h
  have hj5 : xG 0 0 0 mX10_isDeed 20 [vX, vX] [vI v3] 155 s0 (xRv (vI q) s0) := by
    obtain ⟨hg6, h⟩ := xgd_e h
    exact g_pZ rfl dX10_isDeed_20 hg6 h
  refine g_ylt dX10_isDeed_1 (tgt := 19) rfl rfl (fun c1 => ?_) (fun c1 => ?_)
  · skip
    refine g_ic dX10_isDeed_19 ?_
    refine g_drop_0 ?_
    refine g_drop_1 ?_
    exact g_vq ((if_neg c1).symm.trans e4) hj5
  · skip
    refine g_iln dX10_isDeed_4 rfl rfl ?_
    refine g_aln dX10_isDeed_5 rfl rfl (by decide) ?_
    refine g_getC 92 dX10_isDeed_6 fl_X10_75 rfl (by decide) ?_
    refine g_getI 0 dX10_isDeed_9 fl_X10_131 rfl rfl ?_
    refine g_wge dX10_isDeed_12 (tgt := 19) rfl rfl rfl (fun c2 => ?_) (fun c2 => ?_)
    · skip
      refine g_ic dX10_isDeed_19 ?_
      refine g_drop_0 ?_
      refine g_drop_1 ?_
      exact g_vq (((if_pos c1).trans (if_neg c2)).symm.trans e4) hj5
    · skip
      refine g_ic dX10_isDeed_15 ?_
      refine g_goto dX10_isDeed_16 (tgt := 20) rfl ?_
      refine g_drop_0 ?_
      refine g_drop_1 ?_
      exact g_vq (((if_pos c1).trans (if_pos c2)).symm.trans e4) hj5
theorem dX4_foes_0 : decode cX4_foes 0 = .ok (.iconst 0, 1) := by decide +kernel
theorem dX4_foes_1 : decode cX4_foes 1 = .ok (.istore_n 2, 1) := by decide +kernel
theorem dX4_foes_2 : decode cX4_foes 2 = .ok (.iconst 0, 1) := by decide +kernel
theorem dX4_foes_3 : decode cX4_foes 3 = .ok (.istore_n 3, 1) := by decide +kernel
theorem dX4_foes_4 : decode cX4_foes 4 = .ok (.iload_n 3, 1) := by decide +kernel
theorem dX4_foes_5 : decode cX4_foes 5 = .ok (.aload_n 0, 1) := by decide +kernel
theorem dX4_foes_6 : decode cX4_foes 6 = .ok (.getfield 9, 3) := by decide +kernel
theorem dX4_foes_9 : decode cX4_foes 9 = .ok (.if_icmp .ge 28, 3) := by decide +kernel
theorem dX4_foes_12 : decode cX4_foes 12 = .ok (.iload_n 2, 1) := by decide +kernel
theorem dX4_foes_13 : decode cX4_foes 13 = .ok (.aload_n 0, 1) := by decide +kernel
theorem dX4_foes_14 : decode cX4_foes 14 = .ok (.iload_n 1, 1) := by decide +kernel
theorem dX4_foes_15 : decode cX4_foes 15 = .ok (.iload_n 3, 1) := by decide +kernel
theorem dX4_foes_16 : decode cX4_foes 16 = .ok (.invokevirtual 37, 3) := by decide +kernel
theorem dX4_foes_19 : decode cX4_foes 19 = .ok (.ifCond .eq 9, 3) := by decide +kernel
theorem dX4_foes_22 : decode cX4_foes 22 = .ok (.iconst 1, 1) := by decide +kernel
theorem dX4_foes_23 : decode cX4_foes 23 = .ok (.iload_n 3, 1) := by decide +kernel
theorem dX4_foes_24 : decode cX4_foes 24 = .ok (.ishl, 1) := by decide +kernel
theorem dX4_foes_25 : decode cX4_foes 25 = .ok (.goto 4, 3) := by decide +kernel
theorem dX4_foes_28 : decode cX4_foes 28 = .ok (.iconst 0, 1) := by decide +kernel
theorem dX4_foes_29 : decode cX4_foes 29 = .ok (.ior, 1) := by decide +kernel
theorem dX4_foes_30 : decode cX4_foes 30 = .ok (.istore_n 2, 1) := by decide +kernel
theorem dX4_foes_31 : decode cX4_foes 31 = .ok (.iinc 3 1, 3) := by decide +kernel
theorem dX4_foes_34 : decode cX4_foes 34 = .ok (.goto (-30), 3) := by decide +kernel
theorem dX4_foes_37 : decode cX4_foes 37 = .ok (.iload_n 2, 1) := by decide +kernel
theorem dX4_foes_38 : decode cX4_foes 38 = .ok (.ireturn, 1) := by decide +kernel
theorem s_X4_foes_4 {s4 : xW} {l1_1 : Int} {q : Int} {k : Int → Int → Option (Int)} (hk : ∀ (l2_12 : Int) (l3_13 : Int), k l2_12 l3_13 = some q → xG 1 0 0 mX4_foes 37 [vR 92, vI l1_1, vI l2_12, vI l3_13] [] 155 s4 (xRv (vI q) s4)) : ∀ (f : Nat) (l2_2 : Int) (l3_3 : Int), F_X4_foes_4 l1_1 s4 f l2_2 l3_3 k = some q → xG 1 0 0 mX4_foes 4 [vR 92, vI l1_1, vI l2_2, vI l3_3] [] 155 s4 (xRv (vI q) s4) := by
  intro f
  induction f with
  | zero => intro l2_2 l3_3 h; cases h
  | succ f ih =>
    intro l2_2 l3_3 h
    unfold F_X4_foes_4 at h
    refine g_iln dX4_foes_4 rfl rfl ?_
    refine g_aln dX4_foes_5 rfl rfl (by decide) ?_
    refine g_getI 0 dX4_foes_6 fl_X4_9 rfl rfl ?_
    refine g_wge dX4_foes_9 (tgt := 37) rfl rfl rfl (fun q5 => ?_) (fun q5 => ?_)
    · replace h := xif_f q5 h
      exact hk l2_2 l3_3 h
    · replace h := xif_t q5 h
      refine g_iln dX4_foes_12 rfl rfl ?_
      refine g_aln dX4_foes_13 rfl rfl (by decide) ?_
      refine g_iln dX4_foes_14 rfl rfl ?_
      refine g_iln dX4_foes_15 rfl rfl ?_
      obtain ⟨r7, e6, h⟩ := xbp_e h
      refine g_cV2v dX4_foes_16 ml_X4_37 rfl (s_X4_collide e6) (by decide) rfl ?_
      obtain ⟨v9, e10, h⟩ := xlt_e h
      have hj11 : xG 1 0 0 mX4_foes 29 [vR 92, vI l1_1, vX, vI l3_3] [vI v9, vI l2_2] 155 s4 (xRv (vI q) s4) := by
        refine g_ior dX4_foes_29 ?_
        refine g_istn_2 dX4_foes_30 (by decide) rfl ?_
        refine g_inc_3 dX4_foes_31 (by decide) rfl ?_
        refine g_goto dX4_foes_34 (tgt := 4) rfl ?_
        exact ih (xor' l2_2 v9) (l3_3 + 1) h
      refine g_yeq dX4_foes_19 (tgt := 28) rfl rfl (fun c8 => ?_) (fun c8 => ?_)
      · skip
        refine g_ic dX4_foes_28 ?_
        refine g_drop_2 ?_
        exact g_vq ((if_neg c8).symm.trans e10) hj11
      · skip
        refine g_ic dX4_foes_22 ?_
        refine g_iln dX4_foes_23 rfl rfl ?_
        refine g_ishl dX4_foes_24 ?_
        refine g_goto dX4_foes_25 (tgt := 29) rfl ?_
        refine g_drop_2 ?_
        exact g_vq ((if_pos c8).symm.trans e10) hj11
theorem s_X4_foes {a1 : Int} {s0 : xW} {q : Int} (h : F_X4_foes a1 s0 = some q) : xC 1 0 0 mX4_foes [vR 92, vI a1] 155 s0 (xRv (vI q) s0) := by
  refine xC.of [vR 92, vI a1, vX, vX] (by decide +kernel) (Nat.le_of_ble_eq_true rfl) rfl ?_
  unfold F_X4_foes at h
  refine g_ic dX4_foes_0 ?_
  refine g_istn_2 dX4_foes_1 (by decide) rfl ?_
  refine g_ic dX4_foes_2 ?_
  refine g_istn_3 dX4_foes_3 (by decide) rfl ?_
  refine s_X4_foes_4 (fun l2_14 l3_15 h => ?_) xN _ _ h
  refine g_iln dX4_foes_37 rfl rfl ?_
  exact g_pI rfl dX4_foes_38 h
theorem dX10_deed_0 : decode cX10_deed 0 = .ok (.aload_n 0, 1) := by decide +kernel
theorem dX10_deed_1 : decode cX10_deed 1 = .ok (.iload_n 1, 1) := by decide +kernel
theorem dX10_deed_2 : decode cX10_deed 2 = .ok (.invokevirtual 168, 3) := by decide +kernel
theorem dX10_deed_5 : decode cX10_deed 5 = .ok (.ifCond .eq 12, 3) := by decide +kernel
theorem dX10_deed_8 : decode cX10_deed 8 = .ok (.iload_n 2, 1) := by decide +kernel
theorem dX10_deed_9 : decode cX10_deed 9 = .ok (.ifCond .lt 8, 3) := by decide +kernel
theorem dX10_deed_12 : decode cX10_deed 12 = .ok (.iload_n 2, 1) := by decide +kernel
theorem dX10_deed_13 : decode cX10_deed 13 = .ok (.iconst 4, 1) := by decide +kernel
theorem dX10_deed_14 : decode cX10_deed 14 = .ok (.if_icmp .le 13, 3) := by decide +kernel
theorem dX10_deed_17 : decode cX10_deed 17 = .ok (.new 145, 3) := by decide +kernel
theorem dX10_deed_20 : decode cX10_deed 20 = .ok (.dup, 1) := by decide +kernel
theorem dX10_deed_21 : decode cX10_deed 21 = .ok (.ldc 171, 2) := by decide +kernel
theorem dX10_deed_23 : decode cX10_deed 23 = .ok (.invokespecial 149, 3) := by decide +kernel
theorem dX10_deed_26 : decode cX10_deed 26 = .ok (.athrow, 1) := by decide +kernel
theorem dX10_deed_27 : decode cX10_deed 27 = .ok (.aload_n 0, 1) := by decide +kernel
theorem dX10_deed_28 : decode cX10_deed 28 = .ok (.invokevirtual 173, 3) := by decide +kernel
theorem dX10_deed_31 : decode cX10_deed 31 = .ok (.iload_n 2, 1) := by decide +kernel
theorem dX10_deed_32 : decode cX10_deed 32 = .ok (.tableswitch 72 0 3 #[32, 42, 52, 62], 32) := by decide +kernel
theorem dX10_deed_64 : decode cX10_deed 64 = .ok (.aload_n 0, 1) := by decide +kernel
theorem dX10_deed_65 : decode cX10_deed 65 = .ok (.getfield 75, 3) := by decide +kernel
theorem dX10_deed_68 : decode cX10_deed 68 = .ok (.getfield 176, 3) := by decide +kernel
theorem dX10_deed_71 : decode cX10_deed 71 = .ok (.iload_n 1, 1) := by decide +kernel
theorem dX10_deed_72 : decode cX10_deed 72 = .ok (.iaload, 1) := by decide +kernel
theorem dX10_deed_73 : decode cX10_deed 73 = .ok (.ireturn, 1) := by decide +kernel
theorem dX10_deed_74 : decode cX10_deed 74 = .ok (.aload_n 0, 1) := by decide +kernel
theorem dX10_deed_75 : decode cX10_deed 75 = .ok (.getfield 46, 3) := by decide +kernel
theorem dX10_deed_78 : decode cX10_deed 78 = .ok (.getfield 179, 3) := by decide +kernel
theorem dX10_deed_81 : decode cX10_deed 81 = .ok (.iload_n 1, 1) := by decide +kernel
theorem dX10_deed_82 : decode cX10_deed 82 = .ok (.iaload, 1) := by decide +kernel
theorem dX10_deed_83 : decode cX10_deed 83 = .ok (.ireturn, 1) := by decide +kernel
theorem dX10_deed_84 : decode cX10_deed 84 = .ok (.aload_n 0, 1) := by decide +kernel
theorem dX10_deed_85 : decode cX10_deed 85 = .ok (.getfield 75, 3) := by decide +kernel
theorem dX10_deed_88 : decode cX10_deed 88 = .ok (.getfield 182, 3) := by decide +kernel
theorem dX10_deed_91 : decode cX10_deed 91 = .ok (.iload_n 1, 1) := by decide +kernel
theorem dX10_deed_92 : decode cX10_deed 92 = .ok (.iaload, 1) := by decide +kernel
theorem dX10_deed_93 : decode cX10_deed 93 = .ok (.ireturn, 1) := by decide +kernel
theorem dX10_deed_94 : decode cX10_deed 94 = .ok (.aload_n 0, 1) := by decide +kernel
theorem dX10_deed_95 : decode cX10_deed 95 = .ok (.getfield 75, 3) := by decide +kernel
theorem dX10_deed_98 : decode cX10_deed 98 = .ok (.getfield 185, 3) := by decide +kernel
theorem dX10_deed_101 : decode cX10_deed 101 = .ok (.iload_n 1, 1) := by decide +kernel
theorem dX10_deed_102 : decode cX10_deed 102 = .ok (.iaload, 1) := by decide +kernel
theorem dX10_deed_103 : decode cX10_deed 103 = .ok (.ireturn, 1) := by decide +kernel
theorem dX10_deed_104 : decode cX10_deed 104 = .ok (.aload_n 0, 1) := by decide +kernel
theorem dX10_deed_105 : decode cX10_deed 105 = .ok (.getfield 75, 3) := by decide +kernel
theorem dX10_deed_108 : decode cX10_deed 108 = .ok (.iload_n 1, 1) := by decide +kernel
theorem dX10_deed_109 : decode cX10_deed 109 = .ok (.invokevirtual 188, 3) := by decide +kernel
theorem dX10_deed_112 : decode cX10_deed 112 = .ok (.ireturn, 1) := by decide +kernel
theorem s_X10_deed {a1 a2 : Int} {s0 : xW} {q : Int × xW} (h : F_X10_deed a1 a2 s0 = some q) : xC 5 0 0 mX10_deed [vR 0, vI a1, vI a2] 155 s0 (xRv (vI q.1) q.2) := by
  refine xC.of [vR 0, vI a1, vI a2] (by decide +kernel) (Nat.le_of_ble_eq_true rfl) rfl ?_
  unfold F_X10_deed at h
  refine g_aln dX10_deed_0 rfl rfl (by decide) ?_
  refine g_iln dX10_deed_1 rfl rfl ?_
  obtain ⟨r2, e1, h⟩ := xbp_e h
  refine g_cV1v dX10_deed_2 ml_X10_168 rfl (s_X10_isDeed e1) (by decide) rfl ?_
  obtain ⟨j3, ej4, h⟩ := xjn_e h
  have hj5 : j3  = some q → xG 5 0 0 mX10_deed 17 [vX, vX, vX] [] 155 s0 (xRv (vI q.1) q.2) := by
    intro  h
    rw [ej4] at h
    cases h
  clear ej4
  refine g_yeq dX10_deed_5 (tgt := 17) rfl rfl (fun q6 => ?_) (fun q6 => ?_)
  · replace h := xif_f q6 h
    refine g_drop_0 ?_
    refine g_drop_1 ?_
    refine g_drop_2 ?_
    exact hj5  h
  · replace h := xif_t q6 h
    refine g_iln dX10_deed_8 rfl rfl ?_
    refine g_ylt dX10_deed_9 (tgt := 17) rfl rfl (fun q7 => ?_) (fun q7 => ?_)
    · replace h := xif_f q7 h
      refine g_drop_0 ?_
      refine g_drop_1 ?_
      refine g_drop_2 ?_
      exact hj5  h
    · replace h := xif_t q7 h
      refine g_iln dX10_deed_12 rfl rfl ?_
      refine g_ic dX10_deed_13 ?_
      refine g_wle dX10_deed_14 (tgt := 27) rfl rfl (xw_id (by decide)) (fun q8 => ?_) (fun q8 => ?_)
      · replace h := xif_f q8 h
        refine g_aln dX10_deed_27 rfl rfl (by decide) ?_
        obtain ⟨s10, e9, h⟩ := xbp_e h
        refine g_cV00 dX10_deed_28 ml_X10_173 rfl (s_X10_planToday e9) (by decide) rfl ?_
        refine g_iln dX10_deed_31 rfl rfl ?_
        by_cases q11 : (xw a2) = 0
        · replace h := xif_t q11 h
          refine g_wtK dX10_deed_32 q11 (by decide) (off := 32) rfl (tgt := 64) rfl ?_
          refine g_aln dX10_deed_64 rfl rfl (by decide) ?_
          refine g_getC 92 dX10_deed_65 fl_X10_75 rfl (by decide) ?_
          refine g_getC 93 dX10_deed_68 fl_X10_176 rfl (by decide) ?_
          refine g_iln dX10_deed_71 rfl rfl ?_
          obtain ⟨hg12, h⟩ := xgd_e h
          refine g_iald 8 dX10_deed_72 rfl hg12 (by decide) ?_
          exact g_rI rfl dX10_deed_73 h
        replace h := xif_f q11 h
        by_cases q13 : (xw a2) = 1
        · replace h := xif_t q13 h
          refine g_wtK dX10_deed_32 q13 (by decide) (off := 42) rfl (tgt := 74) rfl ?_
          refine g_aln dX10_deed_74 rfl rfl (by decide) ?_
          refine g_getC 17 dX10_deed_75 fl_X10_46 rfl (by decide) ?_
          refine g_getC 20 dX10_deed_78 fl_X10_179 rfl (by decide) ?_
          refine g_iln dX10_deed_81 rfl rfl ?_
          obtain ⟨hg14, h⟩ := xgd_e h
          refine g_iald 8 dX10_deed_82 rfl hg14 (by decide) ?_
          exact g_rI rfl dX10_deed_83 h
        replace h := xif_f q13 h
        by_cases q15 : (xw a2) = 2
        · replace h := xif_t q15 h
          refine g_wtK dX10_deed_32 q15 (by decide) (off := 52) rfl (tgt := 84) rfl ?_
          refine g_aln dX10_deed_84 rfl rfl (by decide) ?_
          refine g_getC 92 dX10_deed_85 fl_X10_75 rfl (by decide) ?_
          refine g_getC 94 dX10_deed_88 fl_X10_182 rfl (by decide) ?_
          refine g_iln dX10_deed_91 rfl rfl ?_
          obtain ⟨hg16, h⟩ := xgd_e h
          refine g_iald 8 dX10_deed_92 rfl hg16 (by decide) ?_
          exact g_rI rfl dX10_deed_93 h
        replace h := xif_f q15 h
        by_cases q17 : (xw a2) = 3
        · replace h := xif_t q17 h
          refine g_wtK dX10_deed_32 q17 (by decide) (off := 62) rfl (tgt := 94) rfl ?_
          refine g_aln dX10_deed_94 rfl rfl (by decide) ?_
          refine g_getC 92 dX10_deed_95 fl_X10_75 rfl (by decide) ?_
          refine g_getC 95 dX10_deed_98 fl_X10_185 rfl (by decide) ?_
          refine g_iln dX10_deed_101 rfl rfl ?_
          obtain ⟨hg18, h⟩ := xgd_e h
          refine g_iald 8 dX10_deed_102 rfl hg18 (by decide) ?_
          exact g_rI rfl dX10_deed_103 h
        replace h := xif_f q17 h
        refine g_wtO dX10_deed_32 rfl (by omega) (tgt := 104) rfl ?_
        refine g_aln dX10_deed_104 rfl rfl (by decide) ?_
        refine g_getC 92 dX10_deed_105 fl_X10_75 rfl (by decide) ?_
        refine g_iln dX10_deed_108 rfl rfl ?_
        obtain ⟨r20, e19, h⟩ := xbp_e h
        refine g_cV1v dX10_deed_109 ml_X10_188 rfl (s_X4_foes e19) (by decide) rfl ?_
        exact g_rI rfl dX10_deed_112 h
      · replace h := xif_t q8 h
        refine g_drop_0 ?_
        refine g_drop_1 ?_
        refine g_drop_2 ?_
        exact hj5  h
theorem dX10_isHouse_0 : decode cX10_isHouse 0 = .ok (.iload_n 1, 1) := by decide +kernel
theorem dX10_isHouse_1 : decode cX10_isHouse 1 = .ok (.ifCond .lt 15, 3) := by decide +kernel
theorem dX10_isHouse_4 : decode cX10_isHouse 4 = .ok (.iload_n 1, 1) := by decide +kernel
theorem dX10_isHouse_5 : decode cX10_isHouse 5 = .ok (.aload_n 0, 1) := by decide +kernel
theorem dX10_isHouse_6 : decode cX10_isHouse 6 = .ok (.getfield 93, 3) := by decide +kernel
theorem dX10_isHouse_9 : decode cX10_isHouse 9 = .ok (.if_icmp .ge 7, 3) := by decide +kernel
theorem dX10_isHouse_12 : decode cX10_isHouse 12 = .ok (.iconst 1, 1) := by decide +kernel
theorem dX10_isHouse_13 : decode cX10_isHouse 13 = .ok (.goto 4, 3) := by decide +kernel
theorem dX10_isHouse_16 : decode cX10_isHouse 16 = .ok (.iconst 0, 1) := by decide +kernel
theorem dX10_isHouse_17 : decode cX10_isHouse 17 = .ok (.ireturn, 1) := by decide +kernel
theorem s_X10_isHouse {a1 : Int} {s0 : xW} {q : Int} (h : F_X10_isHouse a1 s0 = some q) : xC 0 0 0 mX10_isHouse [vR 0, vI a1] 155 s0 (xRv (vI q) s0) := by
  refine xC.of [vR 0, vI a1] (by decide +kernel) (Nat.le_of_ble_eq_true rfl) rfl ?_
  unfold F_X10_isHouse at h
  refine g_iln dX10_isHouse_0 rfl rfl ?_
  obtain ⟨v3, e4, h⟩ := xlt_e h
  have hj5 : xG 0 0 0 mX10_isHouse 17 [vX, vX] [vI v3] 155 s0 (xRv (vI q) s0) := by
    obtain ⟨hg6, h⟩ := xgd_e h
    exact g_pZ rfl dX10_isHouse_17 hg6 h
  refine g_ylt dX10_isHouse_1 (tgt := 16) rfl rfl (fun c1 => ?_) (fun c1 => ?_)
  · skip
    refine g_ic dX10_isHouse_16 ?_
    refine g_drop_0 ?_
    refine g_drop_1 ?_
    exact g_vq ((if_neg c1).symm.trans e4) hj5
  · skip
    refine g_iln dX10_isHouse_4 rfl rfl ?_
    refine g_aln dX10_isHouse_5 rfl rfl (by decide) ?_
    refine g_getI 14 dX10_isHouse_6 fl_X10_93 rfl rfl ?_
    refine g_wge dX10_isHouse_9 (tgt := 16) rfl rfl rfl (fun c2 => ?_) (fun c2 => ?_)
    · skip
      refine g_ic dX10_isHouse_16 ?_
      refine g_drop_0 ?_
      refine g_drop_1 ?_
      exact g_vq (((if_pos c1).trans (if_neg c2)).symm.trans e4) hj5
    · skip
      refine g_ic dX10_isHouse_12 ?_
      refine g_goto dX10_isHouse_13 (tgt := 17) rfl ?_
      refine g_drop_0 ?_
      refine g_drop_1 ?_
      exact g_vq (((if_pos c1).trans (if_pos c2)).symm.trans e4) hj5
