theorem dX7_valueOf_0 : decode cX7_valueOf 0 = .ok (.iload_n 0, 1) := by decide +kernel
theorem dX7_valueOf_1 : decode cX7_valueOf 1 = .ok (.sipush 1000, 3) := by decide +kernel
theorem dX7_valueOf_4 : decode cX7_valueOf 4 = .ok (.if_icmp .ge 5, 3) := by decide +kernel
theorem dX7_valueOf_7 : decode cX7_valueOf 7 = .ok (.iload_n 0, 1) := by decide +kernel
theorem dX7_valueOf_8 : decode cX7_valueOf 8 = .ok (.ireturn, 1) := by decide +kernel
theorem dX7_valueOf_9 : decode cX7_valueOf 9 = .ok (.iload_n 0, 1) := by decide +kernel
theorem dX7_valueOf_10 : decode cX7_valueOf 10 = .ok (.sipush 1000, 3) := by decide +kernel
theorem dX7_valueOf_13 : decode cX7_valueOf 13 = .ok (.isub, 1) := by decide +kernel
theorem dX7_valueOf_14 : decode cX7_valueOf 14 = .ok (.aload_n 1, 1) := by decide +kernel
theorem dX7_valueOf_15 : decode cX7_valueOf 15 = .ok (.arraylength, 1) := by decide +kernel
theorem dX7_valueOf_16 : decode cX7_valueOf 16 = .ok (.if_icmp .ge 13, 3) := by decide +kernel
theorem dX7_valueOf_19 : decode cX7_valueOf 19 = .ok (.aload_n 1, 1) := by decide +kernel
theorem dX7_valueOf_20 : decode cX7_valueOf 20 = .ok (.iload_n 0, 1) := by decide +kernel
theorem dX7_valueOf_21 : decode cX7_valueOf 21 = .ok (.sipush 1000, 3) := by decide +kernel
theorem dX7_valueOf_24 : decode cX7_valueOf 24 = .ok (.isub, 1) := by decide +kernel
theorem dX7_valueOf_25 : decode cX7_valueOf 25 = .ok (.iaload, 1) := by decide +kernel
theorem dX7_valueOf_26 : decode cX7_valueOf 26 = .ok (.goto 4, 3) := by decide +kernel
theorem dX7_valueOf_29 : decode cX7_valueOf 29 = .ok (.iconst 0, 1) := by decide +kernel
theorem dX7_valueOf_30 : decode cX7_valueOf 30 = .ok (.ireturn, 1) := by decide +kernel
theorem s_X7_valueOf {a0 : Int} {s0 : xW} {q : Int} (h : F_X7_valueOf a0 s0 = some q) : xC 0 0 0 mX7_valueOf [vI a0, vR 90] 155 s0 (xRv (vI q) s0) := by
  refine xC.of [vI a0, vR 90] (by decide +kernel) (Nat.le_of_ble_eq_true rfl) rfl ?_
  unfold F_X7_valueOf at h
  refine g_iln dX7_valueOf_0 rfl rfl ?_
  refine g_si dX7_valueOf_1 (by decide) ?_
  refine g_wge dX7_valueOf_4 (tgt := 9) rfl rfl (xw_id (by decide)) (fun q1 => ?_) (fun q1 => ?_)
  · replace h := xif_f q1 h
    refine g_iln dX7_valueOf_9 rfl rfl ?_
    refine g_si dX7_valueOf_10 (by decide) ?_
    refine g_isub dX7_valueOf_13 ?_
    refine g_aln dX7_valueOf_14 rfl rfl (by decide) ?_
    refine g_alen 1 7 dX7_valueOf_15 rfl (by decide) ?_
    obtain ⟨j3, ej4, h⟩ := xjn_e h
    have hj5 : ∀ (t2 : Int), j3 t2 = some q → xG 0 0 0 mX7_valueOf 30 [vX, vX] [vI t2] 155 s0 (xRv (vI q) s0) := by
      intro t2 h
      rw [ej4] at h
      exact g_pI rfl dX7_valueOf_30 h
    clear ej4
    refine g_wge dX7_valueOf_16 (tgt := 29) rfl rfl (xw_id (by decide)) (fun q6 => ?_) (fun q6 => ?_)
    · replace h := xif_f q6 h
      refine g_ic dX7_valueOf_29 ?_
      refine g_drop_0 ?_
      refine g_drop_1 ?_
      exact hj5 0 h
    · replace h := xif_t q6 h
      refine g_aln dX7_valueOf_19 rfl rfl (by decide) ?_
      refine g_iln dX7_valueOf_20 rfl rfl ?_
      refine g_si dX7_valueOf_21 (by decide) ?_
      refine g_isub dX7_valueOf_24 ?_
      obtain ⟨hg7, h⟩ := xgd_e h
      refine g_iald 7 dX7_valueOf_25 rfl hg7 (by decide) ?_
      refine g_goto dX7_valueOf_26 (tgt := 30) rfl ?_
      refine g_drop_0 ?_
      refine g_drop_1 ?_
      exact hj5 (s0 90 (a0 - 1000)) h
  · replace h := xif_t q1 h
    refine g_iln dX7_valueOf_7 rfl rfl ?_
    exact g_pI rfl dX7_valueOf_8 h
theorem dX7_reckon_0 : decode cX7_reckon 0 = .ok (.iload_n 0, 1) := by decide +kernel
theorem dX7_reckon_1 : decode cX7_reckon 1 = .ok (.lookupswitch 104 #[(42, 100), (43, 92), (45, 96), (60, 59), (61, 81), (62, 70)], 59) := by decide +kernel
theorem dX7_reckon_60 : decode cX7_reckon 60 = .ok (.iload_n 1, 1) := by decide +kernel
theorem dX7_reckon_61 : decode cX7_reckon 61 = .ok (.iload_n 2, 1) := by decide +kernel
theorem dX7_reckon_62 : decode cX7_reckon 62 = .ok (.if_icmp .ge 7, 3) := by decide +kernel
theorem dX7_reckon_65 : decode cX7_reckon 65 = .ok (.iconst 1, 1) := by decide +kernel
theorem dX7_reckon_66 : decode cX7_reckon 66 = .ok (.goto 4, 3) := by decide +kernel
theorem dX7_reckon_69 : decode cX7_reckon 69 = .ok (.iconst 0, 1) := by decide +kernel
theorem dX7_reckon_70 : decode cX7_reckon 70 = .ok (.ireturn, 1) := by decide +kernel
theorem dX7_reckon_71 : decode cX7_reckon 71 = .ok (.iload_n 1, 1) := by decide +kernel
theorem dX7_reckon_72 : decode cX7_reckon 72 = .ok (.iload_n 2, 1) := by decide +kernel
theorem dX7_reckon_73 : decode cX7_reckon 73 = .ok (.if_icmp .le 7, 3) := by decide +kernel
theorem dX7_reckon_76 : decode cX7_reckon 76 = .ok (.iconst 1, 1) := by decide +kernel
theorem dX7_reckon_77 : decode cX7_reckon 77 = .ok (.goto 4, 3) := by decide +kernel
theorem dX7_reckon_80 : decode cX7_reckon 80 = .ok (.iconst 0, 1) := by decide +kernel
theorem dX7_reckon_81 : decode cX7_reckon 81 = .ok (.ireturn, 1) := by decide +kernel
theorem dX7_reckon_82 : decode cX7_reckon 82 = .ok (.iload_n 1, 1) := by decide +kernel
theorem dX7_reckon_83 : decode cX7_reckon 83 = .ok (.iload_n 2, 1) := by decide +kernel
theorem dX7_reckon_84 : decode cX7_reckon 84 = .ok (.if_icmp .ne 7, 3) := by decide +kernel
theorem dX7_reckon_87 : decode cX7_reckon 87 = .ok (.iconst 1, 1) := by decide +kernel
theorem dX7_reckon_88 : decode cX7_reckon 88 = .ok (.goto 4, 3) := by decide +kernel
theorem dX7_reckon_91 : decode cX7_reckon 91 = .ok (.iconst 0, 1) := by decide +kernel
theorem dX7_reckon_92 : decode cX7_reckon 92 = .ok (.ireturn, 1) := by decide +kernel
theorem dX7_reckon_93 : decode cX7_reckon 93 = .ok (.iload_n 1, 1) := by decide +kernel
theorem dX7_reckon_94 : decode cX7_reckon 94 = .ok (.iload_n 2, 1) := by decide +kernel
theorem dX7_reckon_95 : decode cX7_reckon 95 = .ok (.iadd, 1) := by decide +kernel
theorem dX7_reckon_96 : decode cX7_reckon 96 = .ok (.ireturn, 1) := by decide +kernel
theorem dX7_reckon_97 : decode cX7_reckon 97 = .ok (.iload_n 1, 1) := by decide +kernel
theorem dX7_reckon_98 : decode cX7_reckon 98 = .ok (.iload_n 2, 1) := by decide +kernel
theorem dX7_reckon_99 : decode cX7_reckon 99 = .ok (.isub, 1) := by decide +kernel
theorem dX7_reckon_100 : decode cX7_reckon 100 = .ok (.ireturn, 1) := by decide +kernel
theorem dX7_reckon_101 : decode cX7_reckon 101 = .ok (.iload_n 1, 1) := by decide +kernel
theorem dX7_reckon_102 : decode cX7_reckon 102 = .ok (.iload_n 2, 1) := by decide +kernel
theorem dX7_reckon_103 : decode cX7_reckon 103 = .ok (.imul, 1) := by decide +kernel
theorem dX7_reckon_104 : decode cX7_reckon 104 = .ok (.ireturn, 1) := by decide +kernel
theorem dX7_reckon_105 : decode cX7_reckon 105 = .ok (.iload_n 2, 1) := by decide +kernel
theorem dX7_reckon_106 : decode cX7_reckon 106 = .ok (.ifCond .ne 7, 3) := by decide +kernel
theorem dX7_reckon_109 : decode cX7_reckon 109 = .ok (.iconst 0, 1) := by decide +kernel
theorem dX7_reckon_110 : decode cX7_reckon 110 = .ok (.goto 6, 3) := by decide +kernel
theorem dX7_reckon_113 : decode cX7_reckon 113 = .ok (.iload_n 1, 1) := by decide +kernel
theorem dX7_reckon_114 : decode cX7_reckon 114 = .ok (.iload_n 2, 1) := by decide +kernel
theorem dX7_reckon_115 : decode cX7_reckon 115 = .ok (.idiv, 1) := by decide +kernel
theorem dX7_reckon_116 : decode cX7_reckon 116 = .ok (.ireturn, 1) := by decide +kernel
theorem s_X7_reckon {a0 a1 a2 : Int} {s0 : xW} {q : Int} (h : F_X7_reckon a0 a1 a2 s0 = some q) : xC 0 0 0 mX7_reckon [vI a0, vI a1, vI a2] 155 s0 (xRv (vI q) s0) := by
  refine xC.of [vI a0, vI a1, vI a2] (by decide +kernel) (Nat.le_of_ble_eq_true rfl) rfl ?_
  unfold F_X7_reckon at h
  refine g_iln dX7_reckon_0 rfl rfl ?_
  by_cases q1 : (xw a0) = 42
  · replace h := xif_t q1 h
    refine g_wlK dX7_reckon_1 q1 (by decide) (off := 100) (by decide) (tgt := 101) rfl ?_
    refine g_iln dX7_reckon_101 rfl rfl ?_
    refine g_iln dX7_reckon_102 rfl rfl ?_
    refine g_imul dX7_reckon_103 ?_
    exact g_pI rfl dX7_reckon_104 h
  replace h := xif_f q1 h
  by_cases q2 : (xw a0) = 43
  · replace h := xif_t q2 h
    refine g_wlK dX7_reckon_1 q2 (by decide) (off := 92) (by decide) (tgt := 93) rfl ?_
    refine g_iln dX7_reckon_93 rfl rfl ?_
    refine g_iln dX7_reckon_94 rfl rfl ?_
    refine g_iadd dX7_reckon_95 ?_
    exact g_pI rfl dX7_reckon_96 h
  replace h := xif_f q2 h
  by_cases q3 : (xw a0) = 45
  · replace h := xif_t q3 h
    refine g_wlK dX7_reckon_1 q3 (by decide) (off := 96) (by decide) (tgt := 97) rfl ?_
    refine g_iln dX7_reckon_97 rfl rfl ?_
    refine g_iln dX7_reckon_98 rfl rfl ?_
    refine g_isub dX7_reckon_99 ?_
    exact g_pI rfl dX7_reckon_100 h
  replace h := xif_f q3 h
  by_cases q4 : (xw a0) = 60
  · replace h := xif_t q4 h
    refine g_wlK dX7_reckon_1 q4 (by decide) (off := 59) (by decide) (tgt := 60) rfl ?_
    refine g_iln dX7_reckon_60 rfl rfl ?_
    refine g_iln dX7_reckon_61 rfl rfl ?_
    obtain ⟨v6, e7, h⟩ := xlt_e h
    have hj8 : xG 0 0 0 mX7_reckon 70 [vX, vX, vX] [vI v6] 155 s0 (xRv (vI q) s0) := by
      exact g_pI rfl dX7_reckon_70 h
    refine g_wge dX7_reckon_62 (tgt := 69) rfl rfl rfl (fun c5 => ?_) (fun c5 => ?_)
    · skip
      refine g_ic dX7_reckon_69 ?_
      refine g_drop_0 ?_
      refine g_drop_1 ?_
      refine g_drop_2 ?_
      exact g_vq ((if_neg c5).symm.trans e7) hj8
    · skip
      refine g_ic dX7_reckon_65 ?_
      refine g_goto dX7_reckon_66 (tgt := 70) rfl ?_
      refine g_drop_0 ?_
      refine g_drop_1 ?_
      refine g_drop_2 ?_
      exact g_vq ((if_pos c5).symm.trans e7) hj8
  replace h := xif_f q4 h
  by_cases q9 : (xw a0) = 61
  · replace h := xif_t q9 h
    refine g_wlK dX7_reckon_1 q9 (by decide) (off := 81) (by decide) (tgt := 82) rfl ?_
    refine g_iln dX7_reckon_82 rfl rfl ?_
    refine g_iln dX7_reckon_83 rfl rfl ?_
    obtain ⟨v11, e12, h⟩ := xlt_e h
    have hj13 : xG 0 0 0 mX7_reckon 92 [vX, vX, vX] [vI v11] 155 s0 (xRv (vI q) s0) := by
      exact g_pI rfl dX7_reckon_92 h
    refine g_wne dX7_reckon_84 (tgt := 91) rfl rfl rfl (fun c10 => ?_) (fun c10 => ?_)
    · skip
      refine g_ic dX7_reckon_91 ?_
      refine g_drop_0 ?_
      refine g_drop_1 ?_
      refine g_drop_2 ?_
      exact g_vq ((if_neg c10).symm.trans e12) hj13
    · skip
      refine g_ic dX7_reckon_87 ?_
      refine g_goto dX7_reckon_88 (tgt := 92) rfl ?_
      refine g_drop_0 ?_
      refine g_drop_1 ?_
      refine g_drop_2 ?_
      exact g_vq ((if_pos c10).symm.trans e12) hj13
  replace h := xif_f q9 h
  by_cases q14 : (xw a0) = 62
  · replace h := xif_t q14 h
    refine g_wlK dX7_reckon_1 q14 (by decide) (off := 70) (by decide) (tgt := 71) rfl ?_
    refine g_iln dX7_reckon_71 rfl rfl ?_
    refine g_iln dX7_reckon_72 rfl rfl ?_
    obtain ⟨v16, e17, h⟩ := xlt_e h
    have hj18 : xG 0 0 0 mX7_reckon 81 [vX, vX, vX] [vI v16] 155 s0 (xRv (vI q) s0) := by
      exact g_pI rfl dX7_reckon_81 h
    refine g_wle dX7_reckon_73 (tgt := 80) rfl rfl rfl (fun c15 => ?_) (fun c15 => ?_)
    · skip
      refine g_ic dX7_reckon_80 ?_
      refine g_drop_0 ?_
      refine g_drop_1 ?_
      refine g_drop_2 ?_
      exact g_vq ((if_neg c15).symm.trans e17) hj18
    · skip
      refine g_ic dX7_reckon_76 ?_
      refine g_goto dX7_reckon_77 (tgt := 81) rfl ?_
      refine g_drop_0 ?_
      refine g_drop_1 ?_
      refine g_drop_2 ?_
      exact g_vq ((if_pos c15).symm.trans e17) hj18
  replace h := xif_f q14 h
  refine g_wlK dX7_reckon_1 rfl (by decide) (off := 104) (by simp only [Op.lookupswitch.offset]; rw [if_neg (Ne.symm q1)]; rw [if_neg (Ne.symm q2)]; rw [if_neg (Ne.symm q3)]; rw [if_neg (Ne.symm q4)]; rw [if_neg (Ne.symm q9)]; rw [if_neg (Ne.symm q14)];) (tgt := 105) rfl ?_
  refine g_iln dX7_reckon_105 rfl rfl ?_
  obtain ⟨j20, ej21, h⟩ := xjn_e h
  have hj22 : ∀ (t19 : Int), j20 t19 = some q → xG 0 0 0 mX7_reckon 116 [vX, vX, vX] [vI t19] 155 s0 (xRv (vI q) s0) := by
    intro t19 h
    rw [ej21] at h
    exact g_pI rfl dX7_reckon_116 h
  clear ej21
  refine g_yne dX7_reckon_106 (tgt := 113) rfl rfl (fun q23 => ?_) (fun q23 => ?_)
  · replace h := xif_f q23 h
    refine g_iln dX7_reckon_113 rfl rfl ?_
    refine g_iln dX7_reckon_114 rfl rfl ?_
    obtain ⟨hg24, h⟩ := xgd_e h
    refine g_wdiv dX7_reckon_115 rfl rfl hg24 ?_
    refine g_drop_0 ?_
    refine g_drop_1 ?_
    refine g_drop_2 ?_
    exact hj22 (Int.tdiv (xw a1) (xw a2)) h
  · replace h := xif_t q23 h
    refine g_ic dX7_reckon_109 ?_
    refine g_goto dX7_reckon_110 (tgt := 116) rfl ?_
    refine g_drop_0 ?_
    refine g_drop_1 ?_
    refine g_drop_2 ?_
    exact hj22 0 h
theorem dX7_delay_0 : decode cX7_delay 0 = .ok (.iconst 0, 1) := by decide +kernel
theorem dX7_delay_1 : decode cX7_delay 1 = .ok (.istore_n 2, 1) := by decide +kernel
theorem dX7_delay_2 : decode cX7_delay 2 = .ok (.iconst 0, 1) := by decide +kernel
theorem dX7_delay_3 : decode cX7_delay 3 = .ok (.istore_n 3, 1) := by decide +kernel
theorem dX7_delay_4 : decode cX7_delay 4 = .ok (.iload_n 3, 1) := by decide +kernel
theorem dX7_delay_5 : decode cX7_delay 5 = .ok (.aload_n 0, 1) := by decide +kernel
theorem dX7_delay_6 : decode cX7_delay 6 = .ok (.getfield 15, 3) := by decide +kernel
theorem dX7_delay_9 : decode cX7_delay 9 = .ok (.if_icmp .ge 120, 3) := by decide +kernel
theorem dX7_delay_12 : decode cX7_delay 12 = .ok (.aload_n 0, 1) := by decide +kernel
theorem dX7_delay_13 : decode cX7_delay 13 = .ok (.getfield 11, 3) := by decide +kernel
theorem dX7_delay_16 : decode cX7_delay 16 = .ok (.iload_n 3, 1) := by decide +kernel
theorem dX7_delay_17 : decode cX7_delay 17 = .ok (.iaload, 1) := by decide +kernel
theorem dX7_delay_18 : decode cX7_delay 18 = .ok (.istore 4, 2) := by decide +kernel
theorem dX7_delay_20 : decode cX7_delay 20 = .ok (.iload 4, 2) := by decide +kernel
theorem dX7_delay_22 : decode cX7_delay 22 = .ok (.sipush 2000, 3) := by decide +kernel
theorem dX7_delay_25 : decode cX7_delay 25 = .ok (.if_icmp .ge 27, 3) := by decide +kernel
theorem dX7_delay_28 : decode cX7_delay 28 = .ok (.iload_n 2, 1) := by decide +kernel
theorem dX7_delay_29 : decode cX7_delay 29 = .ok (.bipush 40, 2) := by decide +kernel
theorem dX7_delay_31 : decode cX7_delay 31 = .ok (.if_icmp .ge 21, 3) := by decide +kernel
theorem dX7_delay_34 : decode cX7_delay 34 = .ok (.aload_n 0, 1) := by decide +kernel
theorem dX7_delay_35 : decode cX7_delay 35 = .ok (.getfield 19, 3) := by decide +kernel
theorem dX7_delay_38 : decode cX7_delay 38 = .ok (.iload_n 2, 1) := by decide +kernel
theorem dX7_delay_39 : decode cX7_delay 39 = .ok (.iload 4, 2) := by decide +kernel
theorem dX7_delay_41 : decode cX7_delay 41 = .ok (.aload_n 1, 1) := by decide +kernel
theorem dX7_delay_42 : decode cX7_delay 42 = .ok (.invokestatic 110, 3) := by decide +kernel
theorem dX7_delay_45 : decode cX7_delay 45 = .ok (.iastore, 1) := by decide +kernel
theorem dX7_delay_46 : decode cX7_delay 46 = .ok (.iinc 2 1, 3) := by decide +kernel
theorem dX7_delay_49 : decode cX7_delay 49 = .ok (.goto 74, 3) := by decide +kernel
theorem dX7_delay_52 : decode cX7_delay 52 = .ok (.iload 4, 2) := by decide +kernel
theorem dX7_delay_54 : decode cX7_delay 54 = .ok (.sipush 2126, 3) := by decide +kernel
theorem dX7_delay_57 : decode cX7_delay 57 = .ok (.if_icmp .ne 27, 3) := by decide +kernel
theorem dX7_delay_60 : decode cX7_delay 60 = .ok (.iload_n 2, 1) := by decide +kernel
theorem dX7_delay_61 : decode cX7_delay 61 = .ok (.ifCond .le 23, 3) := by decide +kernel
theorem dX7_delay_64 : decode cX7_delay 64 = .ok (.aload_n 0, 1) := by decide +kernel
theorem dX7_delay_65 : decode cX7_delay 65 = .ok (.getfield 19, 3) := by decide +kernel
theorem dX7_delay_68 : decode cX7_delay 68 = .ok (.iload_n 2, 1) := by decide +kernel
theorem dX7_delay_69 : decode cX7_delay 69 = .ok (.iconst 1, 1) := by decide +kernel
theorem dX7_delay_70 : decode cX7_delay 70 = .ok (.isub, 1) := by decide +kernel
theorem dX7_delay_71 : decode cX7_delay 71 = .ok (.aload_n 0, 1) := by decide +kernel
theorem dX7_delay_72 : decode cX7_delay 72 = .ok (.getfield 19, 3) := by decide +kernel
theorem dX7_delay_75 : decode cX7_delay 75 = .ok (.iload_n 2, 1) := by decide +kernel
theorem dX7_delay_76 : decode cX7_delay 76 = .ok (.iconst 1, 1) := by decide +kernel
theorem dX7_delay_77 : decode cX7_delay 77 = .ok (.isub, 1) := by decide +kernel
theorem dX7_delay_78 : decode cX7_delay 78 = .ok (.iaload, 1) := by decide +kernel
theorem dX7_delay_79 : decode cX7_delay 79 = .ok (.ineg, 1) := by decide +kernel
theorem dX7_delay_80 : decode cX7_delay 80 = .ok (.iastore, 1) := by decide +kernel
theorem dX7_delay_81 : decode cX7_delay 81 = .ok (.goto 42, 3) := by decide +kernel
theorem dX7_delay_84 : decode cX7_delay 84 = .ok (.iload_n 2, 1) := by decide +kernel
theorem dX7_delay_85 : decode cX7_delay 85 = .ok (.iconst 1, 1) := by decide +kernel
theorem dX7_delay_86 : decode cX7_delay 86 = .ok (.if_icmp .le 37, 3) := by decide +kernel
theorem dX7_delay_89 : decode cX7_delay 89 = .ok (.iinc 2 (-1), 3) := by decide +kernel
theorem dX7_delay_92 : decode cX7_delay 92 = .ok (.aload_n 0, 1) := by decide +kernel
theorem dX7_delay_93 : decode cX7_delay 93 = .ok (.getfield 19, 3) := by decide +kernel
theorem dX7_delay_96 : decode cX7_delay 96 = .ok (.iload_n 2, 1) := by decide +kernel
theorem dX7_delay_97 : decode cX7_delay 97 = .ok (.iconst 1, 1) := by decide +kernel
theorem dX7_delay_98 : decode cX7_delay 98 = .ok (.isub, 1) := by decide +kernel
theorem dX7_delay_99 : decode cX7_delay 99 = .ok (.iload 4, 2) := by decide +kernel
theorem dX7_delay_101 : decode cX7_delay 101 = .ok (.sipush 2000, 3) := by decide +kernel
theorem dX7_delay_104 : decode cX7_delay 104 = .ok (.isub, 1) := by decide +kernel
theorem dX7_delay_105 : decode cX7_delay 105 = .ok (.aload_n 0, 1) := by decide +kernel
theorem dX7_delay_106 : decode cX7_delay 106 = .ok (.getfield 19, 3) := by decide +kernel
theorem dX7_delay_109 : decode cX7_delay 109 = .ok (.iload_n 2, 1) := by decide +kernel
theorem dX7_delay_110 : decode cX7_delay 110 = .ok (.iconst 1, 1) := by decide +kernel
theorem dX7_delay_111 : decode cX7_delay 111 = .ok (.isub, 1) := by decide +kernel
theorem dX7_delay_112 : decode cX7_delay 112 = .ok (.iaload, 1) := by decide +kernel
theorem dX7_delay_113 : decode cX7_delay 113 = .ok (.aload_n 0, 1) := by decide +kernel
theorem dX7_delay_114 : decode cX7_delay 114 = .ok (.getfield 19, 3) := by decide +kernel
theorem dX7_delay_117 : decode cX7_delay 117 = .ok (.iload_n 2, 1) := by decide +kernel
theorem dX7_delay_118 : decode cX7_delay 118 = .ok (.iaload, 1) := by decide +kernel
theorem dX7_delay_119 : decode cX7_delay 119 = .ok (.invokestatic 114, 3) := by decide +kernel
theorem dX7_delay_122 : decode cX7_delay 122 = .ok (.iastore, 1) := by decide +kernel
theorem dX7_delay_123 : decode cX7_delay 123 = .ok (.iinc 3 1, 3) := by decide +kernel
theorem dX7_delay_126 : decode cX7_delay 126 = .ok (.goto (-122), 3) := by decide +kernel
theorem dX7_delay_129 : decode cX7_delay 129 = .ok (.iconst 0, 1) := by decide +kernel
theorem dX7_delay_130 : decode cX7_delay 130 = .ok (.bipush 99, 2) := by decide +kernel
theorem dX7_delay_132 : decode cX7_delay 132 = .ok (.aload_n 0, 1) := by decide +kernel
theorem dX7_delay_133 : decode cX7_delay 133 = .ok (.getfield 19, 3) := by decide +kernel
theorem dX7_delay_136 : decode cX7_delay 136 = .ok (.iconst 0, 1) := by decide +kernel
theorem dX7_delay_137 : decode cX7_delay 137 = .ok (.iaload, 1) := by decide +kernel
theorem dX7_delay_138 : decode cX7_delay 138 = .ok (.invokestatic 118, 3) := by decide +kernel
theorem dX7_delay_141 : decode cX7_delay 141 = .ok (.invokestatic 100, 3) := by decide +kernel
theorem dX7_delay_144 : decode cX7_delay 144 = .ok (.ireturn, 1) := by decide +kernel
theorem s_X7_delay_4 {l0_1 : Int} (hm2 : l0_1 ∈ xRules) {q : Int × xW} {k : Int → Int → xW → Option (Int × xW)} (hk : ∀ (l2_40 : Int) (l3_41 : Int) (s42 : xW), k l2_40 l3_41 s42 = some q → xG 1 0 0 mX7_delay 129 [vR l0_1, vR 90, vI l2_40, vI l3_41, vX] [] 155 s42 (xRv (vI q.1) q.2)) : ∀ (f : Nat) (l2_3 : Int) (l3_4 : Int) (s5 : xW), F_X7_delay_4 l0_1 f l2_3 l3_4 s5 k = some q → xG 1 0 0 mX7_delay 4 [vR l0_1, vR 90, vI l2_3, vI l3_4, vX] [] 155 s5 (xRv (vI q.1) q.2) := by
  intro f
  induction f with
  | zero => intro l2_3 l3_4 s5 h; cases h
  | succ f ih =>
    intro l2_3 l3_4 s5 h
    unfold F_X7_delay_4 at h
    refine g_iln dX7_delay_4 rfl rfl ?_
    refine g_aln dX7_delay_5 rfl rfl (xf_rule_0 _ hm2) ?_
    refine g_getI 1 dX7_delay_6 fl_X7_15 (xf_rule_5 _ hm2) rfl ?_
    refine g_wge dX7_delay_9 (tgt := 129) rfl rfl rfl (fun q6 => ?_) (fun q6 => ?_)
    · replace h := xif_f q6 h
      exact hk l2_3 l3_4 s5 h
    · replace h := xif_t q6 h
      refine g_aln dX7_delay_12 rfl rfl (xf_rule_0 _ hm2) ?_
      refine g_getC (l0_1 + 1) dX7_delay_13 fl_X7_11 (xf_rule_6 _ hm2) (xf_rule_7 _ hm2) ?_
      refine g_iln dX7_delay_16 rfl rfl ?_
      obtain ⟨hg7, h⟩ := xgd_e h
      refine g_iald 40 dX7_delay_17 (xf_rule_8 _ hm2) hg7 (by decide) ?_
      refine g_ist_4 dX7_delay_18 (by decide) rfl ?_
      refine g_il dX7_delay_20 rfl ?_
      refine g_si dX7_delay_22 (by decide) ?_
      obtain ⟨j10, ej11, h⟩ := xjn_e h
      have hj12 : ∀ (l2_8 : Int) (s9 : xW), j10 l2_8 s9 = some q → xG 1 0 0 mX7_delay 123 [vR l0_1, vR 90, vI l2_8, vI l3_4, vX] [] 155 s9 (xRv (vI q.1) q.2) := by
        intro l2_8 s9 h
        rw [ej11] at h
        refine g_inc_3 dX7_delay_123 (by decide) rfl ?_
        refine g_goto dX7_delay_126 (tgt := 4) rfl ?_
        exact ih l2_8 (l3_4 + 1) s9 h
      clear ej11
      obtain ⟨j13, ej14, h⟩ := xjn_e h
      have hj15 : j13  = some q → xG 1 0 0 mX7_delay 52 [vR l0_1, vR 90, vI l2_3, vI l3_4, vI (s5 (l0_1 + 1) l3_4)] [] 155 s5 (xRv (vI q.1) q.2) := by
        intro  h
        rw [ej14] at h
        refine g_il dX7_delay_52 rfl ?_
        refine g_si dX7_delay_54 (by decide) ?_
        obtain ⟨j16, ej17, h⟩ := xjn_e h
        have hj18 : j16  = some q → xG 1 0 0 mX7_delay 84 [vR l0_1, vR 90, vI l2_3, vI l3_4, vI (s5 (l0_1 + 1) l3_4)] [] 155 s5 (xRv (vI q.1) q.2) := by
          intro  h
          rw [ej17] at h
          refine g_iln dX7_delay_84 rfl rfl ?_
          refine g_ic dX7_delay_85 ?_
          refine g_wle dX7_delay_86 (tgt := 123) rfl rfl (xw_id (by decide)) (fun q19 => ?_) (fun q19 => ?_)
          · replace h := xif_f q19 h
            refine g_drop_4 ?_
            exact hj12 l2_3 s5 h
          · replace h := xif_t q19 h
            refine g_inc_2 dX7_delay_89 (by decide) rfl ?_
            refine g_aln dX7_delay_92 rfl rfl (xf_rule_0 _ hm2) ?_
            refine g_getC (l0_1 + 2) dX7_delay_93 fl_X7_19 (xf_rule_9 _ hm2) (xf_rule_10 _ hm2) ?_
            refine g_iln dX7_delay_96 rfl rfl ?_
            refine g_ic dX7_delay_97 ?_
            refine g_isub dX7_delay_98 ?_
            refine g_il dX7_delay_99 rfl ?_
            refine g_si dX7_delay_101 (by decide) ?_
            refine g_isub dX7_delay_104 ?_
            refine g_aln dX7_delay_105 rfl rfl (xf_rule_0 _ hm2) ?_
            refine g_getC (l0_1 + 2) dX7_delay_106 fl_X7_19 (xf_rule_9 _ hm2) (xf_rule_10 _ hm2) ?_
            refine g_iln dX7_delay_109 rfl rfl ?_
            refine g_ic dX7_delay_110 ?_
            refine g_isub dX7_delay_111 ?_
            obtain ⟨hg20, h⟩ := xgd_e h
            refine g_iald 40 dX7_delay_112 (xf_rule_11 _ hm2) hg20 (by decide) ?_
            refine g_aln dX7_delay_113 rfl rfl (xf_rule_0 _ hm2) ?_
            refine g_getC (l0_1 + 2) dX7_delay_114 fl_X7_19 (xf_rule_9 _ hm2) (xf_rule_10 _ hm2) ?_
            refine g_iln dX7_delay_117 rfl rfl ?_
            obtain ⟨hg21, h⟩ := xgd_e h
            refine g_iald 40 dX7_delay_118 (xf_rule_11 _ hm2) hg21 (by decide) ?_
            obtain ⟨r23, e22, h⟩ := xbp_e h
            refine g_cS3v dX7_delay_119 ml_X7_114 (s_X7_reckon e22) (by decide) rfl ?_
            obtain ⟨hg24, h⟩ := xgd_e h
            obtain ⟨s25, e26, h⟩ := xlt_e h
            refine h_iast 40 dX7_delay_122 (xf_rule_11 _ hm2) hg24 (by decide) e26 ?_
            refine g_drop_4 ?_
            exact hj12 (l2_3 + (-1)) s25 h
        clear ej17
        refine g_wne dX7_delay_57 (tgt := 84) rfl rfl (xw_id (by decide)) (fun q27 => ?_) (fun q27 => ?_)
        · replace h := xif_f q27 h
          exact hj18  h
        · replace h := xif_t q27 h
          refine g_iln dX7_delay_60 rfl rfl ?_
          refine g_yle dX7_delay_61 (tgt := 84) rfl rfl (fun q28 => ?_) (fun q28 => ?_)
          · replace h := xif_f q28 h
            exact hj18  h
          · replace h := xif_t q28 h
            refine g_aln dX7_delay_64 rfl rfl (xf_rule_0 _ hm2) ?_
            refine g_getC (l0_1 + 2) dX7_delay_65 fl_X7_19 (xf_rule_9 _ hm2) (xf_rule_10 _ hm2) ?_
            refine g_iln dX7_delay_68 rfl rfl ?_
            refine g_ic dX7_delay_69 ?_
            refine g_isub dX7_delay_70 ?_
            refine g_aln dX7_delay_71 rfl rfl (xf_rule_0 _ hm2) ?_
            refine g_getC (l0_1 + 2) dX7_delay_72 fl_X7_19 (xf_rule_9 _ hm2) (xf_rule_10 _ hm2) ?_
            refine g_iln dX7_delay_75 rfl rfl ?_
            refine g_ic dX7_delay_76 ?_
            refine g_isub dX7_delay_77 ?_
            obtain ⟨hg29, h⟩ := xgd_e h
            refine g_iald 40 dX7_delay_78 (xf_rule_11 _ hm2) hg29 (by decide) ?_
            refine g_ineg dX7_delay_79 ?_
            obtain ⟨hg30, h⟩ := xgd_e h
            obtain ⟨s31, e32, h⟩ := xlt_e h
            refine h_iast 40 dX7_delay_80 (xf_rule_11 _ hm2) hg30 (by decide) e32 ?_
            refine g_goto dX7_delay_81 (tgt := 123) rfl ?_
            refine g_drop_4 ?_
            exact hj12 l2_3 s31 h
      clear ej14
      refine g_wge dX7_delay_25 (tgt := 52) rfl rfl (xw_id (by decide)) (fun q33 => ?_) (fun q33 => ?_)
      · replace h := xif_f q33 h
        exact hj15  h
      · replace h := xif_t q33 h
        refine g_iln dX7_delay_28 rfl rfl ?_
        refine g_bi dX7_delay_29 (by decide) ?_
        refine g_wge dX7_delay_31 (tgt := 52) rfl rfl (xw_id (by decide)) (fun q34 => ?_) (fun q34 => ?_)
        · replace h := xif_f q34 h
          exact hj15  h
        · replace h := xif_t q34 h
          refine g_aln dX7_delay_34 rfl rfl (xf_rule_0 _ hm2) ?_
          refine g_getC (l0_1 + 2) dX7_delay_35 fl_X7_19 (xf_rule_9 _ hm2) (xf_rule_10 _ hm2) ?_
          refine g_iln dX7_delay_38 rfl rfl ?_
          refine g_il dX7_delay_39 rfl ?_
          refine g_aln dX7_delay_41 rfl rfl (by decide) ?_
          obtain ⟨r36, e35, h⟩ := xbp_e h
          refine g_cS2v dX7_delay_42 ml_X7_110 (s_X7_valueOf e35) (by decide) rfl ?_
          obtain ⟨hg37, h⟩ := xgd_e h
          obtain ⟨s38, e39, h⟩ := xlt_e h
          refine h_iast 40 dX7_delay_45 (xf_rule_11 _ hm2) hg37 (by decide) e39 ?_
          refine g_inc_2 dX7_delay_46 (by decide) rfl ?_
          refine g_goto dX7_delay_49 (tgt := 123) rfl ?_
          refine g_drop_4 ?_
          exact hj12 (l2_3 + 1) s38 h
theorem s_X7_delay {a0 : Int} {s0 : xW} {q : Int × xW} (h : F_X7_delay a0 s0 = some q) : xC 1 0 0 mX7_delay [vR a0, vR 90] 155 s0 (xRv (vI q.1) q.2) := by
  refine xC.of [vR a0, vR 90, vX, vX, vX] (by decide +kernel) (Nat.le_of_ble_eq_true rfl) rfl ?_
  unfold F_X7_delay at h
  obtain ⟨hm0, h⟩ := xgd_e h
  refine g_ic dX7_delay_0 ?_
  refine g_istn_2 dX7_delay_1 (by decide) rfl ?_
  refine g_ic dX7_delay_2 ?_
  refine g_istn_3 dX7_delay_3 (by decide) rfl ?_
  refine s_X7_delay_4 hm0 (fun l2_43 l3_44 s45 h => ?_) xN _ _ _ h
  refine g_ic dX7_delay_129 ?_
  refine g_bi dX7_delay_130 (by decide) ?_
  refine g_aln dX7_delay_132 rfl rfl (xf_rule_0 _ hm0) ?_
  refine g_getC (a0 + 2) dX7_delay_133 fl_X7_19 (xf_rule_9 _ hm0) (xf_rule_10 _ hm0) ?_
  refine g_ic dX7_delay_136 ?_
  refine g_iald 40 dX7_delay_137 (xf_rule_11 _ hm0) (by decide) (by decide) ?_
  refine g_wmin dX7_delay_138 mx_X7_118 (xw_id (by decide)) rfl (by decide) rfl ?_
  refine g_wmax dX7_delay_141 mx_X7_100 (xw_id (by decide)) rfl (by decide) rfl ?_
  exact g_rI rfl dX7_delay_144 h
theorem dX0_minute_0 : decode cX0_minute 0 = .ok (.aload_n 0, 1) := by decide +kernel
theorem dX0_minute_1 : decode cX0_minute 1 = .ok (.getfield 19, 3) := by decide +kernel
theorem dX0_minute_4 : decode cX0_minute 4 = .ok (.iconst 0, 1) := by decide +kernel
theorem dX0_minute_5 : decode cX0_minute 5 = .ok (.iload_n 2, 1) := by decide +kernel
theorem dX0_minute_6 : decode cX0_minute 6 = .ok (.iastore, 1) := by decide +kernel
theorem dX0_minute_7 : decode cX0_minute 7 = .ok (.aload_n 0, 1) := by decide +kernel
theorem dX0_minute_8 : decode cX0_minute 8 = .ok (.getfield 19, 3) := by decide +kernel
theorem dX0_minute_11 : decode cX0_minute 11 = .ok (.iconst 3, 1) := by decide +kernel
theorem dX0_minute_12 : decode cX0_minute 12 = .ok (.iload_n 3, 1) := by decide +kernel
theorem dX0_minute_13 : decode cX0_minute 13 = .ok (.bipush 10, 2) := by decide +kernel
theorem dX0_minute_15 : decode cX0_minute 15 = .ok (.idiv, 1) := by decide +kernel
theorem dX0_minute_16 : decode cX0_minute 16 = .ok (.iastore, 1) := by decide +kernel
theorem dX0_minute_17 : decode cX0_minute 17 = .ok (.aload_n 0, 1) := by decide +kernel
theorem dX0_minute_18 : decode cX0_minute 18 = .ok (.getfield 19, 3) := by decide +kernel
theorem dX0_minute_21 : decode cX0_minute 21 = .ok (.iconst 4, 1) := by decide +kernel
theorem dX0_minute_22 : decode cX0_minute 22 = .ok (.iload_n 3, 1) := by decide +kernel
theorem dX0_minute_23 : decode cX0_minute 23 = .ok (.bipush 10, 2) := by decide +kernel
theorem dX0_minute_25 : decode cX0_minute 25 = .ok (.irem, 1) := by decide +kernel
theorem dX0_minute_26 : decode cX0_minute 26 = .ok (.iastore, 1) := by decide +kernel
theorem dX0_minute_27 : decode cX0_minute 27 = .ok (.aload_n 0, 1) := by decide +kernel
theorem dX0_minute_28 : decode cX0_minute 28 = .ok (.getfield 19, 3) := by decide +kernel
theorem dX0_minute_31 : decode cX0_minute 31 = .ok (.bipush 6, 2) := by decide +kernel
theorem dX0_minute_33 : decode cX0_minute 33 = .ok (.iload 4, 2) := by decide +kernel
theorem dX0_minute_35 : decode cX0_minute 35 = .ok (.iastore, 1) := by decide +kernel
theorem dX0_minute_36 : decode cX0_minute 36 = .ok (.aload_n 0, 1) := by decide +kernel
theorem dX0_minute_37 : decode cX0_minute 37 = .ok (.getfield 19, 3) := by decide +kernel
theorem dX0_minute_40 : decode cX0_minute 40 = .ok (.iconst 2, 1) := by decide +kernel
theorem dX0_minute_41 : decode cX0_minute 41 = .ok (.iaload, 1) := by decide +kernel
theorem dX0_minute_42 : decode cX0_minute 42 = .ok (.aload_n 1, 1) := by decide +kernel
theorem dX0_minute_43 : decode cX0_minute 43 = .ok (.aload_n 0, 1) := by decide +kernel
theorem dX0_minute_44 : decode cX0_minute 44 = .ok (.getfield 19, 3) := by decide +kernel
theorem dX0_minute_47 : decode cX0_minute 47 = .ok (.invokevirtual 28, 3) := by decide +kernel
theorem dX0_minute_50 : decode cX0_minute 50 = .ok (.iadd, 1) := by decide +kernel
theorem dX0_minute_51 : decode cX0_minute 51 = .ok (.ireturn, 1) := by decide +kernel
theorem s_X0_minute {a1 a2 a3 a4 : Int} {s0 : xW} {q : Int × xW} (h : F_X0_minute a1 a2 a3 a4 s0 = some q) : xC 2 0 0 mX0_minute [vR 89, vR a1, vI a2, vI a3, vI a4] 155 s0 (xRv (vI q.1) q.2) := by
  refine xC.of [vR 89, vR a1, vI a2, vI a3, vI a4] (by decide +kernel) (Nat.le_of_ble_eq_true rfl) rfl ?_
  unfold F_X0_minute at h
  obtain ⟨hm1, h⟩ := xgd_e h
  refine g_aln dX0_minute_0 rfl rfl (by decide) ?_
  refine g_getC 90 dX0_minute_1 fl_X0_19 rfl (by decide) ?_
  refine g_ic dX0_minute_4 ?_
  refine g_iln dX0_minute_5 rfl rfl ?_
  obtain ⟨s1, e2, h⟩ := xlt_e h
  refine h_iast 7 dX0_minute_6 rfl (by decide) (by decide) e2 ?_
  refine g_aln dX0_minute_7 rfl rfl (by decide) ?_
  refine g_getC 90 dX0_minute_8 fl_X0_19 rfl (by decide) ?_
  refine g_ic dX0_minute_11 ?_
  refine g_iln dX0_minute_12 rfl rfl ?_
  refine g_bi dX0_minute_13 (by decide) ?_
  refine g_wdiv dX0_minute_15 rfl (xw_id (by decide)) (by decide) ?_
  obtain ⟨s3, e4, h⟩ := xlt_e h
  refine h_iast 7 dX0_minute_16 rfl (by decide) (by decide) e4 ?_
  refine g_aln dX0_minute_17 rfl rfl (by decide) ?_
  refine g_getC 90 dX0_minute_18 fl_X0_19 rfl (by decide) ?_
  refine g_ic dX0_minute_21 ?_
  refine g_iln dX0_minute_22 rfl rfl ?_
  refine g_bi dX0_minute_23 (by decide) ?_
  refine g_wrem dX0_minute_25 rfl (xw_id (by decide)) (by decide) ?_
  obtain ⟨s5, e6, h⟩ := xlt_e h
  refine h_iast 7 dX0_minute_26 rfl (by decide) (by decide) e6 ?_
  refine g_aln dX0_minute_27 rfl rfl (by decide) ?_
  refine g_getC 90 dX0_minute_28 fl_X0_19 rfl (by decide) ?_
  refine g_bi dX0_minute_31 (by decide) ?_
  refine g_il dX0_minute_33 rfl ?_
  obtain ⟨s7, e8, h⟩ := xlt_e h
  refine h_iast 7 dX0_minute_35 rfl (by decide) (by decide) e8 ?_
  refine g_aln dX0_minute_36 rfl rfl (by decide) ?_
  refine g_getC 90 dX0_minute_37 fl_X0_19 rfl (by decide) ?_
  refine g_ic dX0_minute_40 ?_
  refine g_iald 7 dX0_minute_41 rfl (by decide) (by decide) ?_
  refine g_aln dX0_minute_42 rfl rfl (xf_rule_0 _ hm1) ?_
  refine g_aln dX0_minute_43 rfl rfl (by decide) ?_
  refine g_getC 90 dX0_minute_44 fl_X0_19 rfl (by decide) ?_
  obtain ⟨r10, s11, e9, h⟩ := xbd_e h
  refine g_cV1v dX0_minute_47 ml_X0_28 (xf_rule_1 _ hm1) (s_X7_delay e9) (by decide) rfl ?_
  refine g_iadd dX0_minute_50 ?_
  exact g_rI rfl dX0_minute_51 h
theorem dX0_on_0 : decode cX0_on 0 = .ok (.aload_n 0, 1) := by decide +kernel
theorem dX0_on_1 : decode cX0_on 1 = .ok (.getfield 19, 3) := by decide +kernel
theorem dX0_on_4 : decode cX0_on 4 = .ok (.iconst 1, 1) := by decide +kernel
theorem dX0_on_5 : decode cX0_on 5 = .ok (.iload_n 3, 1) := by decide +kernel
theorem dX0_on_6 : decode cX0_on 6 = .ok (.iastore, 1) := by decide +kernel
theorem dX0_on_7 : decode cX0_on 7 = .ok (.aload_n 0, 1) := by decide +kernel
theorem dX0_on_8 : decode cX0_on 8 = .ok (.getfield 19, 3) := by decide +kernel
theorem dX0_on_11 : decode cX0_on 11 = .ok (.iconst 2, 1) := by decide +kernel
theorem dX0_on_12 : decode cX0_on 12 = .ok (.iload_n 2, 1) := by decide +kernel
theorem dX0_on_13 : decode cX0_on 13 = .ok (.iastore, 1) := by decide +kernel
theorem dX0_on_14 : decode cX0_on 14 = .ok (.aload_n 0, 1) := by decide +kernel
theorem dX0_on_15 : decode cX0_on 15 = .ok (.getfield 19, 3) := by decide +kernel
theorem dX0_on_18 : decode cX0_on 18 = .ok (.iconst 5, 1) := by decide +kernel
theorem dX0_on_19 : decode cX0_on 19 = .ok (.iload_n 1, 1) := by decide +kernel
theorem dX0_on_20 : decode cX0_on 20 = .ok (.bipush 7, 2) := by decide +kernel
theorem dX0_on_22 : decode cX0_on 22 = .ok (.irem, 1) := by decide +kernel
theorem dX0_on_23 : decode cX0_on 23 = .ok (.iastore, 1) := by decide +kernel
theorem dX0_on_24 : decode cX0_on 24 = .ok (.return_, 1) := by decide +kernel
theorem s_X0_on {a1 a2 a3 : Int} {s0 : xW} {q : xW} (h : F_X0_on a1 a2 a3 s0 = some q) : xC 0 0 0 mX0_on [vR 89, vI a1, vI a2, vI a3] 155 s0 (xR0 q) := by
  refine xC.of [vR 89, vI a1, vI a2, vI a3] (by decide +kernel) (Nat.le_of_ble_eq_true rfl) rfl ?_
  unfold F_X0_on at h
  refine g_aln dX0_on_0 rfl rfl (by decide) ?_
  refine g_getC 90 dX0_on_1 fl_X0_19 rfl (by decide) ?_
  refine g_ic dX0_on_4 ?_
  refine g_iln dX0_on_5 rfl rfl ?_
  obtain ⟨s1, e2, h⟩ := xlt_e h
  refine h_iast 7 dX0_on_6 rfl (by decide) (by decide) e2 ?_
  refine g_aln dX0_on_7 rfl rfl (by decide) ?_
  refine g_getC 90 dX0_on_8 fl_X0_19 rfl (by decide) ?_
  refine g_ic dX0_on_11 ?_
  refine g_iln dX0_on_12 rfl rfl ?_
  obtain ⟨s3, e4, h⟩ := xlt_e h
  refine h_iast 7 dX0_on_13 rfl (by decide) (by decide) e4 ?_
  refine g_aln dX0_on_14 rfl rfl (by decide) ?_
  refine g_getC 90 dX0_on_15 fl_X0_19 rfl (by decide) ?_
  refine g_ic dX0_on_18 ?_
  refine g_iln dX0_on_19 rfl rfl ?_
  refine g_bi dX0_on_20 (by decide) ?_
  refine g_wrem dX0_on_22 rfl (xw_id (by decide)) (by decide) ?_
  obtain ⟨s5, e6, h⟩ := xlt_e h
  refine h_iast 7 dX0_on_23 rfl (by decide) (by decide) e6 ?_
  exact g_rV rfl dX0_on_24 h
theorem dX9_copy_0 : decode cX9_copy 0 = .ok (.aload_n 0, 1) := by decide +kernel
theorem dX9_copy_1 : decode cX9_copy 1 = .ok (.aload_n 1, 1) := by decide +kernel
theorem dX9_copy_2 : decode cX9_copy 2 = .ok (.getfield 9, 3) := by decide +kernel
theorem dX9_copy_5 : decode cX9_copy 5 = .ok (.putfield 9, 3) := by decide +kernel
theorem dX9_copy_8 : decode cX9_copy 8 = .ok (.aload_n 0, 1) := by decide +kernel
theorem dX9_copy_9 : decode cX9_copy 9 = .ok (.aload_n 1, 1) := by decide +kernel
theorem dX9_copy_10 : decode cX9_copy 10 = .ok (.getfield 15, 3) := by decide +kernel
theorem dX9_copy_13 : decode cX9_copy 13 = .ok (.putfield 15, 3) := by decide +kernel
theorem dX9_copy_16 : decode cX9_copy 16 = .ok (.aload_n 0, 1) := by decide +kernel
theorem dX9_copy_17 : decode cX9_copy 17 = .ok (.aload_n 1, 1) := by decide +kernel
theorem dX9_copy_18 : decode cX9_copy 18 = .ok (.getfield 18, 3) := by decide +kernel
theorem dX9_copy_21 : decode cX9_copy 21 = .ok (.putfield 18, 3) := by decide +kernel
theorem dX9_copy_24 : decode cX9_copy 24 = .ok (.aload_n 0, 1) := by decide +kernel
theorem dX9_copy_25 : decode cX9_copy 25 = .ok (.aload_n 1, 1) := by decide +kernel
theorem dX9_copy_26 : decode cX9_copy 26 = .ok (.getfield 21, 3) := by decide +kernel
theorem dX9_copy_29 : decode cX9_copy 29 = .ok (.putfield 21, 3) := by decide +kernel
theorem dX9_copy_32 : decode cX9_copy 32 = .ok (.aload_n 0, 1) := by decide +kernel
theorem dX9_copy_33 : decode cX9_copy 33 = .ok (.aload_n 1, 1) := by decide +kernel
theorem dX9_copy_34 : decode cX9_copy 34 = .ok (.getfield 24, 3) := by decide +kernel
theorem dX9_copy_37 : decode cX9_copy 37 = .ok (.putfield 24, 3) := by decide +kernel
theorem dX9_copy_40 : decode cX9_copy 40 = .ok (.aload_n 0, 1) := by decide +kernel
theorem dX9_copy_41 : decode cX9_copy 41 = .ok (.aload_n 1, 1) := by decide +kernel
theorem dX9_copy_42 : decode cX9_copy 42 = .ok (.getfield 27, 3) := by decide +kernel
theorem dX9_copy_45 : decode cX9_copy 45 = .ok (.putfield 27, 3) := by decide +kernel
theorem dX9_copy_48 : decode cX9_copy 48 = .ok (.aload_n 1, 1) := by decide +kernel
theorem dX9_copy_49 : decode cX9_copy 49 = .ok (.getfield 30, 3) := by decide +kernel
theorem dX9_copy_52 : decode cX9_copy 52 = .ok (.iconst 0, 1) := by decide +kernel
theorem dX9_copy_53 : decode cX9_copy 53 = .ok (.aload_n 0, 1) := by decide +kernel
theorem dX9_copy_54 : decode cX9_copy 54 = .ok (.getfield 30, 3) := by decide +kernel
theorem dX9_copy_57 : decode cX9_copy 57 = .ok (.iconst 0, 1) := by decide +kernel
theorem dX9_copy_58 : decode cX9_copy 58 = .ok (.bipush 8, 2) := by decide +kernel
theorem dX9_copy_60 : decode cX9_copy 60 = .ok (.invokestatic 40, 3) := by decide +kernel
theorem dX9_copy_63 : decode cX9_copy 63 = .ok (.aload_n 1, 1) := by decide +kernel
theorem dX9_copy_64 : decode cX9_copy 64 = .ok (.getfield 34, 3) := by decide +kernel
theorem dX9_copy_67 : decode cX9_copy 67 = .ok (.iconst 0, 1) := by decide +kernel
theorem dX9_copy_68 : decode cX9_copy 68 = .ok (.aload_n 0, 1) := by decide +kernel
theorem dX9_copy_69 : decode cX9_copy 69 = .ok (.getfield 34, 3) := by decide +kernel
theorem dX9_copy_72 : decode cX9_copy 72 = .ok (.iconst 0, 1) := by decide +kernel
theorem dX9_copy_73 : decode cX9_copy 73 = .ok (.bipush 8, 2) := by decide +kernel
theorem dX9_copy_75 : decode cX9_copy 75 = .ok (.invokestatic 40, 3) := by decide +kernel
theorem dX9_copy_78 : decode cX9_copy 78 = .ok (.aload_n 1, 1) := by decide +kernel
theorem dX9_copy_79 : decode cX9_copy 79 = .ok (.getfield 37, 3) := by decide +kernel
theorem dX9_copy_82 : decode cX9_copy 82 = .ok (.iconst 0, 1) := by decide +kernel
theorem dX9_copy_83 : decode cX9_copy 83 = .ok (.aload_n 0, 1) := by decide +kernel
theorem dX9_copy_84 : decode cX9_copy 84 = .ok (.getfield 37, 3) := by decide +kernel
theorem dX9_copy_87 : decode cX9_copy 87 = .ok (.iconst 0, 1) := by decide +kernel
theorem dX9_copy_88 : decode cX9_copy 88 = .ok (.bipush 8, 2) := by decide +kernel
theorem dX9_copy_90 : decode cX9_copy 90 = .ok (.invokestatic 40, 3) := by decide +kernel
theorem dX9_copy_93 : decode cX9_copy 93 = .ok (.return_, 1) := by decide +kernel
theorem s_X9_copy {a0 a1 : Int} {s0 : xW} {q : xW} (h : F_X9_copy a0 a1 s0 = some q) : xC 1 0 0 mX9_copy [vR a0, vR a1] 155 s0 (xR0 q) := by
  refine xC.of [vR a0, vR a1] (by decide +kernel) (Nat.le_of_ble_eq_true rfl) rfl ?_
  unfold F_X9_copy at h
  obtain ⟨hm0, h⟩ := xgd_e h
  obtain ⟨hm1, h⟩ := xgd_e h
  refine g_aln dX9_copy_0 rfl rfl (xf_town_12 _ hm0) ?_
  refine g_aln dX9_copy_1 rfl rfl (xf_town_12 _ hm1) ?_
  refine g_getI 0 dX9_copy_2 fl_X9_9 (xf_town_13 _ hm1) rfl ?_
  obtain ⟨s1, e2, h⟩ := xlt_e h
  refine h_putI 0 dX9_copy_5 fl_X9_9 (xf_town_13 _ hm0) rfl e2 ?_
  refine g_aln dX9_copy_8 rfl rfl (xf_town_12 _ hm0) ?_
  refine g_aln dX9_copy_9 rfl rfl (xf_town_12 _ hm1) ?_
  refine g_getI 1 dX9_copy_10 fl_X9_15 (xf_town_14 _ hm1) rfl ?_
  obtain ⟨s3, e4, h⟩ := xlt_e h
  refine h_putI 1 dX9_copy_13 fl_X9_15 (xf_town_14 _ hm0) rfl e4 ?_
  refine g_aln dX9_copy_16 rfl rfl (xf_town_12 _ hm0) ?_
  refine g_aln dX9_copy_17 rfl rfl (xf_town_12 _ hm1) ?_
  refine g_getI 2 dX9_copy_18 fl_X9_18 (xf_town_15 _ hm1) rfl ?_
  obtain ⟨s5, e6, h⟩ := xlt_e h
  refine h_putI 2 dX9_copy_21 fl_X9_18 (xf_town_15 _ hm0) rfl e6 ?_
  refine g_aln dX9_copy_24 rfl rfl (xf_town_12 _ hm0) ?_
  refine g_aln dX9_copy_25 rfl rfl (xf_town_12 _ hm1) ?_
  refine g_getI 3 dX9_copy_26 fl_X9_21 (xf_town_16 _ hm1) rfl ?_
  obtain ⟨s7, e8, h⟩ := xlt_e h
  refine h_putI 3 dX9_copy_29 fl_X9_21 (xf_town_16 _ hm0) rfl e8 ?_
  refine g_aln dX9_copy_32 rfl rfl (xf_town_12 _ hm0) ?_
  refine g_aln dX9_copy_33 rfl rfl (xf_town_12 _ hm1) ?_
  refine g_getI 4 dX9_copy_34 fl_X9_24 (xf_town_17 _ hm1) rfl ?_
  obtain ⟨s9, e10, h⟩ := xlt_e h
  refine h_putI 4 dX9_copy_37 fl_X9_24 (xf_town_17 _ hm0) rfl e10 ?_
  refine g_aln dX9_copy_40 rfl rfl (xf_town_12 _ hm0) ?_
  refine g_aln dX9_copy_41 rfl rfl (xf_town_12 _ hm1) ?_
  refine g_getI 5 dX9_copy_42 fl_X9_27 (xf_town_18 _ hm1) rfl ?_
  obtain ⟨s11, e12, h⟩ := xlt_e h
  refine h_putI 5 dX9_copy_45 fl_X9_27 (xf_town_18 _ hm0) rfl e12 ?_
  refine g_aln dX9_copy_48 rfl rfl (xf_town_12 _ hm1) ?_
  refine g_getC (a1 + 1) dX9_copy_49 fl_X9_30 (xf_town_19 _ hm1) (xf_town_20 _ hm1) ?_
  refine g_ic dX9_copy_52 ?_
  refine g_aln dX9_copy_53 rfl rfl (xf_town_12 _ hm0) ?_
  refine g_getC (a0 + 1) dX9_copy_54 fl_X9_30 (xf_town_19 _ hm0) (xf_town_20 _ hm0) ?_
  refine g_ic dX9_copy_57 ?_
  refine g_bi dX9_copy_58 (by decide) ?_
  obtain ⟨s13, e14, h⟩ := xlt_e h
  refine h_copy 8 8 dX9_copy_60 mc_X9_40 (xf_town_21 _ hm1) (xf_town_21 _ hm0) (by decide) (by decide) (by decide) rfl e14 ?_
  refine g_aln dX9_copy_63 rfl rfl (xf_town_12 _ hm1) ?_
  refine g_getC (a1 + 2) dX9_copy_64 fl_X9_34 (xf_town_22 _ hm1) (xf_town_23 _ hm1) ?_
  refine g_ic dX9_copy_67 ?_
  refine g_aln dX9_copy_68 rfl rfl (xf_town_12 _ hm0) ?_
  refine g_getC (a0 + 2) dX9_copy_69 fl_X9_34 (xf_town_22 _ hm0) (xf_town_23 _ hm0) ?_
  refine g_ic dX9_copy_72 ?_
  refine g_bi dX9_copy_73 (by decide) ?_
  obtain ⟨s15, e16, h⟩ := xlt_e h
  refine h_copy 8 8 dX9_copy_75 mc_X9_40 (xf_town_24 _ hm1) (xf_town_24 _ hm0) (by decide) (by decide) (by decide) rfl e16 ?_
  refine g_aln dX9_copy_78 rfl rfl (xf_town_12 _ hm1) ?_
  refine g_getC (a1 + 3) dX9_copy_79 fl_X9_37 (xf_town_25 _ hm1) (xf_town_26 _ hm1) ?_
  refine g_ic dX9_copy_82 ?_
  refine g_aln dX9_copy_83 rfl rfl (xf_town_12 _ hm0) ?_
  refine g_getC (a0 + 3) dX9_copy_84 fl_X9_37 (xf_town_25 _ hm0) (xf_town_26 _ hm0) ?_
  refine g_ic dX9_copy_87 ?_
  refine g_bi dX9_copy_88 (by decide) ?_
  obtain ⟨s17, e18, h⟩ := xlt_e h
  refine h_copy 8 8 dX9_copy_90 mc_X9_40 (xf_town_27 _ hm1) (xf_town_27 _ hm0) (by decide) (by decide) (by decide) rfl e18 ?_
  exact g_rV rfl dX9_copy_93 h
theorem dX3_drop_0 : decode cX3_drop 0 = .ok (.aload_n 0, 1) := by decide +kernel
theorem dX3_drop_1 : decode cX3_drop 1 = .ok (.iconst 0, 1) := by decide +kernel
theorem dX3_drop_2 : decode cX3_drop 2 = .ok (.putfield 19, 3) := by decide +kernel
theorem dX3_drop_5 : decode cX3_drop 5 = .ok (.return_, 1) := by decide +kernel
theorem s_X3_drop {s0 : xW} {q : xW} (h : F_X3_drop  s0 = some q) : xC 0 0 0 mX3_drop [vR 21] 155 s0 (xR0 q) := by
  refine xC.of [vR 21] (by decide +kernel) (Nat.le_of_ble_eq_true rfl) rfl ?_
  unfold F_X3_drop at h
  refine g_aln dX3_drop_0 rfl rfl (by decide) ?_
  refine g_ic dX3_drop_1 ?_
  obtain ⟨s1, e2, h⟩ := xlt_e h
  refine h_putI 2 dX3_drop_2 fl_X3_19 rfl rfl e2 ?_
  exact g_rV rfl dX3_drop_5 h
theorem dX10_again_0 : decode cX10_again 0 = .ok (.iload_n 1, 1) := by decide +kernel
theorem dX10_again_1 : decode cX10_again 1 = .ok (.ifCond .lt 17, 3) := by decide +kernel
theorem dX10_again_4 : decode cX10_again 4 = .ok (.iload_n 1, 1) := by decide +kernel
theorem dX10_again_5 : decode cX10_again 5 = .ok (.iconst 3, 1) := by decide +kernel
theorem dX10_again_6 : decode cX10_again 6 = .ok (.if_icmp .ge 12, 3) := by decide +kernel
theorem dX10_again_9 : decode cX10_again 9 = .ok (.aload_n 0, 1) := by decide +kernel
theorem dX10_again_10 : decode cX10_again 10 = .ok (.getfield 61, 3) := by decide +kernel
theorem dX10_again_13 : decode cX10_again 13 = .ok (.iload_n 1, 1) := by decide +kernel
theorem dX10_again_14 : decode cX10_again 14 = .ok (.baload, 1) := by decide +kernel
theorem dX10_again_15 : decode cX10_again 15 = .ok (.ifCond .ne 5, 3) := by decide +kernel
theorem dX10_again_18 : decode cX10_again 18 = .ok (.iconst 0, 1) := by decide +kernel
theorem dX10_again_19 : decode cX10_again 19 = .ok (.ireturn, 1) := by decide +kernel
theorem dX10_again_20 : decode cX10_again 20 = .ok (.aload_n 0, 1) := by decide +kernel
theorem dX10_again_21 : decode cX10_again 21 = .ok (.getfield 46, 3) := by decide +kernel
theorem dX10_again_24 : decode cX10_again 24 = .ok (.aload_n 0, 1) := by decide +kernel
theorem dX10_again_25 : decode cX10_again 25 = .ok (.getfield 57, 3) := by decide +kernel
theorem dX10_again_28 : decode cX10_again 28 = .ok (.iload_n 1, 1) := by decide +kernel
theorem dX10_again_29 : decode cX10_again 29 = .ok (.aaload, 1) := by decide +kernel
theorem dX10_again_30 : decode cX10_again 30 = .ok (.invokevirtual 398, 3) := by decide +kernel
theorem dX10_again_33 : decode cX10_again 33 = .ok (.aload_n 0, 1) := by decide +kernel
theorem dX10_again_34 : decode cX10_again 34 = .ok (.getfield 53, 3) := by decide +kernel
theorem dX10_again_37 : decode cX10_again 37 = .ok (.invokevirtual 401, 3) := by decide +kernel
theorem dX10_again_40 : decode cX10_again 40 = .ok (.iconst 1, 1) := by decide +kernel
theorem dX10_again_41 : decode cX10_again 41 = .ok (.ireturn, 1) := by decide +kernel
theorem s_X10_again {a1 : Int} {s0 : xW} {q : Int × xW} (h : F_X10_again a1 s0 = some q) : xC 2 0 0 mX10_again [vR 0, vI a1] 155 s0 (xRv (vI q.1) q.2) := by
  refine xC.of [vR 0, vI a1] (by decide +kernel) (Nat.le_of_ble_eq_true rfl) rfl ?_
  unfold F_X10_again at h
  refine g_iln dX10_again_0 rfl rfl ?_
  obtain ⟨j1, ej2, h⟩ := xjn_e h
  have hj3 : j1  = some q → xG 2 0 0 mX10_again 18 [vX, vX] [] 155 s0 (xRv (vI q.1) q.2) := by
    intro  h
    rw [ej2] at h
    refine g_ic dX10_again_18 ?_
    exact g_rZ rfl dX10_again_19 (by decide) h
  clear ej2
  refine g_ylt dX10_again_1 (tgt := 18) rfl rfl (fun q4 => ?_) (fun q4 => ?_)
  · replace h := xif_f q4 h
    refine g_drop_0 ?_
    refine g_drop_1 ?_
    exact hj3  h
  · replace h := xif_t q4 h
    refine g_iln dX10_again_4 rfl rfl ?_
    refine g_ic dX10_again_5 ?_
    refine g_wge dX10_again_6 (tgt := 18) rfl rfl (xw_id (by decide)) (fun q5 => ?_) (fun q5 => ?_)
    · replace h := xif_f q5 h
      refine g_drop_0 ?_
      refine g_drop_1 ?_
      exact hj3  h
    · replace h := xif_t q5 h
      refine g_aln dX10_again_9 rfl rfl (by decide) ?_
      refine g_getC 88 dX10_again_10 fl_X10_61 rfl (by decide) ?_
      refine g_iln dX10_again_13 rfl rfl ?_
      obtain ⟨hg6, h⟩ := xgd_e h
      refine g_zald 3 dX10_again_14 rfl hg6 (by decide) ?_
      refine g_yne dX10_again_15 (tgt := 20) rfl rfl (fun q7 => ?_) (fun q7 => ?_)
      · replace h := xif_f q7 h
        refine g_aln dX10_again_20 rfl rfl (by decide) ?_
        refine g_getC 17 dX10_again_21 fl_X10_46 rfl (by decide) ?_
        refine g_aln dX10_again_24 rfl rfl (by decide) ?_
        refine g_getC 87 dX10_again_25 fl_X10_57 rfl (by decide) ?_
        refine g_iln dX10_again_28 rfl rfl ?_
        obtain ⟨hg8, h⟩ := xgd_e h
        obtain ⟨hg9, h⟩ := xgd_e h
        refine g_aald 3 109 dX10_again_29 rfl rfl hg8 (by decide) ?_
        obtain ⟨s11, e10, h⟩ := xbp_e h
        refine g_cV10 dX10_again_30 ml_X10_398 rfl (s_X9_copy e10) (by decide) rfl ?_
        refine g_aln dX10_again_33 rfl rfl (by decide) ?_
        refine g_getC 21 dX10_again_34 fl_X10_53 rfl (by decide) ?_
        obtain ⟨s13, e12, h⟩ := xbp_e h
        refine g_cV00 dX10_again_37 ml_X10_401 rfl (s_X3_drop e12) (by decide) rfl ?_
        refine g_ic dX10_again_40 ?_
        exact g_rZ rfl dX10_again_41 (by decide) h
      · replace h := xif_t q7 h
        refine g_drop_0 ?_
        refine g_drop_1 ?_
        exact hj3  h
theorem dX1_of_0 : decode cX1_of 0 = .ok (.aload_n 0, 1) := by decide +kernel
theorem dX1_of_1 : decode cX1_of 1 = .ok (.getfield 15, 3) := by decide +kernel
theorem dX1_of_4 : decode cX1_of 4 = .ok (.ifCond .le 21, 3) := by decide +kernel
theorem dX1_of_7 : decode cX1_of 7 = .ok (.iload_n 1, 1) := by decide +kernel
theorem dX1_of_8 : decode cX1_of 8 = .ok (.ifCond .lt 17, 3) := by decide +kernel
theorem dX1_of_11 : decode cX1_of 11 = .ok (.aload_n 0, 1) := by decide +kernel
theorem dX1_of_12 : decode cX1_of 12 = .ok (.getfield 11, 3) := by decide +kernel
theorem dX1_of_15 : decode cX1_of 15 = .ok (.iload_n 1, 1) := by decide +kernel
theorem dX1_of_16 : decode cX1_of 16 = .ok (.aload_n 0, 1) := by decide +kernel
theorem dX1_of_17 : decode cX1_of 17 = .ok (.getfield 15, 3) := by decide +kernel
theorem dX1_of_20 : decode cX1_of 20 = .ok (.irem, 1) := by decide +kernel
theorem dX1_of_21 : decode cX1_of 21 = .ok (.iaload, 1) := by decide +kernel
theorem dX1_of_22 : decode cX1_of 22 = .ok (.goto 4, 3) := by decide +kernel
theorem dX1_of_25 : decode cX1_of 25 = .ok (.iconst 0, 1) := by decide +kernel
theorem dX1_of_26 : decode cX1_of 26 = .ok (.ireturn, 1) := by decide +kernel
theorem s_X1_of {a0 a1 : Int} {s0 : xW} {q : Int} (h : F_X1_of a0 a1 s0 = some q) : xC 0 0 0 mX1_of [vR a0, vI a1] 155 s0 (xRv (vI q) s0) := by
  refine xC.of [vR a0, vI a1] (by decide +kernel) (Nat.le_of_ble_eq_true rfl) rfl ?_
  unfold F_X1_of at h
  obtain ⟨hm0, h⟩ := xgd_e h
  refine g_aln dX1_of_0 rfl rfl (xf_dig_28 _ hm0) ?_
  refine g_getI 1 dX1_of_1 fl_X1_15 (xf_dig_29 _ hm0) rfl ?_
  obtain ⟨j2, ej3, h⟩ := xjn_e h
  have hj4 : ∀ (t1 : Int), j2 t1 = some q → xG 0 0 0 mX1_of 26 [vX, vX] [vI t1] 155 s0 (xRv (vI q) s0) := by
    intro t1 h
    rw [ej3] at h
    exact g_pI rfl dX1_of_26 h
  clear ej3
  obtain ⟨j5, ej6, h⟩ := xjn_e h
  have hj7 : j5  = some q → xG 0 0 0 mX1_of 25 [vX, vX] [] 155 s0 (xRv (vI q) s0) := by
    intro  h
    rw [ej6] at h
    refine g_ic dX1_of_25 ?_
    exact hj4 0 h
  clear ej6
  refine g_yle dX1_of_4 (tgt := 25) rfl rfl (fun q8 => ?_) (fun q8 => ?_)
  · replace h := xif_f q8 h
    refine g_drop_0 ?_
    refine g_drop_1 ?_
    exact hj7  h
  · replace h := xif_t q8 h
    refine g_iln dX1_of_7 rfl rfl ?_
    refine g_ylt dX1_of_8 (tgt := 25) rfl rfl (fun q9 => ?_) (fun q9 => ?_)
    · replace h := xif_f q9 h
      refine g_drop_0 ?_
      refine g_drop_1 ?_
      exact hj7  h
    · replace h := xif_t q9 h
      refine g_aln dX1_of_11 rfl rfl (xf_dig_28 _ hm0) ?_
      refine g_getC (a0 + 1) dX1_of_12 fl_X1_11 (xf_dig_30 _ hm0) (xf_dig_31 _ hm0) ?_
      refine g_iln dX1_of_15 rfl rfl ?_
      refine g_aln dX1_of_16 rfl rfl (xf_dig_28 _ hm0) ?_
      refine g_getI 1 dX1_of_17 fl_X1_15 (xf_dig_29 _ hm0) rfl ?_
      obtain ⟨hg10, h⟩ := xgd_e h
      refine g_wrem dX1_of_20 rfl rfl hg10 ?_
      obtain ⟨hg11, h⟩ := xgd_e h
      refine g_iald 20 dX1_of_21 (xf_dig_32 _ hm0) hg11 (by decide) ?_
      refine g_goto dX1_of_22 (tgt := 26) rfl ?_
      refine g_drop_0 ?_
      refine g_drop_1 ?_
      exact hj4 (s0 (a0 + 1) (Int.tmod (xw a1) (xw (s0 a0 1)))) h
theorem dX6_clear_0 : decode cX6_clear 0 = .ok (.aload_n 0, 1) := by decide +kernel
theorem dX6_clear_1 : decode cX6_clear 1 = .ok (.iconst 0, 1) := by decide +kernel
theorem dX6_clear_2 : decode cX6_clear 2 = .ok (.putfield 13, 3) := by decide +kernel
theorem dX6_clear_5 : decode cX6_clear 5 = .ok (.return_, 1) := by decide +kernel
theorem s_X6_clear {s0 : xW} {q : xW} (h : F_X6_clear  s0 = some q) : xC 0 0 0 mX6_clear [vR 3] 155 s0 (xR0 q) := by
  refine xC.of [vR 3] (by decide +kernel) (Nat.le_of_ble_eq_true rfl) rfl ?_
  unfold F_X6_clear at h
  refine g_aln dX6_clear_0 rfl rfl (by decide) ?_
  refine g_ic dX6_clear_1 ?_
  obtain ⟨s1, e2, h⟩ := xlt_e h
  refine h_putI 1 dX6_clear_2 fl_X6_13 rfl rfl e2 ?_
  exact g_rV rfl dX6_clear_5 h
theorem dX6_add_0 : decode cX6_add 0 = .ok (.aload_n 0, 1) := by decide +kernel
theorem dX6_add_1 : decode cX6_add 1 = .ok (.getfield 13, 3) := by decide +kernel
theorem dX6_add_4 : decode cX6_add 4 = .ok (.bipush 16, 2) := by decide +kernel
theorem dX6_add_6 : decode cX6_add 6 = .ok (.if_icmp .ge 23, 3) := by decide +kernel
theorem dX6_add_9 : decode cX6_add 9 = .ok (.aload_n 0, 1) := by decide +kernel
theorem dX6_add_10 : decode cX6_add 10 = .ok (.getfield 9, 3) := by decide +kernel
theorem dX6_add_13 : decode cX6_add 13 = .ok (.aload_n 0, 1) := by decide +kernel
theorem dX6_add_14 : decode cX6_add 14 = .ok (.getfield 13, 3) := by decide +kernel
theorem dX6_add_17 : decode cX6_add 17 = .ok (.lload_n 1, 1) := by decide +kernel
theorem dX6_add_18 : decode cX6_add 18 = .ok (.lastore, 1) := by decide +kernel
theorem dX6_add_19 : decode cX6_add 19 = .ok (.aload_n 0, 1) := by decide +kernel
theorem dX6_add_20 : decode cX6_add 20 = .ok (.dup, 1) := by decide +kernel
theorem dX6_add_21 : decode cX6_add 21 = .ok (.getfield 13, 3) := by decide +kernel
theorem dX6_add_24 : decode cX6_add 24 = .ok (.iconst 1, 1) := by decide +kernel
theorem dX6_add_25 : decode cX6_add 25 = .ok (.iadd, 1) := by decide +kernel
theorem dX6_add_26 : decode cX6_add 26 = .ok (.putfield 13, 3) := by decide +kernel
theorem dX6_add_29 : decode cX6_add 29 = .ok (.return_, 1) := by decide +kernel
theorem s_X6_add {a1 : Int} {s0 : xW} {q : xW} (h : F_X6_add a1 s0 = some q) : xC 0 0 0 mX6_add [vR 3, vL a1] 155 s0 (xR0 q) := by
  refine xC.of [vR 3, vL a1, vX] (by decide +kernel) (Nat.le_of_ble_eq_true rfl) rfl ?_
  unfold F_X6_add at h
  refine g_aln dX6_add_0 rfl rfl (by decide) ?_
  refine g_getI 1 dX6_add_1 fl_X6_13 rfl rfl ?_
  refine g_bi dX6_add_4 (by decide) ?_
  obtain ⟨j2, ej3, h⟩ := xjn_e h
  have hj4 : ∀ (s1 : xW), j2 s1 = some q → xG 0 0 0 mX6_add 29 [vX, vX, vX] [] 155 s1 (xR0 q) := by
    intro s1 h
    rw [ej3] at h
    exact g_rV rfl dX6_add_29 h
  clear ej3
  refine g_wge dX6_add_6 (tgt := 29) rfl rfl (xw_id (by decide)) (fun q5 => ?_) (fun q5 => ?_)
  · replace h := xif_f q5 h
    refine g_drop_0 ?_
    refine g_drop_1 ?_
    exact hj4 s0 h
  · replace h := xif_t q5 h
    refine g_aln dX6_add_9 rfl rfl (by decide) ?_
    refine g_getC 4 dX6_add_10 fl_X6_9 rfl (by decide) ?_
    refine g_aln dX6_add_13 rfl rfl (by decide) ?_
    refine g_getI 1 dX6_add_14 fl_X6_13 rfl rfl ?_
    refine g_lln dX6_add_17 rfl rfl ?_
    obtain ⟨hg6, h⟩ := xgd_e h
    obtain ⟨s7, e8, h⟩ := xlt_e h
    refine h_last 16 dX6_add_18 rfl hg6 (by decide) e8 ?_
    refine g_aln dX6_add_19 rfl rfl (by decide) ?_
    refine g_dup dX6_add_20 rfl ?_
    refine g_getI 1 dX6_add_21 fl_X6_13 rfl rfl ?_
    refine g_ic dX6_add_24 ?_
    refine g_iadd dX6_add_25 ?_
    obtain ⟨s9, e10, h⟩ := xlt_e h
    refine h_putI 1 dX6_add_26 fl_X6_13 rfl rfl e10 ?_
    refine g_drop_0 ?_
    refine g_drop_1 ?_
    exact hj4 s9 h
theorem dX6_tell_0 : decode cX6_tell 0 = .ok (.aload_n 0, 1) := by decide +kernel
theorem dX6_tell_1 : decode cX6_tell 1 = .ok (.invokevirtual 17, 3) := by decide +kernel
theorem dX6_tell_4 : decode cX6_tell 4 = .ok (.aload_n 0, 1) := by decide +kernel
theorem dX6_tell_5 : decode cX6_tell 5 = .ok (.lload_n 1, 1) := by decide +kernel
theorem dX6_tell_6 : decode cX6_tell 6 = .ok (.invokevirtual 20, 3) := by decide +kernel
theorem dX6_tell_9 : decode cX6_tell 9 = .ok (.return_, 1) := by decide +kernel
theorem s_X6_tell {a1 : Int} {s0 : xW} {q : xW} (h : F_X6_tell a1 s0 = some q) : xC 1 0 0 mX6_tell [vR 3, vL a1] 155 s0 (xR0 q) := by
  refine xC.of [vR 3, vL a1, vX] (by decide +kernel) (Nat.le_of_ble_eq_true rfl) rfl ?_
  unfold F_X6_tell at h
  refine g_aln dX6_tell_0 rfl rfl (by decide) ?_
  obtain ⟨s2, e1, h⟩ := xbp_e h
  refine g_cV00 dX6_tell_1 ml_X6_17 rfl (s_X6_clear e1) (by decide) rfl ?_
  refine g_aln dX6_tell_4 rfl rfl (by decide) ?_
  refine g_lln dX6_tell_5 rfl rfl ?_
  obtain ⟨s4, e3, h⟩ := xbp_e h
  refine g_cV10 dX6_tell_6 ml_X6_20 rfl (s_X6_add e3) (by decide) rfl ?_
  exact g_rV rfl dX6_tell_9 h
theorem dX6_tell__0 : decode cX6_tell_ 0 = .ok (.aload_n 0, 1) := by decide +kernel
theorem dX6_tell__1 : decode cX6_tell_ 1 = .ok (.lload_n 1, 1) := by decide +kernel
theorem dX6_tell__2 : decode cX6_tell_ 2 = .ok (.invokevirtual 24, 3) := by decide +kernel
theorem dX6_tell__5 : decode cX6_tell_ 5 = .ok (.aload_n 0, 1) := by decide +kernel
theorem dX6_tell__6 : decode cX6_tell_ 6 = .ok (.lload_n 3, 1) := by decide +kernel
theorem dX6_tell__7 : decode cX6_tell_ 7 = .ok (.invokevirtual 20, 3) := by decide +kernel
theorem dX6_tell__10 : decode cX6_tell_ 10 = .ok (.return_, 1) := by decide +kernel
theorem s_X6_tell_ {a1 a3 : Int} {s0 : xW} {q : xW} (h : F_X6_tell_ a1 a3 s0 = some q) : xC 2 0 0 mX6_tell_ [vR 3, vL a1, vL a3] 155 s0 (xR0 q) := by
  refine xC.of [vR 3, vL a1, vX, vL a3, vX] (by decide +kernel) (Nat.le_of_ble_eq_true rfl) rfl ?_
  unfold F_X6_tell_ at h
  refine g_aln dX6_tell__0 rfl rfl (by decide) ?_
  refine g_lln dX6_tell__1 rfl rfl ?_
  obtain ⟨s2, e1, h⟩ := xbp_e h
  refine g_cV10 dX6_tell__2 ml_X6_24 rfl (s_X6_tell e1) (by decide) rfl ?_
  refine g_aln dX6_tell__5 rfl rfl (by decide) ?_
  refine g_lln dX6_tell__6 rfl rfl ?_
  obtain ⟨s4, e3, h⟩ := xbp_e h
  refine g_cV10 dX6_tell__7 ml_X6_20 rfl (s_X6_add e3) (by decide) rfl ?_
  exact g_rV rfl dX6_tell__10 h
theorem dX10_far_0 : decode cX10_far 0 = .ok (.iload_n 0, 1) := by decide +kernel
theorem dX10_far_1 : decode cX10_far 1 = .ok (.bipush 10, 2) := by decide +kernel
theorem dX10_far_3 : decode cX10_far 3 = .ok (.idiv, 1) := by decide +kernel
theorem dX10_far_4 : decode cX10_far 4 = .ok (.iload_n 1, 1) := by decide +kernel
theorem dX10_far_5 : decode cX10_far 5 = .ok (.bipush 10, 2) := by decide +kernel
theorem dX10_far_7 : decode cX10_far 7 = .ok (.idiv, 1) := by decide +kernel
theorem dX10_far_8 : decode cX10_far 8 = .ok (.isub, 1) := by decide +kernel
theorem dX10_far_9 : decode cX10_far 9 = .ok (.invokestatic 349, 3) := by decide +kernel
theorem dX10_far_12 : decode cX10_far 12 = .ok (.iload_n 0, 1) := by decide +kernel
theorem dX10_far_13 : decode cX10_far 13 = .ok (.bipush 10, 2) := by decide +kernel
theorem dX10_far_15 : decode cX10_far 15 = .ok (.irem, 1) := by decide +kernel
theorem dX10_far_16 : decode cX10_far 16 = .ok (.iload_n 1, 1) := by decide +kernel
theorem dX10_far_17 : decode cX10_far 17 = .ok (.bipush 10, 2) := by decide +kernel
theorem dX10_far_19 : decode cX10_far 19 = .ok (.irem, 1) := by decide +kernel
theorem dX10_far_20 : decode cX10_far 20 = .ok (.isub, 1) := by decide +kernel
theorem dX10_far_21 : decode cX10_far 21 = .ok (.invokestatic 349, 3) := by decide +kernel
theorem dX10_far_24 : decode cX10_far 24 = .ok (.iadd, 1) := by decide +kernel
theorem dX10_far_25 : decode cX10_far 25 = .ok (.ireturn, 1) := by decide +kernel
theorem s_X10_far {a0 a1 : Int} {s0 : xW} {q : Int} (h : F_X10_far a0 a1 s0 = some q) : xC 1 0 0 mX10_far [vI a0, vI a1] 155 s0 (xRv (vI q) s0) := by
  refine xC.of [vI a0, vI a1] (by decide +kernel) (Nat.le_of_ble_eq_true rfl) rfl ?_
  unfold F_X10_far at h
  refine g_iln dX10_far_0 rfl rfl ?_
  refine g_bi dX10_far_1 (by decide) ?_
  refine g_wdiv dX10_far_3 rfl (xw_id (by decide)) (by decide) ?_
  refine g_iln dX10_far_4 rfl rfl ?_
  refine g_bi dX10_far_5 (by decide) ?_
  refine g_wdiv dX10_far_7 rfl (xw_id (by decide)) (by decide) ?_
  refine g_isub dX10_far_8 ?_
  refine g_wabs dX10_far_9 mx_X10_349 rfl (by decide) rfl ?_
  refine g_iln dX10_far_12 rfl rfl ?_
  refine g_bi dX10_far_13 (by decide) ?_
  refine g_wrem dX10_far_15 rfl (xw_id (by decide)) (by decide) ?_
  refine g_iln dX10_far_16 rfl rfl ?_
  refine g_bi dX10_far_17 (by decide) ?_
  refine g_wrem dX10_far_19 rfl (xw_id (by decide)) (by decide) ?_
  refine g_isub dX10_far_20 ?_
  refine g_wabs dX10_far_21 mx_X10_349 rfl (by decide) rfl ?_
  refine g_iadd dX10_far_24 ?_
  exact g_pI rfl dX10_far_25 h
theorem dX4_begin_0 : decode cX4_begin 0 = .ok (.iconst 0, 1) := by decide +kernel
theorem dX4_begin_1 : decode cX4_begin 1 = .ok (.istore_n 3, 1) := by decide +kernel
theorem dX4_begin_2 : decode cX4_begin 2 = .ok (.iload_n 3, 1) := by decide +kernel
theorem dX4_begin_3 : decode cX4_begin 3 = .ok (.aload_n 0, 1) := by decide +kernel
theorem dX4_begin_4 : decode cX4_begin 4 = .ok (.getfield 9, 3) := by decide +kernel
theorem dX4_begin_7 : decode cX4_begin 7 = .ok (.if_icmp .ge 39, 3) := by decide +kernel
theorem dX4_begin_10 : decode cX4_begin 10 = .ok (.aload_n 0, 1) := by decide +kernel
theorem dX4_begin_11 : decode cX4_begin 11 = .ok (.getfield 22, 3) := by decide +kernel
theorem dX4_begin_14 : decode cX4_begin 14 = .ok (.iload_n 3, 1) := by decide +kernel
theorem dX4_begin_15 : decode cX4_begin 15 = .ok (.aload_n 1, 1) := by decide +kernel
theorem dX4_begin_16 : decode cX4_begin 16 = .ok (.aload_n 0, 1) := by decide +kernel
theorem dX4_begin_17 : decode cX4_begin 17 = .ok (.getfield 15, 3) := by decide +kernel
theorem dX4_begin_20 : decode cX4_begin 20 = .ok (.iload_n 3, 1) := by decide +kernel
theorem dX4_begin_21 : decode cX4_begin 21 = .ok (.iaload, 1) := by decide +kernel
theorem dX4_begin_22 : decode cX4_begin 22 = .ok (.iaload, 1) := by decide +kernel
theorem dX4_begin_23 : decode cX4_begin 23 = .ok (.iastore, 1) := by decide +kernel
theorem dX4_begin_24 : decode cX4_begin 24 = .ok (.aload_n 0, 1) := by decide +kernel
theorem dX4_begin_25 : decode cX4_begin 25 = .ok (.getfield 25, 3) := by decide +kernel
theorem dX4_begin_28 : decode cX4_begin 28 = .ok (.iload_n 3, 1) := by decide +kernel
theorem dX4_begin_29 : decode cX4_begin 29 = .ok (.aload_n 0, 1) := by decide +kernel
theorem dX4_begin_30 : decode cX4_begin 30 = .ok (.getfield 22, 3) := by decide +kernel
theorem dX4_begin_33 : decode cX4_begin 33 = .ok (.iload_n 3, 1) := by decide +kernel
theorem dX4_begin_34 : decode cX4_begin 34 = .ok (.iaload, 1) := by decide +kernel
theorem dX4_begin_35 : decode cX4_begin 35 = .ok (.aload_n 2, 1) := by decide +kernel
theorem dX4_begin_36 : decode cX4_begin 36 = .ok (.iload_n 3, 1) := by decide +kernel
theorem dX4_begin_37 : decode cX4_begin 37 = .ok (.iaload, 1) := by decide +kernel
theorem dX4_begin_38 : decode cX4_begin 38 = .ok (.iadd, 1) := by decide +kernel
theorem dX4_begin_39 : decode cX4_begin 39 = .ok (.iastore, 1) := by decide +kernel
theorem dX4_begin_40 : decode cX4_begin 40 = .ok (.iinc 3 1, 3) := by decide +kernel
theorem dX4_begin_43 : decode cX4_begin 43 = .ok (.goto (-41), 3) := by decide +kernel
theorem dX4_begin_46 : decode cX4_begin 46 = .ok (.return_, 1) := by decide +kernel
theorem s_X4_begin_2 {q : xW} {k : Int → xW → Option (xW)} (hk : ∀ (l3_14 : Int) (s15 : xW), k l3_14 s15 = some q → xG 0 0 0 mX4_begin 46 [vR 92, vR 91, vR 20, vI l3_14] [] 155 s15 (xR0 q)) : ∀ (f : Nat) (l3_1 : Int) (s2 : xW), F_X4_begin_2  f l3_1 s2 k = some q → xG 0 0 0 mX4_begin 2 [vR 92, vR 91, vR 20, vI l3_1] [] 155 s2 (xR0 q) := by
  intro f
  induction f with
  | zero => intro l3_1 s2 h; cases h
  | succ f ih =>
    intro l3_1 s2 h
    unfold F_X4_begin_2 at h
    refine g_iln dX4_begin_2 rfl rfl ?_
    refine g_aln dX4_begin_3 rfl rfl (by decide) ?_
    refine g_getI 0 dX4_begin_4 fl_X4_9 rfl rfl ?_
    refine g_wge dX4_begin_7 (tgt := 46) rfl rfl rfl (fun q3 => ?_) (fun q3 => ?_)
    · replace h := xif_f q3 h
      exact hk l3_1 s2 h
    · replace h := xif_t q3 h
      refine g_aln dX4_begin_10 rfl rfl (by decide) ?_
      refine g_getC 95 dX4_begin_11 fl_X4_22 rfl (by decide) ?_
      refine g_iln dX4_begin_14 rfl rfl ?_
      refine g_aln dX4_begin_15 rfl rfl (by decide) ?_
      refine g_aln dX4_begin_16 rfl rfl (by decide) ?_
      refine g_getC 93 dX4_begin_17 fl_X4_15 rfl (by decide) ?_
      refine g_iln dX4_begin_20 rfl rfl ?_
      obtain ⟨hg4, h⟩ := xgd_e h
      refine g_iald 8 dX4_begin_21 rfl hg4 (by decide) ?_
      obtain ⟨hg5, h⟩ := xgd_e h
      refine g_iald 8 dX4_begin_22 rfl hg5 (by decide) ?_
      obtain ⟨hg6, h⟩ := xgd_e h
      obtain ⟨s7, e8, h⟩ := xlt_e h
      refine h_iast 8 dX4_begin_23 rfl hg6 (by decide) e8 ?_
      refine g_aln dX4_begin_24 rfl rfl (by decide) ?_
      refine g_getC 96 dX4_begin_25 fl_X4_25 rfl (by decide) ?_
      refine g_iln dX4_begin_28 rfl rfl ?_
      refine g_aln dX4_begin_29 rfl rfl (by decide) ?_
      refine g_getC 95 dX4_begin_30 fl_X4_22 rfl (by decide) ?_
      refine g_iln dX4_begin_33 rfl rfl ?_
      obtain ⟨hg9, h⟩ := xgd_e h
      refine g_iald 8 dX4_begin_34 rfl hg9 (by decide) ?_
      refine g_aln dX4_begin_35 rfl rfl (by decide) ?_
      refine g_iln dX4_begin_36 rfl rfl ?_
      obtain ⟨hg10, h⟩ := xgd_e h
      refine g_iald 8 dX4_begin_37 rfl hg10 (by decide) ?_
      refine g_iadd dX4_begin_38 ?_
      obtain ⟨hg11, h⟩ := xgd_e h
      obtain ⟨s12, e13, h⟩ := xlt_e h
      refine h_iast 8 dX4_begin_39 rfl hg11 (by decide) e13 ?_
      refine g_inc_3 dX4_begin_40 (by decide) rfl ?_
      refine g_goto dX4_begin_43 (tgt := 2) rfl ?_
      exact ih (l3_1 + 1) s12 h
theorem s_X4_begin {s0 : xW} {q : xW} (h : F_X4_begin  s0 = some q) : xC 0 0 0 mX4_begin [vR 92, vR 91, vR 20] 155 s0 (xR0 q) := by
  refine xC.of [vR 92, vR 91, vR 20, vX] (by decide +kernel) (Nat.le_of_ble_eq_true rfl) rfl ?_
  unfold F_X4_begin at h
  refine g_ic dX4_begin_0 ?_
  refine g_istn_3 dX4_begin_1 (by decide) rfl ?_
  refine s_X4_begin_2 (fun l3_16 s17 h => ?_) xN _ _ h
  exact g_rV rfl dX4_begin_46 h
theorem dX10_planFor_0 : decode cX10_planFor 0 = .ok (.aload_n 0, 1) := by decide +kernel
theorem dX10_planFor_1 : decode cX10_planFor 1 = .ok (.getfield 68, 3) := by decide +kernel
theorem dX10_planFor_4 : decode cX10_planFor 4 = .ok (.iload_n 3, 1) := by decide +kernel
theorem dX10_planFor_5 : decode cX10_planFor 5 = .ok (.aload_n 0, 1) := by decide +kernel
theorem dX10_planFor_6 : decode cX10_planFor 6 = .ok (.getfield 30, 3) := by decide +kernel
theorem dX10_planFor_9 : decode cX10_planFor 9 = .ok (.iload_n 3, 1) := by decide +kernel
theorem dX10_planFor_10 : decode cX10_planFor 10 = .ok (.invokevirtual 280, 3) := by decide +kernel
theorem dX10_planFor_13 : decode cX10_planFor 13 = .ok (.aload_n 0, 1) := by decide +kernel
theorem dX10_planFor_14 : decode cX10_planFor 14 = .ok (.getfield 26, 3) := by decide +kernel
theorem dX10_planFor_17 : decode cX10_planFor 17 = .ok (.iload_n 3, 1) := by decide +kernel
theorem dX10_planFor_18 : decode cX10_planFor 18 = .ok (.invokevirtual 280, 3) := by decide +kernel
theorem dX10_planFor_21 : decode cX10_planFor 21 = .ok (.invokevirtual 442, 3) := by decide +kernel
theorem dX10_planFor_24 : decode cX10_planFor 24 = .ok (.iconst 0, 1) := by decide +kernel
theorem dX10_planFor_25 : decode cX10_planFor 25 = .ok (.istore 4, 2) := by decide +kernel
theorem dX10_planFor_27 : decode cX10_planFor 27 = .ok (.iload 4, 2) := by decide +kernel
theorem dX10_planFor_29 : decode cX10_planFor 29 = .ok (.aload_n 0, 1) := by decide +kernel
theorem dX10_planFor_30 : decode cX10_planFor 30 = .ok (.getfield 93, 3) := by decide +kernel
theorem dX10_planFor_33 : decode cX10_planFor 33 = .ok (.if_icmp .ge 48, 3) := by decide +kernel
theorem dX10_planFor_36 : decode cX10_planFor 36 = .ok (.aload_n 0, 1) := by decide +kernel
theorem dX10_planFor_37 : decode cX10_planFor 37 = .ok (.getfield 46, 3) := by decide +kernel
theorem dX10_planFor_40 : decode cX10_planFor 40 = .ok (.getfield 152, 3) := by decide +kernel
theorem dX10_planFor_43 : decode cX10_planFor 43 = .ok (.iload 4, 2) := by decide +kernel
theorem dX10_planFor_45 : decode cX10_planFor 45 = .ok (.iaload, 1) := by decide +kernel
theorem dX10_planFor_46 : decode cX10_planFor 46 = .ok (.istore 5, 2) := by decide +kernel
theorem dX10_planFor_48 : decode cX10_planFor 48 = .ok (.aload_n 0, 1) := by decide +kernel
theorem dX10_planFor_49 : decode cX10_planFor 49 = .ok (.getfield 68, 3) := by decide +kernel
theorem dX10_planFor_52 : decode cX10_planFor 52 = .ok (.getfield 325, 3) := by decide +kernel
theorem dX10_planFor_55 : decode cX10_planFor 55 = .ok (.iload 4, 2) := by decide +kernel
theorem dX10_planFor_57 : decode cX10_planFor 57 = .ok (.aload_n 0, 1) := by decide +kernel
theorem dX10_planFor_58 : decode cX10_planFor 58 = .ok (.getfield 68, 3) := by decide +kernel
theorem dX10_planFor_61 : decode cX10_planFor 61 = .ok (.aload_n 1, 1) := by decide +kernel
theorem dX10_planFor_62 : decode cX10_planFor 62 = .ok (.iload_n 2, 1) := by decide +kernel
theorem dX10_planFor_63 : decode cX10_planFor 63 = .ok (.iload 5, 2) := by decide +kernel
theorem dX10_planFor_65 : decode cX10_planFor 65 = .ok (.invokestatic 435, 3) := by decide +kernel
theorem dX10_planFor_68 : decode cX10_planFor 68 = .ok (.iload 5, 2) := by decide +kernel
theorem dX10_planFor_70 : decode cX10_planFor 70 = .ok (.iconst 0, 1) := by decide +kernel
theorem dX10_planFor_71 : decode cX10_planFor 71 = .ok (.invokevirtual 446, 3) := by decide +kernel
theorem dX10_planFor_74 : decode cX10_planFor 74 = .ok (.iastore, 1) := by decide +kernel
theorem dX10_planFor_75 : decode cX10_planFor 75 = .ok (.iinc 4 1, 3) := by decide +kernel
theorem dX10_planFor_78 : decode cX10_planFor 78 = .ok (.goto (-51), 3) := by decide +kernel
theorem dX10_planFor_81 : decode cX10_planFor 81 = .ok (.aload_n 0, 1) := by decide +kernel
theorem dX10_planFor_82 : decode cX10_planFor 82 = .ok (.getfield 75, 3) := by decide +kernel
theorem dX10_planFor_85 : decode cX10_planFor 85 = .ok (.aload_n 0, 1) := by decide +kernel
theorem dX10_planFor_86 : decode cX10_planFor 86 = .ok (.getfield 68, 3) := by decide +kernel
theorem dX10_planFor_89 : decode cX10_planFor 89 = .ok (.getfield 325, 3) := by decide +kernel
theorem dX10_planFor_92 : decode cX10_planFor 92 = .ok (.aload_n 0, 1) := by decide +kernel
theorem dX10_planFor_93 : decode cX10_planFor 93 = .ok (.getfield 46, 3) := by decide +kernel
theorem dX10_planFor_96 : decode cX10_planFor 96 = .ok (.getfield 179, 3) := by decide +kernel
theorem dX10_planFor_99 : decode cX10_planFor 99 = .ok (.invokevirtual 450, 3) := by decide +kernel
theorem dX10_planFor_102 : decode cX10_planFor 102 = .ok (.return_, 1) := by decide +kernel
theorem s_X10_planFor_27 {l1_7 l2_9 : Int} (hm8 : l1_7 ∈ xRules) {q : xW} {k : Int → xW → Option (xW)} (hk : ∀ (l4_22 : Int) (s23 : xW), k l4_22 s23 = some q → xG 3 0 0 mX10_planFor 81 [vR 0, vR l1_7, vI l2_9, vX, vI l4_22, vX] [] 155 s23 (xR0 q)) : ∀ (f : Nat) (l4_10 : Int) (s11 : xW), F_X10_planFor_27 l1_7 l2_9 f l4_10 s11 k = some q → xG 3 0 0 mX10_planFor 27 [vR 0, vR l1_7, vI l2_9, vX, vI l4_10, vX] [] 155 s11 (xR0 q) := by
  intro f
  induction f with
  | zero => intro l4_10 s11 h; cases h
  | succ f ih =>
    intro l4_10 s11 h
    unfold F_X10_planFor_27 at h
    refine g_il dX10_planFor_27 rfl ?_
    refine g_aln dX10_planFor_29 rfl rfl (by decide) ?_
    refine g_getI 14 dX10_planFor_30 fl_X10_93 rfl rfl ?_
    refine g_wge dX10_planFor_33 (tgt := 81) rfl rfl rfl (fun q12 => ?_) (fun q12 => ?_)
    · replace h := xif_f q12 h
      exact hk l4_10 s11 h
    · replace h := xif_t q12 h
      refine g_aln dX10_planFor_36 rfl rfl (by decide) ?_
      refine g_getC 17 dX10_planFor_37 fl_X10_46 rfl (by decide) ?_
      refine g_getC 18 dX10_planFor_40 fl_X10_152 rfl (by decide) ?_
      refine g_il dX10_planFor_43 rfl ?_
      obtain ⟨hg13, h⟩ := xgd_e h
      refine g_iald 8 dX10_planFor_45 rfl hg13 (by decide) ?_
      refine g_ist_5 dX10_planFor_46 (by decide) rfl ?_
      refine g_aln dX10_planFor_48 rfl rfl (by decide) ?_
      refine g_getC 89 dX10_planFor_49 fl_X10_68 rfl (by decide) ?_
      refine g_getC 91 dX10_planFor_52 fl_X10_325 rfl (by decide) ?_
      refine g_il dX10_planFor_55 rfl ?_
      refine g_aln dX10_planFor_57 rfl rfl (by decide) ?_
      refine g_getC 89 dX10_planFor_58 fl_X10_68 rfl (by decide) ?_
      refine g_aln dX10_planFor_61 rfl rfl (xf_rule_0 _ hm8) ?_
      refine g_iln dX10_planFor_62 rfl rfl ?_
      refine g_il dX10_planFor_63 rfl ?_
      obtain ⟨r15, e14, h⟩ := xbp_e h
      refine g_cS2v dX10_planFor_65 ml_X10_435 (s_X10_far e14) (by decide) rfl ?_
      refine g_il dX10_planFor_68 rfl ?_
      refine g_ic dX10_planFor_70 ?_
      obtain ⟨r17, s18, e16, h⟩ := xbd_e h
      refine g_cV4v dX10_planFor_71 ml_X10_446 rfl (s_X0_minute e16) (by decide) rfl ?_
      obtain ⟨hg19, h⟩ := xgd_e h
      obtain ⟨s20, e21, h⟩ := xlt_e h
      refine h_iast 8 dX10_planFor_74 rfl hg19 (by decide) e21 ?_
      refine g_inc_4 dX10_planFor_75 (by decide) rfl ?_
      refine g_goto dX10_planFor_78 (tgt := 27) rfl ?_
      refine g_drop_5 ?_
      exact ih (l4_10 + 1) s20 h
theorem s_X10_planFor {a1 a2 a3 : Int} {s0 : xW} {q : xW} (h : F_X10_planFor a1 a2 a3 s0 = some q) : xC 3 0 0 mX10_planFor [vR 0, vR a1, vI a2, vI a3] 155 s0 (xR0 q) := by
  refine xC.of [vR 0, vR a1, vI a2, vI a3, vX, vX] (by decide +kernel) (Nat.le_of_ble_eq_true rfl) rfl ?_
  unfold F_X10_planFor at h
  obtain ⟨hm1, h⟩ := xgd_e h
  refine g_aln dX10_planFor_0 rfl rfl (by decide) ?_
  refine g_getC 89 dX10_planFor_1 fl_X10_68 rfl (by decide) ?_
  refine g_iln dX10_planFor_4 rfl rfl ?_
  refine g_aln dX10_planFor_5 rfl rfl (by decide) ?_
  refine g_getC 7 dX10_planFor_6 fl_X10_30 rfl (by decide) ?_
  refine g_iln dX10_planFor_9 rfl rfl ?_
  obtain ⟨r2, e1, h⟩ := xbp_e h
  refine g_cV1v dX10_planFor_10 ml_X10_280 rfl (s_X1_of e1) (by decide) rfl ?_
  refine g_aln dX10_planFor_13 rfl rfl (by decide) ?_
  refine g_getC 5 dX10_planFor_14 fl_X10_26 rfl (by decide) ?_
  refine g_iln dX10_planFor_17 rfl rfl ?_
  obtain ⟨r4, e3, h⟩ := xbp_e h
  refine g_cV1v dX10_planFor_18 ml_X10_280 rfl (s_X1_of e3) (by decide) rfl ?_
  obtain ⟨s6, e5, h⟩ := xbp_e h
  refine g_cV30 dX10_planFor_21 ml_X10_442 rfl (s_X0_on e5) (by decide) rfl ?_
  refine g_ic dX10_planFor_24 ?_
  refine g_ist_4 dX10_planFor_25 (by decide) rfl ?_
  refine g_drop_3 ?_
  refine s_X10_planFor_27 hm1 (fun l4_24 s25 h => ?_) xN _ _ h
  refine g_aln dX10_planFor_81 rfl rfl (by decide) ?_
  refine g_getC 92 dX10_planFor_82 fl_X10_75 rfl (by decide) ?_
  refine g_aln dX10_planFor_85 rfl rfl (by decide) ?_
  refine g_getC 89 dX10_planFor_86 fl_X10_68 rfl (by decide) ?_
  refine g_getC 91 dX10_planFor_89 fl_X10_325 rfl (by decide) ?_
  refine g_aln dX10_planFor_92 rfl rfl (by decide) ?_
  refine g_getC 17 dX10_planFor_93 fl_X10_46 rfl (by decide) ?_
  refine g_getC 20 dX10_planFor_96 fl_X10_179 rfl (by decide) ?_
  obtain ⟨s27, e26, h⟩ := xbp_e h
  refine g_cV20 dX10_planFor_99 ml_X10_450 rfl (s_X4_begin e26) (by decide) rfl ?_
  exact g_rV rfl dX10_planFor_102 h
theorem dX4_collide_0 : decode cX4_collide 0 = .ok (.iload_n 1, 1) := by decide +kernel
theorem dX4_collide_1 : decode cX4_collide 1 = .ok (.iload_n 2, 1) := by decide +kernel
theorem dX4_collide_2 : decode cX4_collide 2 = .ok (.if_icmp .eq 53, 3) := by decide +kernel
theorem dX4_collide_5 : decode cX4_collide 5 = .ok (.aload_n 0, 1) := by decide +kernel
theorem dX4_collide_6 : decode cX4_collide 6 = .ok (.getfield 19, 3) := by decide +kernel
theorem dX4_collide_9 : decode cX4_collide 9 = .ok (.iload_n 1, 1) := by decide +kernel
theorem dX4_collide_10 : decode cX4_collide 10 = .ok (.iaload, 1) := by decide +kernel
theorem dX4_collide_11 : decode cX4_collide 11 = .ok (.aload_n 0, 1) := by decide +kernel
theorem dX4_collide_12 : decode cX4_collide 12 = .ok (.getfield 19, 3) := by decide +kernel
theorem dX4_collide_15 : decode cX4_collide 15 = .ok (.iload_n 2, 1) := by decide +kernel
theorem dX4_collide_16 : decode cX4_collide 16 = .ok (.iaload, 1) := by decide +kernel
theorem dX4_collide_17 : decode cX4_collide 17 = .ok (.iand, 1) := by decide +kernel
theorem dX4_collide_18 : decode cX4_collide 18 = .ok (.ifCond .eq 37, 3) := by decide +kernel
theorem dX4_collide_21 : decode cX4_collide 21 = .ok (.aload_n 0, 1) := by decide +kernel
theorem dX4_collide_22 : decode cX4_collide 22 = .ok (.getfield 22, 3) := by decide +kernel
theorem dX4_collide_25 : decode cX4_collide 25 = .ok (.iload_n 1, 1) := by decide +kernel
theorem dX4_collide_26 : decode cX4_collide 26 = .ok (.iaload, 1) := by decide +kernel
theorem dX4_collide_27 : decode cX4_collide 27 = .ok (.aload_n 0, 1) := by decide +kernel
theorem dX4_collide_28 : decode cX4_collide 28 = .ok (.getfield 25, 3) := by decide +kernel
theorem dX4_collide_31 : decode cX4_collide 31 = .ok (.iload_n 2, 1) := by decide +kernel
theorem dX4_collide_32 : decode cX4_collide 32 = .ok (.iaload, 1) := by decide +kernel
theorem dX4_collide_33 : decode cX4_collide 33 = .ok (.if_icmp .ge 22, 3) := by decide +kernel
theorem dX4_collide_36 : decode cX4_collide 36 = .ok (.aload_n 0, 1) := by decide +kernel
theorem dX4_collide_37 : decode cX4_collide 37 = .ok (.getfield 22, 3) := by decide +kernel
theorem dX4_collide_40 : decode cX4_collide 40 = .ok (.iload_n 2, 1) := by decide +kernel
theorem dX4_collide_41 : decode cX4_collide 41 = .ok (.iaload, 1) := by decide +kernel
theorem dX4_collide_42 : decode cX4_collide 42 = .ok (.aload_n 0, 1) := by decide +kernel
theorem dX4_collide_43 : decode cX4_collide 43 = .ok (.getfield 25, 3) := by decide +kernel
theorem dX4_collide_46 : decode cX4_collide 46 = .ok (.iload_n 1, 1) := by decide +kernel
theorem dX4_collide_47 : decode cX4_collide 47 = .ok (.iaload, 1) := by decide +kernel
theorem dX4_collide_48 : decode cX4_collide 48 = .ok (.if_icmp .ge 7, 3) := by decide +kernel
theorem dX4_collide_51 : decode cX4_collide 51 = .ok (.iconst 1, 1) := by decide +kernel
theorem dX4_collide_52 : decode cX4_collide 52 = .ok (.goto 4, 3) := by decide +kernel
theorem dX4_collide_55 : decode cX4_collide 55 = .ok (.iconst 0, 1) := by decide +kernel
theorem dX4_collide_56 : decode cX4_collide 56 = .ok (.ireturn, 1) := by decide +kernel
theorem s_X4_collide {a1 a2 : Int} {s0 : xW} {q : Int} (h : F_X4_collide a1 a2 s0 = some q) : xC 0 0 0 mX4_collide [vR 92, vI a1, vI a2] 155 s0 (xRv (vI q) s0) := by
  refine xC.of [vR 92, vI a1, vI a2] (by decide +kernel) (Nat.le_of_ble_eq_true rfl) rfl ?_
  unfold F_X4_collide at h
  refine g_iln dX4_collide_0 rfl rfl ?_
  refine g_iln dX4_collide_1 rfl rfl ?_
  obtain ⟨j2, ej3, h⟩ := xjn_e h
  have hj4 : ∀ (t1 : Int), j2 t1 = some q → xG 0 0 0 mX4_collide 56 [vX, vX, vX] [vI t1] 155 s0 (xRv (vI q) s0) := by
    intro t1 h
    rw [ej3] at h
    obtain ⟨hg5, h⟩ := xgd_e h
    exact g_pZ rfl dX4_collide_56 hg5 h
  clear ej3
  obtain ⟨j6, ej7, h⟩ := xjn_e h
  have hj8 : j6  = some q → xG 0 0 0 mX4_collide 55 [vX, vX, vX] [] 155 s0 (xRv (vI q) s0) := by
    intro  h
    rw [ej7] at h
    refine g_ic dX4_collide_55 ?_
    exact hj4 0 h
  clear ej7
  refine g_weq dX4_collide_2 (tgt := 55) rfl rfl rfl (fun q9 => ?_) (fun q9 => ?_)
  · replace h := xif_f q9 h
    refine g_drop_0 ?_
    refine g_drop_1 ?_
    refine g_drop_2 ?_
    exact hj8  h
  · replace h := xif_t q9 h
    refine g_aln dX4_collide_5 rfl rfl (by decide) ?_
    refine g_getC 94 dX4_collide_6 fl_X4_19 rfl (by decide) ?_
    refine g_iln dX4_collide_9 rfl rfl ?_
    obtain ⟨hg10, h⟩ := xgd_e h
    refine g_iald 8 dX4_collide_10 rfl hg10 (by decide) ?_
    refine g_aln dX4_collide_11 rfl rfl (by decide) ?_
    refine g_getC 94 dX4_collide_12 fl_X4_19 rfl (by decide) ?_
    refine g_iln dX4_collide_15 rfl rfl ?_
    obtain ⟨hg11, h⟩ := xgd_e h
    refine g_iald 8 dX4_collide_16 rfl hg11 (by decide) ?_
    refine g_iand dX4_collide_17 ?_
    refine g_yeq dX4_collide_18 (tgt := 55) rfl rfl (fun q12 => ?_) (fun q12 => ?_)
    · replace h := xif_f q12 h
      refine g_drop_0 ?_
      refine g_drop_1 ?_
      refine g_drop_2 ?_
      exact hj8  h
    · replace h := xif_t q12 h
      refine g_aln dX4_collide_21 rfl rfl (by decide) ?_
      refine g_getC 95 dX4_collide_22 fl_X4_22 rfl (by decide) ?_
      refine g_iln dX4_collide_25 rfl rfl ?_
      obtain ⟨hg13, h⟩ := xgd_e h
      refine g_iald 8 dX4_collide_26 rfl hg13 (by decide) ?_
      refine g_aln dX4_collide_27 rfl rfl (by decide) ?_
      refine g_getC 96 dX4_collide_28 fl_X4_25 rfl (by decide) ?_
      refine g_iln dX4_collide_31 rfl rfl ?_
      obtain ⟨hg14, h⟩ := xgd_e h
      refine g_iald 8 dX4_collide_32 rfl hg14 (by decide) ?_
      refine g_wge dX4_collide_33 (tgt := 55) rfl rfl rfl (fun q15 => ?_) (fun q15 => ?_)
      · replace h := xif_f q15 h
        refine g_drop_0 ?_
        refine g_drop_1 ?_
        refine g_drop_2 ?_
        exact hj8  h
      · replace h := xif_t q15 h
        refine g_aln dX4_collide_36 rfl rfl (by decide) ?_
        refine g_getC 95 dX4_collide_37 fl_X4_22 rfl (by decide) ?_
        refine g_iln dX4_collide_40 rfl rfl ?_
        obtain ⟨hg16, h⟩ := xgd_e h
        refine g_iald 8 dX4_collide_41 rfl hg16 (by decide) ?_
        refine g_aln dX4_collide_42 rfl rfl (by decide) ?_
        refine g_getC 96 dX4_collide_43 fl_X4_25 rfl (by decide) ?_
        refine g_iln dX4_collide_46 rfl rfl ?_
        obtain ⟨hg17, h⟩ := xgd_e h
        refine g_iald 8 dX4_collide_47 rfl hg17 (by decide) ?_
        refine g_wge dX4_collide_48 (tgt := 55) rfl rfl rfl (fun q18 => ?_) (fun q18 => ?_)
        · replace h := xif_f q18 h
          refine g_drop_0 ?_
          refine g_drop_1 ?_
          refine g_drop_2 ?_
          exact hj8  h
        · replace h := xif_t q18 h
          refine g_ic dX4_collide_51 ?_
          refine g_goto dX4_collide_52 (tgt := 56) rfl ?_
          refine g_drop_0 ?_
          refine g_drop_1 ?_
          refine g_drop_2 ?_
          exact hj4 1 h
theorem dX4_pairs_0 : decode cX4_pairs 0 = .ok (.iconst 0, 1) := by decide +kernel
theorem dX4_pairs_1 : decode cX4_pairs 1 = .ok (.istore_n 1, 1) := by decide +kernel
theorem dX4_pairs_2 : decode cX4_pairs 2 = .ok (.iconst 0, 1) := by decide +kernel
theorem dX4_pairs_3 : decode cX4_pairs 3 = .ok (.istore_n 2, 1) := by decide +kernel
theorem dX4_pairs_4 : decode cX4_pairs 4 = .ok (.iload_n 2, 1) := by decide +kernel
theorem dX4_pairs_5 : decode cX4_pairs 5 = .ok (.aload_n 0, 1) := by decide +kernel
theorem dX4_pairs_6 : decode cX4_pairs 6 = .ok (.getfield 9, 3) := by decide +kernel
theorem dX4_pairs_9 : decode cX4_pairs 9 = .ok (.if_icmp .ge 44, 3) := by decide +kernel
theorem dX4_pairs_12 : decode cX4_pairs 12 = .ok (.iload_n 2, 1) := by decide +kernel
theorem dX4_pairs_13 : decode cX4_pairs 13 = .ok (.iconst 1, 1) := by decide +kernel
theorem dX4_pairs_14 : decode cX4_pairs 14 = .ok (.iadd, 1) := by decide +kernel
theorem dX4_pairs_15 : decode cX4_pairs 15 = .ok (.istore_n 3, 1) := by decide +kernel
theorem dX4_pairs_16 : decode cX4_pairs 16 = .ok (.iload_n 3, 1) := by decide +kernel
theorem dX4_pairs_17 : decode cX4_pairs 17 = .ok (.aload_n 0, 1) := by decide +kernel
theorem dX4_pairs_18 : decode cX4_pairs 18 = .ok (.getfield 9, 3) := by decide +kernel
theorem dX4_pairs_21 : decode cX4_pairs 21 = .ok (.if_icmp .ge 26, 3) := by decide +kernel
theorem dX4_pairs_24 : decode cX4_pairs 24 = .ok (.iload_n 1, 1) := by decide +kernel
theorem dX4_pairs_25 : decode cX4_pairs 25 = .ok (.aload_n 0, 1) := by decide +kernel
theorem dX4_pairs_26 : decode cX4_pairs 26 = .ok (.iload_n 2, 1) := by decide +kernel
theorem dX4_pairs_27 : decode cX4_pairs 27 = .ok (.iload_n 3, 1) := by decide +kernel
theorem dX4_pairs_28 : decode cX4_pairs 28 = .ok (.invokevirtual 37, 3) := by decide +kernel
theorem dX4_pairs_31 : decode cX4_pairs 31 = .ok (.ifCond .eq 7, 3) := by decide +kernel
theorem dX4_pairs_34 : decode cX4_pairs 34 = .ok (.iconst 1, 1) := by decide +kernel
theorem dX4_pairs_35 : decode cX4_pairs 35 = .ok (.goto 4, 3) := by decide +kernel
theorem dX4_pairs_38 : decode cX4_pairs 38 = .ok (.iconst 0, 1) := by decide +kernel
theorem dX4_pairs_39 : decode cX4_pairs 39 = .ok (.iadd, 1) := by decide +kernel
theorem dX4_pairs_40 : decode cX4_pairs 40 = .ok (.istore_n 1, 1) := by decide +kernel
theorem dX4_pairs_41 : decode cX4_pairs 41 = .ok (.iinc 3 1, 3) := by decide +kernel
theorem dX4_pairs_44 : decode cX4_pairs 44 = .ok (.goto (-28), 3) := by decide +kernel
theorem dX4_pairs_47 : decode cX4_pairs 47 = .ok (.iinc 2 1, 3) := by decide +kernel
theorem dX4_pairs_50 : decode cX4_pairs 50 = .ok (.goto (-46), 3) := by decide +kernel
theorem dX4_pairs_53 : decode cX4_pairs 53 = .ok (.iload_n 1, 1) := by decide +kernel
theorem dX4_pairs_54 : decode cX4_pairs 54 = .ok (.ireturn, 1) := by decide +kernel
theorem s_X4_pairs_16 {s8 : xW} {l2_6 : Int} {q : Int} {k : Int → Int → Option (Int)} (hk : ∀ (l1_16 : Int) (l3_17 : Int), k l1_16 l3_17 = some q → xG 1 0 0 mX4_pairs 47 [vR 92, vI l1_16, vI l2_6, vI l3_17] [] 155 s8 (xRv (vI q) s8)) : ∀ (f : Nat) (l1_5 : Int) (l3_7 : Int), F_X4_pairs_16 l2_6 s8 f l1_5 l3_7 k = some q → xG 1 0 0 mX4_pairs 16 [vR 92, vI l1_5, vI l2_6, vI l3_7] [] 155 s8 (xRv (vI q) s8) := by
  intro f
  induction f with
  | zero => intro l1_5 l3_7 h; cases h
  | succ f ih =>
    intro l1_5 l3_7 h
    unfold F_X4_pairs_16 at h
    refine g_iln dX4_pairs_16 rfl rfl ?_
    refine g_aln dX4_pairs_17 rfl rfl (by decide) ?_
    refine g_getI 0 dX4_pairs_18 fl_X4_9 rfl rfl ?_
    refine g_wge dX4_pairs_21 (tgt := 47) rfl rfl rfl (fun q9 => ?_) (fun q9 => ?_)
    · replace h := xif_f q9 h
      exact hk l1_5 l3_7 h
    · replace h := xif_t q9 h
      refine g_iln dX4_pairs_24 rfl rfl ?_
      refine g_aln dX4_pairs_25 rfl rfl (by decide) ?_
      refine g_iln dX4_pairs_26 rfl rfl ?_
      refine g_iln dX4_pairs_27 rfl rfl ?_
      obtain ⟨r11, e10, h⟩ := xbp_e h
      refine g_cV2v dX4_pairs_28 ml_X4_37 rfl (s_X4_collide e10) (by decide) rfl ?_
      obtain ⟨v13, e14, h⟩ := xlt_e h
      have hj15 : xG 1 0 0 mX4_pairs 39 [vR 92, vX, vI l2_6, vI l3_7] [vI v13, vI l1_5] 155 s8 (xRv (vI q) s8) := by
        refine g_iadd dX4_pairs_39 ?_
        refine g_istn_1 dX4_pairs_40 (by decide) rfl ?_
        refine g_inc_3 dX4_pairs_41 (by decide) rfl ?_
        refine g_goto dX4_pairs_44 (tgt := 16) rfl ?_
        exact ih (l1_5 + v13) (l3_7 + 1) h
      refine g_yeq dX4_pairs_31 (tgt := 38) rfl rfl (fun c12 => ?_) (fun c12 => ?_)
      · skip
        refine g_ic dX4_pairs_38 ?_
        refine g_drop_1 ?_
        exact g_vq ((if_neg c12).symm.trans e14) hj15
      · skip
        refine g_ic dX4_pairs_34 ?_
        refine g_goto dX4_pairs_35 (tgt := 39) rfl ?_
        refine g_drop_1 ?_
        exact g_vq ((if_pos c12).symm.trans e14) hj15
theorem s_X4_pairs_4 {s3 : xW} {q : Int} {k : Int → Int → Option (Int)} (hk : ∀ (l1_20 : Int) (l2_21 : Int), k l1_20 l2_21 = some q → xG 1 0 0 mX4_pairs 53 [vR 92, vI l1_20, vI l2_21, vX] [] 155 s3 (xRv (vI q) s3)) : ∀ (f : Nat) (l1_1 : Int) (l2_2 : Int), F_X4_pairs_4 s3 f l1_1 l2_2 k = some q → xG 1 0 0 mX4_pairs 4 [vR 92, vI l1_1, vI l2_2, vX] [] 155 s3 (xRv (vI q) s3) := by
  intro f
  induction f with
  | zero => intro l1_1 l2_2 h; cases h
  | succ f ih =>
    intro l1_1 l2_2 h
    unfold F_X4_pairs_4 at h
    refine g_iln dX4_pairs_4 rfl rfl ?_
    refine g_aln dX4_pairs_5 rfl rfl (by decide) ?_
    refine g_getI 0 dX4_pairs_6 fl_X4_9 rfl rfl ?_
    refine g_wge dX4_pairs_9 (tgt := 53) rfl rfl rfl (fun q4 => ?_) (fun q4 => ?_)
    · replace h := xif_f q4 h
      exact hk l1_1 l2_2 h
    · replace h := xif_t q4 h
      refine g_iln dX4_pairs_12 rfl rfl ?_
      refine g_ic dX4_pairs_13 ?_
      refine g_iadd dX4_pairs_14 ?_
      refine g_istn_3 dX4_pairs_15 (by decide) rfl ?_
      refine s_X4_pairs_16 (fun l1_18 l3_19 h => ?_) xN _ _ h
      refine g_inc_2 dX4_pairs_47 (by decide) rfl ?_
      refine g_goto dX4_pairs_50 (tgt := 4) rfl ?_
      refine g_drop_3 ?_
      exact ih l1_18 (l2_2 + 1) h
theorem s_X4_pairs {s0 : xW} {q : Int} (h : F_X4_pairs  s0 = some q) : xC 1 0 0 mX4_pairs [vR 92] 155 s0 (xRv (vI q) s0) := by
  refine xC.of [vR 92, vX, vX, vX] (by decide +kernel) (Nat.le_of_ble_eq_true rfl) rfl ?_
  unfold F_X4_pairs at h
  refine g_ic dX4_pairs_0 ?_
  refine g_istn_1 dX4_pairs_1 (by decide) rfl ?_
  refine g_ic dX4_pairs_2 ?_
  refine g_istn_2 dX4_pairs_3 (by decide) rfl ?_
  refine s_X4_pairs_4 (fun l1_22 l2_23 h => ?_) xN _ _ h
  refine g_iln dX4_pairs_53 rfl rfl ?_
  exact g_pI rfl dX4_pairs_54 h
theorem dX10_pairsOn_0 : decode cX10_pairsOn 0 = .ok (.aload_n 0, 1) := by decide +kernel
theorem dX10_pairsOn_1 : decode cX10_pairsOn 1 = .ok (.aload_n 0, 1) := by decide +kernel
theorem dX10_pairsOn_2 : decode cX10_pairsOn 2 = .ok (.getfield 36, 3) := by decide +kernel
theorem dX10_pairsOn_5 : decode cX10_pairsOn 5 = .ok (.aload_n 0, 1) := by decide +kernel
theorem dX10_pairsOn_6 : decode cX10_pairsOn 6 = .ok (.getfield 46, 3) := by decide +kernel
theorem dX10_pairsOn_9 : decode cX10_pairsOn 9 = .ok (.getfield 379, 3) := by decide +kernel
theorem dX10_pairsOn_12 : decode cX10_pairsOn 12 = .ok (.iload_n 1, 1) := by decide +kernel
theorem dX10_pairsOn_13 : decode cX10_pairsOn 13 = .ok (.invokevirtual 305, 3) := by decide +kernel
theorem dX10_pairsOn_16 : decode cX10_pairsOn 16 = .ok (.aload_n 0, 1) := by decide +kernel
theorem dX10_pairsOn_17 : decode cX10_pairsOn 17 = .ok (.getfield 75, 3) := by decide +kernel
theorem dX10_pairsOn_20 : decode cX10_pairsOn 20 = .ok (.invokevirtual 309, 3) := by decide +kernel
theorem dX10_pairsOn_23 : decode cX10_pairsOn 23 = .ok (.ireturn, 1) := by decide +kernel
theorem s_X10_pairsOn {a1 : Int} {s0 : xW} {q : Int × xW} (h : F_X10_pairsOn a1 s0 = some q) : xC 4 0 0 mX10_pairsOn [vR 0, vI a1] 155 s0 (xRv (vI q.1) q.2) := by
  refine xC.of [vR 0, vI a1] (by decide +kernel) (Nat.le_of_ble_eq_true rfl) rfl ?_
  unfold F_X10_pairsOn at h
  refine g_aln dX10_pairsOn_0 rfl rfl (by decide) ?_
  refine g_aln dX10_pairsOn_1 rfl rfl (by decide) ?_
  obtain ⟨hg1, h⟩ := xgd_e h
  refine g_getR 4 dX10_pairsOn_2 fl_X10_36 rfl rfl ?_
  refine g_aln dX10_pairsOn_5 rfl rfl (by decide) ?_
  refine g_getC 17 dX10_pairsOn_6 fl_X10_46 rfl (by decide) ?_
  refine g_getI 0 dX10_pairsOn_9 fl_X10_379 rfl rfl ?_
  refine g_iln dX10_pairsOn_12 rfl rfl ?_
  obtain ⟨s3, e2, h⟩ := xbp_e h
  refine g_cV30 dX10_pairsOn_13 ml_X10_305 rfl (s_X10_planFor e2) (by decide) rfl ?_
  refine g_aln dX10_pairsOn_16 rfl rfl (by decide) ?_
  refine g_getC 92 dX10_pairsOn_17 fl_X10_75 rfl (by decide) ?_
  obtain ⟨r5, e4, h⟩ := xbp_e h
  refine g_cV0v dX10_pairsOn_20 ml_X10_309 rfl (s_X4_pairs e4) (by decide) rfl ?_
  exact g_rI rfl dX10_pairsOn_23 h
theorem dX10_ahead_0 : decode cX10_ahead 0 = .ok (.iload_n 1, 1) := by decide +kernel
theorem dX10_ahead_1 : decode cX10_ahead 1 = .ok (.ifCond .lt 9, 3) := by decide +kernel
theorem dX10_ahead_4 : decode cX10_ahead 4 = .ok (.iload_n 1, 1) := by decide +kernel
theorem dX10_ahead_5 : decode cX10_ahead 5 = .ok (.bipush 100, 2) := by decide +kernel
theorem dX10_ahead_7 : decode cX10_ahead 7 = .ok (.if_icmp .lt 5, 3) := by decide +kernel
theorem dX10_ahead_10 : decode cX10_ahead 10 = .ok (.iconst (-1), 1) := by decide +kernel
theorem dX10_ahead_11 : decode cX10_ahead 11 = .ok (.ireturn, 1) := by decide +kernel
theorem dX10_ahead_12 : decode cX10_ahead 12 = .ok (.aload_n 0, 1) := by decide +kernel
theorem dX10_ahead_13 : decode cX10_ahead 13 = .ok (.getfield 46, 3) := by decide +kernel
theorem dX10_ahead_16 : decode cX10_ahead 16 = .ok (.getfield 277, 3) := by decide +kernel
theorem dX10_ahead_19 : decode cX10_ahead 19 = .ok (.iload_n 1, 1) := by decide +kernel
theorem dX10_ahead_20 : decode cX10_ahead 20 = .ok (.iadd, 1) := by decide +kernel
theorem dX10_ahead_21 : decode cX10_ahead 21 = .ok (.istore_n 2, 1) := by decide +kernel
theorem dX10_ahead_22 : decode cX10_ahead 22 = .ok (.aload_n 0, 1) := by decide +kernel
theorem dX10_ahead_23 : decode cX10_ahead 23 = .ok (.getfield 19, 3) := by decide +kernel
theorem dX10_ahead_26 : decode cX10_ahead 26 = .ok (.aload_n 0, 1) := by decide +kernel
theorem dX10_ahead_27 : decode cX10_ahead 27 = .ok (.getfield 30, 3) := by decide +kernel
theorem dX10_ahead_30 : decode cX10_ahead 30 = .ok (.iload_n 2, 1) := by decide +kernel
theorem dX10_ahead_31 : decode cX10_ahead 31 = .ok (.invokevirtual 280, 3) := by decide +kernel
theorem dX10_ahead_34 : decode cX10_ahead 34 = .ok (.i2l, 1) := by decide +kernel
theorem dX10_ahead_35 : decode cX10_ahead 35 = .ok (.aload_n 0, 1) := by decide +kernel
theorem dX10_ahead_36 : decode cX10_ahead 36 = .ok (.getfield 26, 3) := by decide +kernel
theorem dX10_ahead_39 : decode cX10_ahead 39 = .ok (.iload_n 2, 1) := by decide +kernel
theorem dX10_ahead_40 : decode cX10_ahead 40 = .ok (.invokevirtual 280, 3) := by decide +kernel
theorem dX10_ahead_43 : decode cX10_ahead 43 = .ok (.i2l, 1) := by decide +kernel
theorem dX10_ahead_44 : decode cX10_ahead 44 = .ok (.invokevirtual 242, 3) := by decide +kernel
theorem dX10_ahead_47 : decode cX10_ahead 47 = .ok (.aload_n 0, 1) := by decide +kernel
theorem dX10_ahead_48 : decode cX10_ahead 48 = .ok (.iload_n 2, 1) := by decide +kernel
theorem dX10_ahead_49 : decode cX10_ahead 49 = .ok (.invokevirtual 283, 3) := by decide +kernel
theorem dX10_ahead_52 : decode cX10_ahead 52 = .ok (.ireturn, 1) := by decide +kernel
theorem s_X10_ahead {a1 : Int} {s0 : xW} {q : Int × xW} (h : F_X10_ahead a1 s0 = some q) : xC 5 0 0 mX10_ahead [vR 0, vI a1] 155 s0 (xRv (vI q.1) q.2) := by
  refine xC.of [vR 0, vI a1, vX] (by decide +kernel) (Nat.le_of_ble_eq_true rfl) rfl ?_
  unfold F_X10_ahead at h
  refine g_iln dX10_ahead_0 rfl rfl ?_
  obtain ⟨j1, ej2, h⟩ := xjn_e h
  have hj3 : j1  = some q → xG 5 0 0 mX10_ahead 10 [vX, vX, vX] [] 155 s0 (xRv (vI q.1) q.2) := by
    intro  h
    rw [ej2] at h
    refine g_ic dX10_ahead_10 ?_
    exact g_rI rfl dX10_ahead_11 h
  clear ej2
  refine g_ylt dX10_ahead_1 (tgt := 10) rfl rfl (fun q4 => ?_) (fun q4 => ?_)
  · replace h := xif_f q4 h
    refine g_drop_0 ?_
    refine g_drop_1 ?_
    exact hj3  h
  · replace h := xif_t q4 h
    refine g_iln dX10_ahead_4 rfl rfl ?_
    refine g_bi dX10_ahead_5 (by decide) ?_
    refine g_wlt dX10_ahead_7 (tgt := 12) rfl rfl (xw_id (by decide)) (fun q5 => ?_) (fun q5 => ?_)
    · replace h := xif_f q5 h
      refine g_aln dX10_ahead_12 rfl rfl (by decide) ?_
      refine g_getC 17 dX10_ahead_13 fl_X10_46 rfl (by decide) ?_
      refine g_getI 5 dX10_ahead_16 fl_X10_277 rfl rfl ?_
      refine g_iln dX10_ahead_19 rfl rfl ?_
      refine g_iadd dX10_ahead_20 ?_
      refine g_istn_2 dX10_ahead_21 (by decide) rfl ?_
      refine g_aln dX10_ahead_22 rfl rfl (by decide) ?_
      refine g_getC 3 dX10_ahead_23 fl_X10_19 rfl (by decide) ?_
      refine g_aln dX10_ahead_26 rfl rfl (by decide) ?_
      refine g_getC 7 dX10_ahead_27 fl_X10_30 rfl (by decide) ?_
      refine g_iln dX10_ahead_30 rfl rfl ?_
      obtain ⟨r7, e6, h⟩ := xbp_e h
      refine g_cV1v dX10_ahead_31 ml_X10_280 rfl (s_X1_of e6) (by decide) rfl ?_
      refine g_wi2l dX10_ahead_34 rfl ?_
      refine g_aln dX10_ahead_35 rfl rfl (by decide) ?_
      refine g_getC 5 dX10_ahead_36 fl_X10_26 rfl (by decide) ?_
      refine g_iln dX10_ahead_39 rfl rfl ?_
      obtain ⟨r9, e8, h⟩ := xbp_e h
      refine g_cV1v dX10_ahead_40 ml_X10_280 rfl (s_X1_of e8) (by decide) rfl ?_
      refine g_wi2l dX10_ahead_43 rfl ?_
      obtain ⟨s11, e10, h⟩ := xbp_e h
      refine g_cV20 dX10_ahead_44 ml_X10_242 rfl (s_X6_tell_ e10) (by decide) rfl ?_
      refine g_aln dX10_ahead_47 rfl rfl (by decide) ?_
      refine g_iln dX10_ahead_48 rfl rfl ?_
      obtain ⟨r13, s14, e12, h⟩ := xbd_e h
      refine g_cV1v dX10_ahead_49 ml_X10_283 rfl (s_X10_pairsOn e12) (by decide) rfl ?_
      exact g_rI rfl dX10_ahead_52 h
    · replace h := xif_t q5 h
      refine g_drop_0 ?_
      refine g_drop_1 ?_
      exact hj3  h
theorem dX10_apart_0 : decode cX10_apart 0 = .ok (.aload_n 0, 1) := by decide +kernel
theorem dX10_apart_1 : decode cX10_apart 1 = .ok (.getfield 93, 3) := by decide +kernel
theorem dX10_apart_4 : decode cX10_apart 4 = .ok (.iconst 2, 1) := by decide +kernel
theorem dX10_apart_5 : decode cX10_apart 5 = .ok (.if_icmp .ge 6, 3) := by decide +kernel
theorem dX10_apart_8 : decode cX10_apart 8 = .ok (.bipush (-2), 2) := by decide +kernel
theorem dX10_apart_10 : decode cX10_apart 10 = .ok (.ireturn, 1) := by decide +kernel
theorem dX10_apart_11 : decode cX10_apart 11 = .ok (.iconst (-1), 1) := by decide +kernel
theorem dX10_apart_12 : decode cX10_apart 12 = .ok (.istore_n 1, 1) := by decide +kernel
theorem dX10_apart_13 : decode cX10_apart 13 = .ok (.iconst 0, 1) := by decide +kernel
theorem dX10_apart_14 : decode cX10_apart 14 = .ok (.istore_n 2, 1) := by decide +kernel
theorem dX10_apart_15 : decode cX10_apart 15 = .ok (.iload_n 2, 1) := by decide +kernel
theorem dX10_apart_16 : decode cX10_apart 16 = .ok (.aload_n 0, 1) := by decide +kernel
theorem dX10_apart_17 : decode cX10_apart 17 = .ok (.getfield 93, 3) := by decide +kernel
theorem dX10_apart_20 : decode cX10_apart 20 = .ok (.if_icmp .ge 71, 3) := by decide +kernel
theorem dX10_apart_23 : decode cX10_apart 23 = .ok (.iload_n 2, 1) := by decide +kernel
theorem dX10_apart_24 : decode cX10_apart 24 = .ok (.iconst 1, 1) := by decide +kernel
theorem dX10_apart_25 : decode cX10_apart 25 = .ok (.iadd, 1) := by decide +kernel
theorem dX10_apart_26 : decode cX10_apart 26 = .ok (.istore_n 3, 1) := by decide +kernel
theorem dX10_apart_27 : decode cX10_apart 27 = .ok (.iload_n 3, 1) := by decide +kernel
theorem dX10_apart_28 : decode cX10_apart 28 = .ok (.aload_n 0, 1) := by decide +kernel
theorem dX10_apart_29 : decode cX10_apart 29 = .ok (.getfield 93, 3) := by decide +kernel
theorem dX10_apart_32 : decode cX10_apart 32 = .ok (.if_icmp .ge 53, 3) := by decide +kernel
theorem dX10_apart_35 : decode cX10_apart 35 = .ok (.aload_n 0, 1) := by decide +kernel
theorem dX10_apart_36 : decode cX10_apart 36 = .ok (.getfield 46, 3) := by decide +kernel
theorem dX10_apart_39 : decode cX10_apart 39 = .ok (.getfield 155, 3) := by decide +kernel
theorem dX10_apart_42 : decode cX10_apart 42 = .ok (.iload_n 2, 1) := by decide +kernel
theorem dX10_apart_43 : decode cX10_apart 43 = .ok (.iaload, 1) := by decide +kernel
theorem dX10_apart_44 : decode cX10_apart 44 = .ok (.aload_n 0, 1) := by decide +kernel
theorem dX10_apart_45 : decode cX10_apart 45 = .ok (.getfield 46, 3) := by decide +kernel
theorem dX10_apart_48 : decode cX10_apart 48 = .ok (.getfield 155, 3) := by decide +kernel
theorem dX10_apart_51 : decode cX10_apart 51 = .ok (.iload_n 3, 1) := by decide +kernel
theorem dX10_apart_52 : decode cX10_apart 52 = .ok (.iaload, 1) := by decide +kernel
theorem dX10_apart_53 : decode cX10_apart 53 = .ok (.isub, 1) := by decide +kernel
theorem dX10_apart_54 : decode cX10_apart 54 = .ok (.invokestatic 349, 3) := by decide +kernel
theorem dX10_apart_57 : decode cX10_apart 57 = .ok (.istore 4, 2) := by decide +kernel
theorem dX10_apart_59 : decode cX10_apart 59 = .ok (.iload 4, 2) := by decide +kernel
theorem dX10_apart_61 : decode cX10_apart 61 = .ok (.iload_n 1, 1) := by decide +kernel
theorem dX10_apart_62 : decode cX10_apart 62 = .ok (.if_icmp .le 17, 3) := by decide +kernel
theorem dX10_apart_65 : decode cX10_apart 65 = .ok (.iload 4, 2) := by decide +kernel
theorem dX10_apart_67 : decode cX10_apart 67 = .ok (.istore_n 1, 1) := by decide +kernel
theorem dX10_apart_68 : decode cX10_apart 68 = .ok (.aload_n 0, 1) := by decide +kernel
theorem dX10_apart_69 : decode cX10_apart 69 = .ok (.getfield 19, 3) := by decide +kernel
theorem dX10_apart_72 : decode cX10_apart 72 = .ok (.iload_n 2, 1) := by decide +kernel
theorem dX10_apart_73 : decode cX10_apart 73 = .ok (.i2l, 1) := by decide +kernel
theorem dX10_apart_74 : decode cX10_apart 74 = .ok (.iload_n 3, 1) := by decide +kernel
theorem dX10_apart_75 : decode cX10_apart 75 = .ok (.i2l, 1) := by decide +kernel
theorem dX10_apart_76 : decode cX10_apart 76 = .ok (.invokevirtual 242, 3) := by decide +kernel
theorem dX10_apart_79 : decode cX10_apart 79 = .ok (.iinc 3 1, 3) := by decide +kernel
theorem dX10_apart_82 : decode cX10_apart 82 = .ok (.goto (-55), 3) := by decide +kernel
theorem dX10_apart_85 : decode cX10_apart 85 = .ok (.iinc 2 1, 3) := by decide +kernel
theorem dX10_apart_88 : decode cX10_apart 88 = .ok (.goto (-73), 3) := by decide +kernel
theorem dX10_apart_91 : decode cX10_apart 91 = .ok (.iload_n 1, 1) := by decide +kernel
theorem dX10_apart_92 : decode cX10_apart 92 = .ok (.ireturn, 1) := by decide +kernel
theorem s_X10_apart_27 {l2_7 : Int} {q : Int × xW} {k : Int → Int → xW → Option (Int × xW)} (hk : ∀ (l1_21 : Int) (l3_22 : Int) (s23 : xW), k l1_21 l3_22 s23 = some q → xG 3 0 0 mX10_apart 85 [vR 0, vI l1_21, vI l2_7, vI l3_22, vX] [] 155 s23 (xRv (vI q.1) q.2)) : ∀ (f : Nat) (l1_6 : Int) (l3_8 : Int) (s9 : xW), F_X10_apart_27 l2_7 f l1_6 l3_8 s9 k = some q → xG 3 0 0 mX10_apart 27 [vR 0, vI l1_6, vI l2_7, vI l3_8, vX] [] 155 s9 (xRv (vI q.1) q.2) := by
  intro f
  induction f with
  | zero => intro l1_6 l3_8 s9 h; cases h
  | succ f ih =>
    intro l1_6 l3_8 s9 h
    unfold F_X10_apart_27 at h
    refine g_iln dX10_apart_27 rfl rfl ?_
    refine g_aln dX10_apart_28 rfl rfl (by decide) ?_
    refine g_getI 14 dX10_apart_29 fl_X10_93 rfl rfl ?_
    refine g_wge dX10_apart_32 (tgt := 85) rfl rfl rfl (fun q10 => ?_) (fun q10 => ?_)
    · replace h := xif_f q10 h
      exact hk l1_6 l3_8 s9 h
    · replace h := xif_t q10 h
      refine g_aln dX10_apart_35 rfl rfl (by decide) ?_
      refine g_getC 17 dX10_apart_36 fl_X10_46 rfl (by decide) ?_
      refine g_getC 19 dX10_apart_39 fl_X10_155 rfl (by decide) ?_
      refine g_iln dX10_apart_42 rfl rfl ?_
      obtain ⟨hg11, h⟩ := xgd_e h
      refine g_iald 8 dX10_apart_43 rfl hg11 (by decide) ?_
      refine g_aln dX10_apart_44 rfl rfl (by decide) ?_
      refine g_getC 17 dX10_apart_45 fl_X10_46 rfl (by decide) ?_
      refine g_getC 19 dX10_apart_48 fl_X10_155 rfl (by decide) ?_
      refine g_iln dX10_apart_51 rfl rfl ?_
      obtain ⟨hg12, h⟩ := xgd_e h
      refine g_iald 8 dX10_apart_52 rfl hg12 (by decide) ?_
      refine g_isub dX10_apart_53 ?_
      refine g_wabs dX10_apart_54 mx_X10_349 rfl (by decide) rfl ?_
      refine g_ist_4 dX10_apart_57 (by decide) rfl ?_
      refine g_il dX10_apart_59 rfl ?_
      refine g_iln dX10_apart_61 rfl rfl ?_
      obtain ⟨j15, ej16, h⟩ := xjn_e h
      have hj17 : ∀ (l1_13 : Int) (s14 : xW), j15 l1_13 s14 = some q → xG 3 0 0 mX10_apart 79 [vR 0, vI l1_13, vI l2_7, vI l3_8, vX] [] 155 s14 (xRv (vI q.1) q.2) := by
        intro l1_13 s14 h
        rw [ej16] at h
        refine g_inc_3 dX10_apart_79 (by decide) rfl ?_
        refine g_goto dX10_apart_82 (tgt := 27) rfl ?_
        exact ih l1_13 (l3_8 + 1) s14 h
      clear ej16
      refine g_wle dX10_apart_62 (tgt := 79) rfl rfl rfl (fun q18 => ?_) (fun q18 => ?_)
      · replace h := xif_f q18 h
        refine g_drop_4 ?_
        exact hj17 l1_6 s9 h
      · replace h := xif_t q18 h
        refine g_il dX10_apart_65 rfl ?_
        refine g_istn_1 dX10_apart_67 (by decide) rfl ?_
        refine g_aln dX10_apart_68 rfl rfl (by decide) ?_
        refine g_getC 3 dX10_apart_69 fl_X10_19 rfl (by decide) ?_
        refine g_iln dX10_apart_72 rfl rfl ?_
        refine g_wi2l dX10_apart_73 rfl ?_
        refine g_iln dX10_apart_74 rfl rfl ?_
        refine g_wi2l dX10_apart_75 rfl ?_
        obtain ⟨s20, e19, h⟩ := xbp_e h
        refine g_cV20 dX10_apart_76 ml_X10_242 rfl (s_X6_tell_ e19) (by decide) rfl ?_
        refine g_drop_4 ?_
        exact hj17 (xab (xw ((s9 19 l2_7) - (s9 19 l3_8)))) s20 h
theorem s_X10_apart_15 {q : Int × xW} {k : Int → Int → xW → Option (Int × xW)} (hk : ∀ (l1_27 : Int) (l2_28 : Int) (s29 : xW), k l1_27 l2_28 s29 = some q → xG 3 0 0 mX10_apart 91 [vR 0, vI l1_27, vI l2_28, vX, vX] [] 155 s29 (xRv (vI q.1) q.2)) : ∀ (f : Nat) (l1_2 : Int) (l2_3 : Int) (s4 : xW), F_X10_apart_15  f l1_2 l2_3 s4 k = some q → xG 3 0 0 mX10_apart 15 [vR 0, vI l1_2, vI l2_3, vX, vX] [] 155 s4 (xRv (vI q.1) q.2) := by
  intro f
  induction f with
  | zero => intro l1_2 l2_3 s4 h; cases h
  | succ f ih =>
    intro l1_2 l2_3 s4 h
    unfold F_X10_apart_15 at h
    refine g_iln dX10_apart_15 rfl rfl ?_
    refine g_aln dX10_apart_16 rfl rfl (by decide) ?_
    refine g_getI 14 dX10_apart_17 fl_X10_93 rfl rfl ?_
    refine g_wge dX10_apart_20 (tgt := 91) rfl rfl rfl (fun q5 => ?_) (fun q5 => ?_)
    · replace h := xif_f q5 h
      exact hk l1_2 l2_3 s4 h
    · replace h := xif_t q5 h
      refine g_iln dX10_apart_23 rfl rfl ?_
      refine g_ic dX10_apart_24 ?_
      refine g_iadd dX10_apart_25 ?_
      refine g_istn_3 dX10_apart_26 (by decide) rfl ?_
      refine s_X10_apart_27 (fun l1_24 l3_25 s26 h => ?_) xN _ _ _ h
      refine g_inc_2 dX10_apart_85 (by decide) rfl ?_
      refine g_goto dX10_apart_88 (tgt := 15) rfl ?_
      refine g_drop_3 ?_
      exact ih l1_24 (l2_3 + 1) s26 h
theorem s_X10_apart {s0 : xW} {q : Int × xW} (h : F_X10_apart  s0 = some q) : xC 3 0 0 mX10_apart [vR 0] 155 s0 (xRv (vI q.1) q.2) := by
  refine xC.of [vR 0, vX, vX, vX, vX] (by decide +kernel) (Nat.le_of_ble_eq_true rfl) rfl ?_
  unfold F_X10_apart at h
  refine g_aln dX10_apart_0 rfl rfl (by decide) ?_
  refine g_getI 14 dX10_apart_1 fl_X10_93 rfl rfl ?_
  refine g_ic dX10_apart_4 ?_
  refine g_wge dX10_apart_5 (tgt := 11) rfl rfl (xw_id (by decide)) (fun q1 => ?_) (fun q1 => ?_)
  · replace h := xif_f q1 h
    refine g_ic dX10_apart_11 ?_
    refine g_istn_1 dX10_apart_12 (by decide) rfl ?_
    refine g_ic dX10_apart_13 ?_
    refine g_istn_2 dX10_apart_14 (by decide) rfl ?_
    refine s_X10_apart_15 (fun l1_30 l2_31 s32 h => ?_) xN _ _ _ h
    refine g_iln dX10_apart_91 rfl rfl ?_
    exact g_rI rfl dX10_apart_92 h
  · replace h := xif_t q1 h
    refine g_bi dX10_apart_8 (by decide) ?_
    exact g_rI rfl dX10_apart_10 h
theorem dX10_minuteBy_0 : decode cX10_minuteBy 0 = .ok (.aload_n 0, 1) := by decide +kernel
theorem dX10_minuteBy_1 : decode cX10_minuteBy 1 = .ok (.getfield 46, 3) := by decide +kernel
theorem dX10_minuteBy_4 : decode cX10_minuteBy 4 = .ok (.getfield 152, 3) := by decide +kernel
theorem dX10_minuteBy_7 : decode cX10_minuteBy 7 = .ok (.iload_n 2, 1) := by decide +kernel
theorem dX10_minuteBy_8 : decode cX10_minuteBy 8 = .ok (.iaload, 1) := by decide +kernel
theorem dX10_minuteBy_9 : decode cX10_minuteBy 9 = .ok (.istore_n 3, 1) := by decide +kernel
theorem dX10_minuteBy_10 : decode cX10_minuteBy 10 = .ok (.aload_n 0, 1) := by decide +kernel
theorem dX10_minuteBy_11 : decode cX10_minuteBy 11 = .ok (.getfield 68, 3) := by decide +kernel
theorem dX10_minuteBy_14 : decode cX10_minuteBy 14 = .ok (.aload_n 0, 1) := by decide +kernel
theorem dX10_minuteBy_15 : decode cX10_minuteBy 15 = .ok (.getfield 46, 3) := by decide +kernel
theorem dX10_minuteBy_18 : decode cX10_minuteBy 18 = .ok (.getfield 277, 3) := by decide +kernel
theorem dX10_minuteBy_21 : decode cX10_minuteBy 21 = .ok (.iload_n 1, 1) := by decide +kernel
theorem dX10_minuteBy_22 : decode cX10_minuteBy 22 = .ok (.bipush 10, 2) := by decide +kernel
theorem dX10_minuteBy_24 : decode cX10_minuteBy 24 = .ok (.idiv, 1) := by decide +kernel
theorem dX10_minuteBy_25 : decode cX10_minuteBy 25 = .ok (.iload_n 1, 1) := by decide +kernel
theorem dX10_minuteBy_26 : decode cX10_minuteBy 26 = .ok (.bipush 10, 2) := by decide +kernel
theorem dX10_minuteBy_28 : decode cX10_minuteBy 28 = .ok (.irem, 1) := by decide +kernel
theorem dX10_minuteBy_29 : decode cX10_minuteBy 29 = .ok (.invokevirtual 442, 3) := by decide +kernel
theorem dX10_minuteBy_32 : decode cX10_minuteBy 32 = .ok (.aload_n 0, 1) := by decide +kernel
theorem dX10_minuteBy_33 : decode cX10_minuteBy 33 = .ok (.getfield 68, 3) := by decide +kernel
theorem dX10_minuteBy_36 : decode cX10_minuteBy 36 = .ok (.aload_n 0, 1) := by decide +kernel
theorem dX10_minuteBy_37 : decode cX10_minuteBy 37 = .ok (.getfield 36, 3) := by decide +kernel
theorem dX10_minuteBy_40 : decode cX10_minuteBy 40 = .ok (.aload_n 0, 1) := by decide +kernel
theorem dX10_minuteBy_41 : decode cX10_minuteBy 41 = .ok (.getfield 46, 3) := by decide +kernel
theorem dX10_minuteBy_44 : decode cX10_minuteBy 44 = .ok (.getfield 379, 3) := by decide +kernel
theorem dX10_minuteBy_47 : decode cX10_minuteBy 47 = .ok (.iload_n 3, 1) := by decide +kernel
theorem dX10_minuteBy_48 : decode cX10_minuteBy 48 = .ok (.invokestatic 435, 3) := by decide +kernel
theorem dX10_minuteBy_51 : decode cX10_minuteBy 51 = .ok (.iload_n 3, 1) := by decide +kernel
theorem dX10_minuteBy_52 : decode cX10_minuteBy 52 = .ok (.iconst 0, 1) := by decide +kernel
theorem dX10_minuteBy_53 : decode cX10_minuteBy 53 = .ok (.invokevirtual 446, 3) := by decide +kernel
theorem dX10_minuteBy_56 : decode cX10_minuteBy 56 = .ok (.ireturn, 1) := by decide +kernel
theorem s_X10_minuteBy {a1 a2 : Int} {s0 : xW} {q : Int × xW} (h : F_X10_minuteBy a1 a2 s0 = some q) : xC 3 0 0 mX10_minuteBy [vR 0, vI a1, vI a2] 155 s0 (xRv (vI q.1) q.2) := by
  refine xC.of [vR 0, vI a1, vI a2, vX] (by decide +kernel) (Nat.le_of_ble_eq_true rfl) rfl ?_
  unfold F_X10_minuteBy at h
  refine g_aln dX10_minuteBy_0 rfl rfl (by decide) ?_
  refine g_getC 17 dX10_minuteBy_1 fl_X10_46 rfl (by decide) ?_
  refine g_getC 18 dX10_minuteBy_4 fl_X10_152 rfl (by decide) ?_
  refine g_iln dX10_minuteBy_7 rfl rfl ?_
  obtain ⟨hg1, h⟩ := xgd_e h
  refine g_iald 8 dX10_minuteBy_8 rfl hg1 (by decide) ?_
  refine g_istn_3 dX10_minuteBy_9 (by decide) rfl ?_
  refine g_aln dX10_minuteBy_10 rfl rfl (by decide) ?_
  refine g_getC 89 dX10_minuteBy_11 fl_X10_68 rfl (by decide) ?_
  refine g_aln dX10_minuteBy_14 rfl rfl (by decide) ?_
  refine g_getC 17 dX10_minuteBy_15 fl_X10_46 rfl (by decide) ?_
  refine g_getI 5 dX10_minuteBy_18 fl_X10_277 rfl rfl ?_
  refine g_iln dX10_minuteBy_21 rfl rfl ?_
  refine g_bi dX10_minuteBy_22 (by decide) ?_
  refine g_wdiv dX10_minuteBy_24 rfl (xw_id (by decide)) (by decide) ?_
  refine g_iln dX10_minuteBy_25 rfl rfl ?_
  refine g_bi dX10_minuteBy_26 (by decide) ?_
  refine g_wrem dX10_minuteBy_28 rfl (xw_id (by decide)) (by decide) ?_
  obtain ⟨s3, e2, h⟩ := xbp_e h
  refine g_cV30 dX10_minuteBy_29 ml_X10_442 rfl (s_X0_on e2) (by decide) rfl ?_
  refine g_aln dX10_minuteBy_32 rfl rfl (by decide) ?_
  refine g_getC 89 dX10_minuteBy_33 fl_X10_68 rfl (by decide) ?_
  refine g_aln dX10_minuteBy_36 rfl rfl (by decide) ?_
  obtain ⟨hg4, h⟩ := xgd_e h
  refine g_getR 4 dX10_minuteBy_37 fl_X10_36 rfl rfl ?_
  refine g_aln dX10_minuteBy_40 rfl rfl (by decide) ?_
  refine g_getC 17 dX10_minuteBy_41 fl_X10_46 rfl (by decide) ?_
  refine g_getI 0 dX10_minuteBy_44 fl_X10_379 rfl rfl ?_
  refine g_iln dX10_minuteBy_47 rfl rfl ?_
  obtain ⟨r6, e5, h⟩ := xbp_e h
  refine g_cS2v dX10_minuteBy_48 ml_X10_435 (s_X10_far e5) (by decide) rfl ?_
  refine g_iln dX10_minuteBy_51 rfl rfl ?_
  refine g_ic dX10_minuteBy_52 ?_
  obtain ⟨r8, s9, e7, h⟩ := xbd_e h
  refine g_cV4v dX10_minuteBy_53 ml_X10_446 rfl (s_X0_minute e7) (by decide) rfl ?_
  exact g_rI rfl dX10_minuteBy_56 h
theorem dX10_fitsReports_0 : decode cX10_fitsReports 0 = .ok (.iconst 0, 1) := by decide +kernel
theorem dX10_fitsReports_1 : decode cX10_fitsReports 1 = .ok (.istore_n 2, 1) := by decide +kernel
theorem dX10_fitsReports_2 : decode cX10_fitsReports 2 = .ok (.iload_n 2, 1) := by decide +kernel
theorem dX10_fitsReports_3 : decode cX10_fitsReports 3 = .ok (.aload_n 0, 1) := by decide +kernel
theorem dX10_fitsReports_4 : decode cX10_fitsReports 4 = .ok (.getfield 82, 3) := by decide +kernel
theorem dX10_fitsReports_7 : decode cX10_fitsReports 7 = .ok (.getfield 333, 3) := by decide +kernel
theorem dX10_fitsReports_10 : decode cX10_fitsReports 10 = .ok (.if_icmp .ge 37, 3) := by decide +kernel
theorem dX10_fitsReports_13 : decode cX10_fitsReports 13 = .ok (.aload_n 0, 1) := by decide +kernel
theorem dX10_fitsReports_14 : decode cX10_fitsReports 14 = .ok (.iload_n 1, 1) := by decide +kernel
theorem dX10_fitsReports_15 : decode cX10_fitsReports 15 = .ok (.aload_n 0, 1) := by decide +kernel
theorem dX10_fitsReports_16 : decode cX10_fitsReports 16 = .ok (.getfield 82, 3) := by decide +kernel
theorem dX10_fitsReports_19 : decode cX10_fitsReports 19 = .ok (.getfield 460, 3) := by decide +kernel
theorem dX10_fitsReports_22 : decode cX10_fitsReports 22 = .ok (.iload_n 2, 1) := by decide +kernel
theorem dX10_fitsReports_23 : decode cX10_fitsReports 23 = .ok (.iaload, 1) := by decide +kernel
theorem dX10_fitsReports_24 : decode cX10_fitsReports 24 = .ok (.invokevirtual 463, 3) := by decide +kernel
theorem dX10_fitsReports_27 : decode cX10_fitsReports 27 = .ok (.aload_n 0, 1) := by decide +kernel
theorem dX10_fitsReports_28 : decode cX10_fitsReports 28 = .ok (.getfield 82, 3) := by decide +kernel
theorem dX10_fitsReports_31 : decode cX10_fitsReports 31 = .ok (.getfield 466, 3) := by decide +kernel
theorem dX10_fitsReports_34 : decode cX10_fitsReports 34 = .ok (.iload_n 2, 1) := by decide +kernel
theorem dX10_fitsReports_35 : decode cX10_fitsReports 35 = .ok (.iaload, 1) := by decide +kernel
theorem dX10_fitsReports_36 : decode cX10_fitsReports 36 = .ok (.if_icmp .eq 5, 3) := by decide +kernel
theorem dX10_fitsReports_39 : decode cX10_fitsReports 39 = .ok (.iconst 0, 1) := by decide +kernel
theorem dX10_fitsReports_40 : decode cX10_fitsReports 40 = .ok (.ireturn, 1) := by decide +kernel
theorem dX10_fitsReports_41 : decode cX10_fitsReports 41 = .ok (.iinc 2 1, 3) := by decide +kernel
theorem dX10_fitsReports_44 : decode cX10_fitsReports 44 = .ok (.goto (-42), 3) := by decide +kernel
theorem dX10_fitsReports_47 : decode cX10_fitsReports 47 = .ok (.iconst 1, 1) := by decide +kernel
theorem dX10_fitsReports_48 : decode cX10_fitsReports 48 = .ok (.ireturn, 1) := by decide +kernel
theorem s_X10_fitsReports_2 {l1_1 : Int} {q : Int × xW} {k : Int → xW → Option (Int × xW)} (hk : ∀ (l2_11 : Int) (s12 : xW), k l2_11 s12 = some q → xG 4 0 0 mX10_fitsReports 47 [vR 0, vI l1_1, vI l2_11] [] 155 s12 (xRv (vI q.1) q.2)) : ∀ (f : Nat) (l2_2 : Int) (s3 : xW), F_X10_fitsReports_2 l1_1 f l2_2 s3 k = some q → xG 4 0 0 mX10_fitsReports 2 [vR 0, vI l1_1, vI l2_2] [] 155 s3 (xRv (vI q.1) q.2) := by
  intro f
  induction f with
  | zero => intro l2_2 s3 h; cases h
  | succ f ih =>
    intro l2_2 s3 h
    unfold F_X10_fitsReports_2 at h
    refine g_iln dX10_fitsReports_2 rfl rfl ?_
    refine g_aln dX10_fitsReports_3 rfl rfl (by decide) ?_
    refine g_getC 100 dX10_fitsReports_4 fl_X10_82 rfl (by decide) ?_
    refine g_getI 2 dX10_fitsReports_7 fl_X10_333 rfl rfl ?_
    refine g_wge dX10_fitsReports_10 (tgt := 47) rfl rfl rfl (fun q4 => ?_) (fun q4 => ?_)
    · replace h := xif_f q4 h
      exact hk l2_2 s3 h
    · replace h := xif_t q4 h
      refine g_aln dX10_fitsReports_13 rfl rfl (by decide) ?_
      refine g_iln dX10_fitsReports_14 rfl rfl ?_
      refine g_aln dX10_fitsReports_15 rfl rfl (by decide) ?_
      refine g_getC 100 dX10_fitsReports_16 fl_X10_82 rfl (by decide) ?_
      refine g_getC 101 dX10_fitsReports_19 fl_X10_460 rfl (by decide) ?_
      refine g_iln dX10_fitsReports_22 rfl rfl ?_
      obtain ⟨hg5, h⟩ := xgd_e h
      refine g_iald 10 dX10_fitsReports_23 rfl hg5 (by decide) ?_
      obtain ⟨r7, s8, e6, h⟩ := xbd_e h
      refine g_cV2v dX10_fitsReports_24 ml_X10_463 rfl (s_X10_minuteBy e6) (by decide) rfl ?_
      refine g_aln dX10_fitsReports_27 rfl rfl (by decide) ?_
      refine g_getC 100 dX10_fitsReports_28 fl_X10_82 rfl (by decide) ?_
      refine g_getC 102 dX10_fitsReports_31 fl_X10_466 rfl (by decide) ?_
      refine g_iln dX10_fitsReports_34 rfl rfl ?_
      obtain ⟨hg9, h⟩ := xgd_e h
      refine g_iald 10 dX10_fitsReports_35 rfl hg9 (by decide) ?_
      refine g_weq dX10_fitsReports_36 (tgt := 41) rfl rfl rfl (fun q10 => ?_) (fun q10 => ?_)
      · replace h := xif_f q10 h
        refine g_inc_2 dX10_fitsReports_41 (by decide) rfl ?_
        refine g_goto dX10_fitsReports_44 (tgt := 2) rfl ?_
        exact ih (l2_2 + 1) s8 h
      · replace h := xif_t q10 h
        refine g_ic dX10_fitsReports_39 ?_
        exact g_rZ rfl dX10_fitsReports_40 (by decide) h
theorem s_X10_fitsReports {a1 : Int} {s0 : xW} {q : Int × xW} (h : F_X10_fitsReports a1 s0 = some q) : xC 4 0 0 mX10_fitsReports [vR 0, vI a1] 155 s0 (xRv (vI q.1) q.2) := by
  refine xC.of [vR 0, vI a1, vX] (by decide +kernel) (Nat.le_of_ble_eq_true rfl) rfl ?_
  unfold F_X10_fitsReports at h
  refine g_ic dX10_fitsReports_0 ?_
  refine g_istn_2 dX10_fitsReports_1 (by decide) rfl ?_
  refine s_X10_fitsReports_2 (fun l2_13 s14 h => ?_) xN _ _ h
  refine g_ic dX10_fitsReports_47 ?_
  exact g_rZ rfl dX10_fitsReports_48 (by decide) h
theorem dX10_findWeathers_0 : decode cX10_findWeathers 0 = .ok (.iconst 0, 1) := by decide +kernel
theorem dX10_findWeathers_1 : decode cX10_findWeathers 1 = .ok (.istore_n 1, 1) := by decide +kernel
theorem dX10_findWeathers_2 : decode cX10_findWeathers 2 = .ok (.iconst 0, 1) := by decide +kernel
theorem dX10_findWeathers_3 : decode cX10_findWeathers 3 = .ok (.istore_n 2, 1) := by decide +kernel
theorem dX10_findWeathers_4 : decode cX10_findWeathers 4 = .ok (.iload_n 2, 1) := by decide +kernel
theorem dX10_findWeathers_5 : decode cX10_findWeathers 5 = .ok (.bipush 100, 2) := by decide +kernel
theorem dX10_findWeathers_7 : decode cX10_findWeathers 7 = .ok (.if_icmp .ge 30, 3) := by decide +kernel
theorem dX10_findWeathers_10 : decode cX10_findWeathers 10 = .ok (.aload_n 0, 1) := by decide +kernel
theorem dX10_findWeathers_11 : decode cX10_findWeathers 11 = .ok (.iload_n 2, 1) := by decide +kernel
theorem dX10_findWeathers_12 : decode cX10_findWeathers 12 = .ok (.invokevirtual 454, 3) := by decide +kernel
theorem dX10_findWeathers_15 : decode cX10_findWeathers 15 = .ok (.ifCond .eq 16, 3) := by decide +kernel
theorem dX10_findWeathers_18 : decode cX10_findWeathers 18 = .ok (.aload_n 0, 1) := by decide +kernel
theorem dX10_findWeathers_19 : decode cX10_findWeathers 19 = .ok (.getfield 82, 3) := by decide +kernel
theorem dX10_findWeathers_22 : decode cX10_findWeathers 22 = .ok (.getfield 337, 3) := by decide +kernel
theorem dX10_findWeathers_25 : decode cX10_findWeathers 25 = .ok (.iload_n 1, 1) := by decide +kernel
theorem dX10_findWeathers_26 : decode cX10_findWeathers 26 = .ok (.iload_n 2, 1) := by decide +kernel
theorem dX10_findWeathers_27 : decode cX10_findWeathers 27 = .ok (.iastore, 1) := by decide +kernel
theorem dX10_findWeathers_28 : decode cX10_findWeathers 28 = .ok (.iinc 1 1, 3) := by decide +kernel
theorem dX10_findWeathers_31 : decode cX10_findWeathers 31 = .ok (.iinc 2 1, 3) := by decide +kernel
theorem dX10_findWeathers_34 : decode cX10_findWeathers 34 = .ok (.goto (-30), 3) := by decide +kernel
theorem dX10_findWeathers_37 : decode cX10_findWeathers 37 = .ok (.aload_n 0, 1) := by decide +kernel
theorem dX10_findWeathers_38 : decode cX10_findWeathers 38 = .ok (.getfield 82, 3) := by decide +kernel
theorem dX10_findWeathers_41 : decode cX10_findWeathers 41 = .ok (.iload_n 1, 1) := by decide +kernel
theorem dX10_findWeathers_42 : decode cX10_findWeathers 42 = .ok (.putfield 457, 3) := by decide +kernel
theorem dX10_findWeathers_45 : decode cX10_findWeathers 45 = .ok (.iload_n 1, 1) := by decide +kernel
theorem dX10_findWeathers_46 : decode cX10_findWeathers 46 = .ok (.ireturn, 1) := by decide +kernel
theorem s_X10_findWeathers_4 {q : Int × xW} {k : Int → Int → xW → Option (Int × xW)} (hk : ∀ (l1_17 : Int) (l2_18 : Int) (s19 : xW), k l1_17 l2_18 s19 = some q → xG 5 0 0 mX10_findWeathers 37 [vR 0, vI l1_17, vI l2_18] [] 155 s19 (xRv (vI q.1) q.2)) : ∀ (f : Nat) (l1_1 : Int) (l2_2 : Int) (s3 : xW), F_X10_findWeathers_4  f l1_1 l2_2 s3 k = some q → xG 5 0 0 mX10_findWeathers 4 [vR 0, vI l1_1, vI l2_2] [] 155 s3 (xRv (vI q.1) q.2) := by
  intro f
  induction f with
  | zero => intro l1_1 l2_2 s3 h; cases h
  | succ f ih =>
    intro l1_1 l2_2 s3 h
    unfold F_X10_findWeathers_4 at h
    refine g_iln dX10_findWeathers_4 rfl rfl ?_
    refine g_bi dX10_findWeathers_5 (by decide) ?_
    refine g_wge dX10_findWeathers_7 (tgt := 37) rfl rfl (xw_id (by decide)) (fun q4 => ?_) (fun q4 => ?_)
    · replace h := xif_f q4 h
      exact hk l1_1 l2_2 s3 h
    · replace h := xif_t q4 h
      refine g_aln dX10_findWeathers_10 rfl rfl (by decide) ?_
      refine g_iln dX10_findWeathers_11 rfl rfl ?_
      obtain ⟨r6, s7, e5, h⟩ := xbd_e h
      refine g_cV1v dX10_findWeathers_12 ml_X10_454 rfl (s_X10_fitsReports e5) (by decide) rfl ?_
      obtain ⟨j10, ej11, h⟩ := xjn_e h
      have hj12 : ∀ (l1_8 : Int) (s9 : xW), j10 l1_8 s9 = some q → xG 5 0 0 mX10_findWeathers 31 [vR 0, vI l1_8, vI l2_2] [] 155 s9 (xRv (vI q.1) q.2) := by
        intro l1_8 s9 h
        rw [ej11] at h
        refine g_inc_2 dX10_findWeathers_31 (by decide) rfl ?_
        refine g_goto dX10_findWeathers_34 (tgt := 4) rfl ?_
        exact ih l1_8 (l2_2 + 1) s9 h
      clear ej11
      refine g_yeq dX10_findWeathers_15 (tgt := 31) rfl rfl (fun q13 => ?_) (fun q13 => ?_)
      · replace h := xif_f q13 h
        exact hj12 l1_1 s7 h
      · replace h := xif_t q13 h
        refine g_aln dX10_findWeathers_18 rfl rfl (by decide) ?_
        refine g_getC 100 dX10_findWeathers_19 fl_X10_82 rfl (by decide) ?_
        refine g_getC 103 dX10_findWeathers_22 fl_X10_337 rfl (by decide) ?_
        refine g_iln dX10_findWeathers_25 rfl rfl ?_
        refine g_iln dX10_findWeathers_26 rfl rfl ?_
        obtain ⟨hg14, h⟩ := xgd_e h
        obtain ⟨s15, e16, h⟩ := xlt_e h
        refine h_iast 100 dX10_findWeathers_27 rfl hg14 (by decide) e16 ?_
        refine g_inc_1 dX10_findWeathers_28 (by decide) rfl ?_
        exact hj12 (l1_1 + 1) s15 h
theorem s_X10_findWeathers {s0 : xW} {q : Int × xW} (h : F_X10_findWeathers  s0 = some q) : xC 5 0 0 mX10_findWeathers [vR 0] 155 s0 (xRv (vI q.1) q.2) := by
  refine xC.of [vR 0, vX, vX] (by decide +kernel) (Nat.le_of_ble_eq_true rfl) rfl ?_
  unfold F_X10_findWeathers at h
  refine g_ic dX10_findWeathers_0 ?_
  refine g_istn_1 dX10_findWeathers_1 (by decide) rfl ?_
  refine g_ic dX10_findWeathers_2 ?_
  refine g_istn_2 dX10_findWeathers_3 (by decide) rfl ?_
  refine s_X10_findWeathers_4 (fun l1_20 l2_21 s22 h => ?_) xN _ _ _ h
  refine g_aln dX10_findWeathers_37 rfl rfl (by decide) ?_
  refine g_getC 100 dX10_findWeathers_38 fl_X10_82 rfl (by decide) ?_
  refine g_iln dX10_findWeathers_41 rfl rfl ?_
  obtain ⟨s23, e24, h⟩ := xlt_e h
  refine h_putI 4 dX10_findWeathers_42 fl_X10_457 rfl rfl e24 ?_
  refine g_iln dX10_findWeathers_45 rfl rfl ?_
  exact g_rI rfl dX10_findWeathers_46 h
theorem dX5_countMinute_0 : decode cX5_countMinute 0 = .ok (.iload_n 1, 1) := by decide +kernel
theorem dX5_countMinute_1 : decode cX5_countMinute 1 = .ok (.ifCond .lt 9, 3) := by decide +kernel
theorem dX5_countMinute_4 : decode cX5_countMinute 4 = .ok (.iload_n 1, 1) := by decide +kernel
theorem dX5_countMinute_5 : decode cX5_countMinute 5 = .ok (.bipush 120, 2) := by decide +kernel
theorem dX5_countMinute_7 : decode cX5_countMinute 7 = .ok (.if_icmp .lt 5, 3) := by decide +kernel
theorem dX5_countMinute_10 : decode cX5_countMinute 10 = .ok (.iconst 0, 1) := by decide +kernel
theorem dX5_countMinute_11 : decode cX5_countMinute 11 = .ok (.ireturn, 1) := by decide +kernel
theorem dX5_countMinute_12 : decode cX5_countMinute 12 = .ok (.aload_n 0, 1) := by decide +kernel
theorem dX5_countMinute_13 : decode cX5_countMinute 13 = .ok (.getfield 28, 3) := by decide +kernel
theorem dX5_countMinute_16 : decode cX5_countMinute 16 = .ok (.iload_n 1, 1) := by decide +kernel
theorem dX5_countMinute_17 : decode cX5_countMinute 17 = .ok (.dup2, 1) := by decide +kernel
theorem dX5_countMinute_18 : decode cX5_countMinute 18 = .ok (.iaload, 1) := by decide +kernel
theorem dX5_countMinute_19 : decode cX5_countMinute 19 = .ok (.iconst 1, 1) := by decide +kernel
theorem dX5_countMinute_20 : decode cX5_countMinute 20 = .ok (.iadd, 1) := by decide +kernel
theorem dX5_countMinute_21 : decode cX5_countMinute 21 = .ok (.iastore, 1) := by decide +kernel
theorem dX5_countMinute_22 : decode cX5_countMinute 22 = .ok (.aload_n 0, 1) := by decide +kernel
theorem dX5_countMinute_23 : decode cX5_countMinute 23 = .ok (.getfield 28, 3) := by decide +kernel
theorem dX5_countMinute_26 : decode cX5_countMinute 26 = .ok (.iload_n 1, 1) := by decide +kernel
theorem dX5_countMinute_27 : decode cX5_countMinute 27 = .ok (.iaload, 1) := by decide +kernel
theorem dX5_countMinute_28 : decode cX5_countMinute 28 = .ok (.ireturn, 1) := by decide +kernel
theorem s_X5_countMinute {a1 : Int} {s0 : xW} {q : Int × xW} (h : F_X5_countMinute a1 s0 = some q) : xC 0 0 0 mX5_countMinute [vR 100, vI a1] 155 s0 (xRv (vI q.1) q.2) := by
  refine xC.of [vR 100, vI a1] (by decide +kernel) (Nat.le_of_ble_eq_true rfl) rfl ?_
  unfold F_X5_countMinute at h
  refine g_iln dX5_countMinute_0 rfl rfl ?_
  obtain ⟨j1, ej2, h⟩ := xjn_e h
  have hj3 : j1  = some q → xG 0 0 0 mX5_countMinute 10 [vX, vX] [] 155 s0 (xRv (vI q.1) q.2) := by
    intro  h
    rw [ej2] at h
    refine g_ic dX5_countMinute_10 ?_
    exact g_rI rfl dX5_countMinute_11 h
  clear ej2
  refine g_ylt dX5_countMinute_1 (tgt := 10) rfl rfl (fun q4 => ?_) (fun q4 => ?_)
  · replace h := xif_f q4 h
    refine g_drop_0 ?_
    refine g_drop_1 ?_
    exact hj3  h
  · replace h := xif_t q4 h
    refine g_iln dX5_countMinute_4 rfl rfl ?_
    refine g_bi dX5_countMinute_5 (by decide) ?_
    refine g_wlt dX5_countMinute_7 (tgt := 12) rfl rfl (xw_id (by decide)) (fun q5 => ?_) (fun q5 => ?_)
    · replace h := xif_f q5 h
      refine g_aln dX5_countMinute_12 rfl rfl (by decide) ?_
      refine g_getC 104 dX5_countMinute_13 fl_X5_28 rfl (by decide) ?_
      refine g_iln dX5_countMinute_16 rfl rfl ?_
      refine g_dup2 dX5_countMinute_17 rfl rfl ?_
      obtain ⟨hg6, h⟩ := xgd_e h
      refine g_iald 120 dX5_countMinute_18 rfl hg6 (by decide) ?_
      refine g_ic dX5_countMinute_19 ?_
      refine g_iadd dX5_countMinute_20 ?_
      obtain ⟨hg7, h⟩ := xgd_e h
      obtain ⟨s8, e9, h⟩ := xlt_e h
      refine h_iast 120 dX5_countMinute_21 rfl hg7 (by decide) e9 ?_
      refine g_aln dX5_countMinute_22 rfl rfl (by decide) ?_
      refine g_getC 104 dX5_countMinute_23 fl_X5_28 rfl (by decide) ?_
      refine g_iln dX5_countMinute_26 rfl rfl ?_
      obtain ⟨hg10, h⟩ := xgd_e h
      refine g_iald 120 dX5_countMinute_27 rfl hg10 (by decide) ?_
      exact g_rI rfl dX5_countMinute_28 h
    · replace h := xif_t q5 h
      refine g_drop_0 ?_
      refine g_drop_1 ?_
      exact hj3  h
