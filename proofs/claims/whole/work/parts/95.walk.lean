theorem dX11_readsDeed_0 : decode cX11_readsDeed 0 = .ok (.aload_n 0, 1) := by decide +kernel
theorem dX11_readsDeed_1 : decode cX11_readsDeed 1 = .ok (.getfield 136, 3) := by decide +kernel
theorem dX11_readsDeed_4 : decode cX11_readsDeed 4 = .ok (.aload_n 0, 1) := by decide +kernel
theorem dX11_readsDeed_5 : decode cX11_readsDeed 5 = .ok (.getfield 181, 3) := by decide +kernel
theorem dX11_readsDeed_8 : decode cX11_readsDeed 8 = .ok (.iadd, 1) := by decide +kernel
theorem dX11_readsDeed_9 : decode cX11_readsDeed 9 = .ok (.bipush 8, 2) := by decide +kernel
theorem dX11_readsDeed_11 : decode cX11_readsDeed 11 = .ok (.if_icmp .ne 5, 3) := by decide +kernel
theorem dX11_readsDeed_14 : decode cX11_readsDeed 14 = .ok (.iconst 0, 1) := by decide +kernel
theorem dX11_readsDeed_15 : decode cX11_readsDeed 15 = .ok (.ireturn, 1) := by decide +kernel
theorem dX11_readsDeed_16 : decode cX11_readsDeed 16 = .ok (.iconst 3, 1) := by decide +kernel
theorem dX11_readsDeed_17 : decode cX11_readsDeed 17 = .ok (.aload_n 0, 1) := by decide +kernel
theorem dX11_readsDeed_18 : decode cX11_readsDeed 18 = .ok (.getfield 181, 3) := by decide +kernel
theorem dX11_readsDeed_21 : decode cX11_readsDeed 21 = .ok (.imul, 1) := by decide +kernel
theorem dX11_readsDeed_22 : decode cX11_readsDeed 22 = .ok (.istore_n 1, 1) := by decide +kernel
theorem dX11_readsDeed_23 : decode cX11_readsDeed 23 = .ok (.aload_n 0, 1) := by decide +kernel
theorem dX11_readsDeed_24 : decode cX11_readsDeed 24 = .ok (.getfield 56, 3) := by decide +kernel
theorem dX11_readsDeed_27 : decode cX11_readsDeed 27 = .ok (.iload_n 1, 1) := by decide +kernel
theorem dX11_readsDeed_28 : decode cX11_readsDeed 28 = .ok (.aload_n 0, 1) := by decide +kernel
theorem dX11_readsDeed_29 : decode cX11_readsDeed 29 = .ok (.iconst 0, 1) := by decide +kernel
theorem dX11_readsDeed_30 : decode cX11_readsDeed 30 = .ok (.aload_n 0, 1) := by decide +kernel
theorem dX11_readsDeed_31 : decode cX11_readsDeed 31 = .ok (.getfield 129, 3) := by decide +kernel
theorem dX11_readsDeed_34 : decode cX11_readsDeed 34 = .ok (.iconst 1, 1) := by decide +kernel
theorem dX11_readsDeed_35 : decode cX11_readsDeed 35 = .ok (.isub, 1) := by decide +kernel
theorem dX11_readsDeed_36 : decode cX11_readsDeed 36 = .ok (.invokevirtual 188, 3) := by decide +kernel
theorem dX11_readsDeed_39 : decode cX11_readsDeed 39 = .ok (.iastore, 1) := by decide +kernel
theorem dX11_readsDeed_40 : decode cX11_readsDeed 40 = .ok (.aload_n 0, 1) := by decide +kernel
theorem dX11_readsDeed_41 : decode cX11_readsDeed 41 = .ok (.getfield 56, 3) := by decide +kernel
theorem dX11_readsDeed_44 : decode cX11_readsDeed 44 = .ok (.iload_n 1, 1) := by decide +kernel
theorem dX11_readsDeed_45 : decode cX11_readsDeed 45 = .ok (.iconst 1, 1) := by decide +kernel
theorem dX11_readsDeed_46 : decode cX11_readsDeed 46 = .ok (.iadd, 1) := by decide +kernel
theorem dX11_readsDeed_47 : decode cX11_readsDeed 47 = .ok (.aload_n 0, 1) := by decide +kernel
theorem dX11_readsDeed_48 : decode cX11_readsDeed 48 = .ok (.getfield 56, 3) := by decide +kernel
theorem dX11_readsDeed_51 : decode cX11_readsDeed 51 = .ok (.iload_n 1, 1) := by decide +kernel
theorem dX11_readsDeed_52 : decode cX11_readsDeed 52 = .ok (.iaload, 1) := by decide +kernel
theorem dX11_readsDeed_53 : decode cX11_readsDeed 53 = .ok (.ifCond .ge 7, 3) := by decide +kernel
theorem dX11_readsDeed_56 : decode cX11_readsDeed 56 = .ok (.iconst (-1), 1) := by decide +kernel
theorem dX11_readsDeed_57 : decode cX11_readsDeed 57 = .ok (.goto 10, 3) := by decide +kernel
theorem dX11_readsDeed_60 : decode cX11_readsDeed 60 = .ok (.aload_n 0, 1) := by decide +kernel
theorem dX11_readsDeed_61 : decode cX11_readsDeed 61 = .ok (.iconst 1, 1) := by decide +kernel
theorem dX11_readsDeed_62 : decode cX11_readsDeed 62 = .ok (.bipush 9, 2) := by decide +kernel
theorem dX11_readsDeed_64 : decode cX11_readsDeed 64 = .ok (.invokevirtual 188, 3) := by decide +kernel
theorem dX11_readsDeed_67 : decode cX11_readsDeed 67 = .ok (.iastore, 1) := by decide +kernel
theorem dX11_readsDeed_68 : decode cX11_readsDeed 68 = .ok (.aload_n 0, 1) := by decide +kernel
theorem dX11_readsDeed_69 : decode cX11_readsDeed 69 = .ok (.getfield 56, 3) := by decide +kernel
theorem dX11_readsDeed_72 : decode cX11_readsDeed 72 = .ok (.iload_n 1, 1) := by decide +kernel
theorem dX11_readsDeed_73 : decode cX11_readsDeed 73 = .ok (.iconst 2, 1) := by decide +kernel
theorem dX11_readsDeed_74 : decode cX11_readsDeed 74 = .ok (.iadd, 1) := by decide +kernel
theorem dX11_readsDeed_75 : decode cX11_readsDeed 75 = .ok (.iconst 0, 1) := by decide +kernel
theorem dX11_readsDeed_76 : decode cX11_readsDeed 76 = .ok (.iastore, 1) := by decide +kernel
theorem dX11_readsDeed_77 : decode cX11_readsDeed 77 = .ok (.iconst (-1), 1) := by decide +kernel
theorem dX11_readsDeed_78 : decode cX11_readsDeed 78 = .ok (.istore_n 2, 1) := by decide +kernel
theorem dX11_readsDeed_79 : decode cX11_readsDeed 79 = .ok (.aload_n 0, 1) := by decide +kernel
theorem dX11_readsDeed_80 : decode cX11_readsDeed 80 = .ok (.getfield 56, 3) := by decide +kernel
theorem dX11_readsDeed_83 : decode cX11_readsDeed 83 = .ok (.iload_n 1, 1) := by decide +kernel
theorem dX11_readsDeed_84 : decode cX11_readsDeed 84 = .ok (.iconst 1, 1) := by decide +kernel
theorem dX11_readsDeed_85 : decode cX11_readsDeed 85 = .ok (.iadd, 1) := by decide +kernel
theorem dX11_readsDeed_86 : decode cX11_readsDeed 86 = .ok (.iaload, 1) := by decide +kernel
theorem dX11_readsDeed_87 : decode cX11_readsDeed 87 = .ok (.ifCond .le 7, 3) := by decide +kernel
theorem dX11_readsDeed_90 : decode cX11_readsDeed 90 = .ok (.iconst 1, 1) := by decide +kernel
theorem dX11_readsDeed_91 : decode cX11_readsDeed 91 = .ok (.goto 4, 3) := by decide +kernel
theorem dX11_readsDeed_94 : decode cX11_readsDeed 94 = .ok (.iconst 0, 1) := by decide +kernel
theorem dX11_readsDeed_95 : decode cX11_readsDeed 95 = .ok (.istore_n 3, 1) := by decide +kernel
theorem dX11_readsDeed_96 : decode cX11_readsDeed 96 = .ok (.iload_n 3, 1) := by decide +kernel
theorem dX11_readsDeed_97 : decode cX11_readsDeed 97 = .ok (.ifCond .eq 68, 3) := by decide +kernel
theorem dX11_readsDeed_100 : decode cX11_readsDeed 100 = .ok (.aload_n 0, 1) := by decide +kernel
theorem dX11_readsDeed_101 : decode cX11_readsDeed 101 = .ok (.ldc 191, 2) := by decide +kernel
theorem dX11_readsDeed_103 : decode cX11_readsDeed 103 = .ok (.iload_n 2, 1) := by decide +kernel
theorem dX11_readsDeed_104 : decode cX11_readsDeed 104 = .ok (.iconst 1, 1) := by decide +kernel
theorem dX11_readsDeed_105 : decode cX11_readsDeed 105 = .ok (.iadd, 1) := by decide +kernel
theorem dX11_readsDeed_106 : decode cX11_readsDeed 106 = .ok (.invokevirtual 193, 3) := by decide +kernel
theorem dX11_readsDeed_109 : decode cX11_readsDeed 109 = .ok (.invokevirtual 197, 3) := by decide +kernel
theorem dX11_readsDeed_112 : decode cX11_readsDeed 112 = .ok (.istore 4, 2) := by decide +kernel
theorem dX11_readsDeed_114 : decode cX11_readsDeed 114 = .ok (.iload 4, 2) := by decide +kernel
theorem dX11_readsDeed_116 : decode cX11_readsDeed 116 = .ok (.ifCond .lt 7, 3) := by decide +kernel
theorem dX11_readsDeed_119 : decode cX11_readsDeed 119 = .ok (.iconst 1, 1) := by decide +kernel
theorem dX11_readsDeed_120 : decode cX11_readsDeed 120 = .ok (.goto 4, 3) := by decide +kernel
theorem dX11_readsDeed_123 : decode cX11_readsDeed 123 = .ok (.iconst 0, 1) := by decide +kernel
theorem dX11_readsDeed_124 : decode cX11_readsDeed 124 = .ok (.istore_n 3, 1) := by decide +kernel
theorem dX11_readsDeed_125 : decode cX11_readsDeed 125 = .ok (.iload_n 3, 1) := by decide +kernel
theorem dX11_readsDeed_126 : decode cX11_readsDeed 126 = .ok (.ifCond .eq 12, 3) := by decide +kernel
theorem dX11_readsDeed_129 : decode cX11_readsDeed 129 = .ok (.iload_n 2, 1) := by decide +kernel
theorem dX11_readsDeed_130 : decode cX11_readsDeed 130 = .ok (.iconst 1, 1) := by decide +kernel
theorem dX11_readsDeed_131 : decode cX11_readsDeed 131 = .ok (.iadd, 1) := by decide +kernel
theorem dX11_readsDeed_132 : decode cX11_readsDeed 132 = .ok (.iload 4, 2) := by decide +kernel
theorem dX11_readsDeed_134 : decode cX11_readsDeed 134 = .ok (.iadd, 1) := by decide +kernel
theorem dX11_readsDeed_135 : decode cX11_readsDeed 135 = .ok (.goto 4, 3) := by decide +kernel
theorem dX11_readsDeed_138 : decode cX11_readsDeed 138 = .ok (.iload_n 2, 1) := by decide +kernel
theorem dX11_readsDeed_139 : decode cX11_readsDeed 139 = .ok (.istore_n 2, 1) := by decide +kernel
theorem dX11_readsDeed_140 : decode cX11_readsDeed 140 = .ok (.aload_n 0, 1) := by decide +kernel
theorem dX11_readsDeed_141 : decode cX11_readsDeed 141 = .ok (.getfield 56, 3) := by decide +kernel
theorem dX11_readsDeed_144 : decode cX11_readsDeed 144 = .ok (.iload_n 1, 1) := by decide +kernel
theorem dX11_readsDeed_145 : decode cX11_readsDeed 145 = .ok (.iconst 2, 1) := by decide +kernel
theorem dX11_readsDeed_146 : decode cX11_readsDeed 146 = .ok (.iadd, 1) := by decide +kernel
theorem dX11_readsDeed_147 : decode cX11_readsDeed 147 = .ok (.dup2, 1) := by decide +kernel
theorem dX11_readsDeed_148 : decode cX11_readsDeed 148 = .ok (.iaload, 1) := by decide +kernel
theorem dX11_readsDeed_149 : decode cX11_readsDeed 149 = .ok (.iload_n 3, 1) := by decide +kernel
theorem dX11_readsDeed_150 : decode cX11_readsDeed 150 = .ok (.ifCond .eq 9, 3) := by decide +kernel
theorem dX11_readsDeed_153 : decode cX11_readsDeed 153 = .ok (.iconst 1, 1) := by decide +kernel
theorem dX11_readsDeed_154 : decode cX11_readsDeed 154 = .ok (.iload_n 2, 1) := by decide +kernel
theorem dX11_readsDeed_155 : decode cX11_readsDeed 155 = .ok (.ishl, 1) := by decide +kernel
theorem dX11_readsDeed_156 : decode cX11_readsDeed 156 = .ok (.goto 4, 3) := by decide +kernel
theorem dX11_readsDeed_159 : decode cX11_readsDeed 159 = .ok (.iconst 0, 1) := by decide +kernel
theorem dX11_readsDeed_160 : decode cX11_readsDeed 160 = .ok (.ior, 1) := by decide +kernel
theorem dX11_readsDeed_161 : decode cX11_readsDeed 161 = .ok (.iastore, 1) := by decide +kernel
theorem dX11_readsDeed_162 : decode cX11_readsDeed 162 = .ok (.goto (-66), 3) := by decide +kernel
theorem dX11_readsDeed_165 : decode cX11_readsDeed 165 = .ok (.aload_n 0, 1) := by decide +kernel
theorem dX11_readsDeed_166 : decode cX11_readsDeed 166 = .ok (.dup, 1) := by decide +kernel
theorem dX11_readsDeed_167 : decode cX11_readsDeed 167 = .ok (.getfield 181, 3) := by decide +kernel
theorem dX11_readsDeed_170 : decode cX11_readsDeed 170 = .ok (.iconst 1, 1) := by decide +kernel
theorem dX11_readsDeed_171 : decode cX11_readsDeed 171 = .ok (.iadd, 1) := by decide +kernel
theorem dX11_readsDeed_172 : decode cX11_readsDeed 172 = .ok (.putfield 181, 3) := by decide +kernel
theorem dX11_readsDeed_175 : decode cX11_readsDeed 175 = .ok (.aload_n 0, 1) := by decide +kernel
theorem dX11_readsDeed_176 : decode cX11_readsDeed 176 = .ok (.getfield 56, 3) := by decide +kernel
theorem dX11_readsDeed_179 : decode cX11_readsDeed 179 = .ok (.iload_n 1, 1) := by decide +kernel
theorem dX11_readsDeed_180 : decode cX11_readsDeed 180 = .ok (.iconst 2, 1) := by decide +kernel
theorem dX11_readsDeed_181 : decode cX11_readsDeed 181 = .ok (.iadd, 1) := by decide +kernel
theorem dX11_readsDeed_182 : decode cX11_readsDeed 182 = .ok (.iaload, 1) := by decide +kernel
theorem dX11_readsDeed_183 : decode cX11_readsDeed 183 = .ok (.ifCond .le 7, 3) := by decide +kernel
theorem dX11_readsDeed_186 : decode cX11_readsDeed 186 = .ok (.iconst 1, 1) := by decide +kernel
theorem dX11_readsDeed_187 : decode cX11_readsDeed 187 = .ok (.goto 4, 3) := by decide +kernel
theorem dX11_readsDeed_190 : decode cX11_readsDeed 190 = .ok (.iconst 0, 1) := by decide +kernel
theorem dX11_readsDeed_191 : decode cX11_readsDeed 191 = .ok (.ireturn, 1) := by decide +kernel
def xbud (l2 l3 : Int) : Nat := if xw l3 = 0 then 0 else 2 * (4 - l2).toNat
theorem takes_1 {w : List Int} : ∀ (f : Nat) {l2 : Int} {s : xW} {q : Int × xW}, F_X11_takesOf_2 w f l2 s (fun _ s14 => some (-1, s14)) = some q → (q.1 = -1 ∨ 0 ≤ q.1) ∧ q.2 121 20 = s 121 20
  | 0, _, _, _, h => by cases h
  | f + 1, l2, s, q, h => by
    unfold F_X11_takesOf_2 at h
    split at h
    · split at h
      · obtain ⟨g1, h⟩ := xgd_e h
        obtain ⟨g2, h⟩ := xgd_e h
        split at h
        · obtain ⟨s9, e9, h⟩ := xlt_e h
          cases h
          subst e9
          exact ⟨Or.inr g1.1, xu_slot s 121 (k := 16) (k' := 20) (s 121 16 + 1) (by decide)⟩
        · exact takes_1 f h
      · cases h; exact ⟨Or.inl rfl, rfl⟩
    · cases h; exact ⟨Or.inl rfl, rfl⟩
theorem takes_s {w : List Int} {s : xW} {q : Int × xW} (h : F_X11_takesOf w s = some q) : (q.1 = -1 ∨ 0 ≤ q.1) ∧ q.2 121 20 = s 121 20 := takes_1 xN h
theorem xB7_drop (n : Nat) : xB7 (([97, 98, 99, 100] : List Int).drop n) := ⟨fun x hx => by have := List.mem_of_mem_drop hx; revert x; simp; omega, by simp; omega⟩
theorem xbud_le {l2 r v35 v39 : Int} (h1 : 0 ≤ l2 + 1) (hr : r = -1 ∨ 0 ≤ r) (e1 : (if 0 ≤ xw r then 1 else 0) = v35) (e2 : (if xw v35 ≠ 0 then (l2 + 1) + r else l2) = v39) : xbud v39 v35 ≤ 2 * (3 - l2).toNat := by
  subst e1 e2
  unfold xbud
  by_cases h : 0 ≤ xw r
  · rw [if_pos h]
    rw [if_neg (show ¬ xw 1 = 0 by decide), if_pos (show xw 1 ≠ 0 by decide)]
    have : 0 ≤ r := by
      rcases hr with rfl | hr
      · exact absurd h (by decide)
      · exact hr
    omega
  · rw [if_neg h, if_pos (show xw 0 = 0 by decide)]
    omega
theorem s_X11_readsDeed_96 {l1_25 : Int} {q : Int × xW} {k : Int → Int → xW → Option (Int × xW)} (hk : ∀ (l2_50 : Int) (l3_51 : Int) (s52 : xW), k l2_50 l3_51 s52 = some q → xG 9 0 0 mX11_readsDeed 165 [vR 121, vI l1_25, vI l2_50, vI l3_51, vX] [] 155 s52 (xRv (vI q.1) q.2)) : ∀ (f : Nat) (l2_26 : Int) (l3_27 : Int) (s28 : xW), F_X11_readsDeed_96 l1_25 f l2_26 l3_27 s28 k = some q → xG 9 (xbud l2_26 l3_27) (4 * xbud l2_26 l3_27) mX11_readsDeed 96 [vR 121, vI l1_25, vI l2_26, vI l3_27, vX] [] 155 s28 (xRv (vI q.1) q.2) := by
  intro f
  induction f with
  | zero => intro l2_26 l3_27 s28 h; cases h
  | succ f ih =>
    intro l2_26 l3_27 s28 h
    unfold F_X11_readsDeed_96 at h
    refine g_iln dX11_readsDeed_96 rfl rfl ?_
    refine g_yeq dX11_readsDeed_97 (tgt := 165) rfl rfl (fun q29 => ?_) (fun q29 => ?_)
    · replace h := xif_f q29 h
      exact g_budget (Nat.zero_le _) (Nat.zero_le _) (hk l2_26 l3_27 s28 h)
    · replace h := xif_t q29 h
      refine g_aln dX11_readsDeed_100 rfl rfl (by decide) ?_
      refine g_ldcS 5 dX11_readsDeed_101 rfl rfl rfl ?_
      refine g_iln dX11_readsDeed_103 rfl rfl ?_
      refine g_ic dX11_readsDeed_104 ?_
      refine g_iadd dX11_readsDeed_105 ?_
      obtain ⟨hg30, h⟩ := xgd_e h
      obtain ⟨r32, s33, e31, h⟩ := xbd_e h
      have hr32 := (takes_s e31).1
      have hbu : xbud l2_26 l3_27 = 2 * (3 - l2_26).toNat + 2 := by
        have := hg30.1
        have h4 : l2_26 + 1 ≤ 4 := hg30.2
        unfold xbud
        rw [if_neg q29]
        omega
      rw [hbu, show 4 * (2 * (3 - l2_26).toNat + 2) = 8 * (3 - l2_26).toNat + 8 by omega]
      refine g_subT hg30 dX11_readsDeed_106 wl_NoonGunModel_193 dX11_readsDeed_109 ml_X11_197 (s_X11_takesOf (xB7_drop _) e31) (by decide) rfl ?_
      refine g_ist_4 dX11_readsDeed_112 (by decide) rfl ?_
      refine g_il dX11_readsDeed_114 rfl ?_
      obtain ⟨v35, e36, h⟩ := xlt_e h
      have hj37 : xG 9 (2 * (3 - l2_26).toNat) (8 * (3 - l2_26).toNat) mX11_readsDeed 124 [vR 121, vI l1_25, vI l2_26, vX, vI r32] [vI v35] 155 s33 (xRv (vI q.1) q.2) := by
        refine g_istn_3 dX11_readsDeed_124 (by decide) rfl ?_
        refine g_iln dX11_readsDeed_125 rfl rfl ?_
        obtain ⟨v39, e40, h⟩ := xlt_e h
        have hj41 : xG 9 (2 * (3 - l2_26).toNat) (8 * (3 - l2_26).toNat) mX11_readsDeed 139 [vR 121, vI l1_25, vX, vI v35, vX] [vI v39] 155 s33 (xRv (vI q.1) q.2) := by
          refine g_istn_2 dX11_readsDeed_139 (by decide) rfl ?_
          refine g_aln dX11_readsDeed_140 rfl rfl (by decide) ?_
          refine g_getC 130 dX11_readsDeed_141 fl_X11_56 rfl (by decide) ?_
          refine g_iln dX11_readsDeed_144 rfl rfl ?_
          refine g_ic dX11_readsDeed_145 ?_
          refine g_iadd dX11_readsDeed_146 ?_
          refine g_dup2 dX11_readsDeed_147 rfl rfl ?_
          obtain ⟨hg42, h⟩ := xgd_e h
          refine g_iald 24 dX11_readsDeed_148 rfl hg42 (by decide) ?_
          refine g_iln dX11_readsDeed_149 rfl rfl ?_
          obtain ⟨v44, e45, h⟩ := xlt_e h
          have hj46 : xG 9 (2 * (3 - l2_26).toNat) (8 * (3 - l2_26).toNat) mX11_readsDeed 160 [vR 121, vI l1_25, vI v39, vI v35, vX] [vI v44, vI (s33 130 (l1_25 + 2)), vI (l1_25 + 2), vR 130] 155 s33 (xRv (vI q.1) q.2) := by
            refine g_ior dX11_readsDeed_160 ?_
            obtain ⟨hg47, h⟩ := xgd_e h
            obtain ⟨s48, e49, h⟩ := xlt_e h
            refine h_iast 24 dX11_readsDeed_161 rfl hg47 (by decide) e49 ?_
            refine g_goto dX11_readsDeed_162 (tgt := 96) rfl ?_
            refine g_budget (bc' := xbud v39 v35) (bs' := 4 * xbud v39 v35) ?_ ?_ (ih v39 v35 s48 h)
            · exact xbud_le hg30.1 hr32 e36 e40
            · have := xbud_le hg30.1 hr32 e36 e40; omega
          refine g_yeq dX11_readsDeed_150 (tgt := 159) rfl rfl (fun c43 => ?_) (fun c43 => ?_)
          · skip
            refine g_ic dX11_readsDeed_159 ?_
            exact g_vq ((if_neg c43).symm.trans e45) hj46
          · skip
            refine g_ic dX11_readsDeed_153 ?_
            refine g_iln dX11_readsDeed_154 rfl rfl ?_
            refine g_ishl dX11_readsDeed_155 ?_
            refine g_goto dX11_readsDeed_156 (tgt := 160) rfl ?_
            exact g_vq ((if_pos c43).symm.trans e45) hj46
        refine g_yeq dX11_readsDeed_126 (tgt := 138) rfl rfl (fun c38 => ?_) (fun c38 => ?_)
        · skip
          refine g_iln dX11_readsDeed_138 rfl rfl ?_
          refine g_drop_2 ?_
          refine g_drop_4 ?_
          exact g_vq ((if_neg c38).symm.trans e40) hj41
        · skip
          refine g_iln dX11_readsDeed_129 rfl rfl ?_
          refine g_ic dX11_readsDeed_130 ?_
          refine g_iadd dX11_readsDeed_131 ?_
          refine g_il dX11_readsDeed_132 rfl ?_
          refine g_iadd dX11_readsDeed_134 ?_
          refine g_goto dX11_readsDeed_135 (tgt := 139) rfl ?_
          refine g_drop_2 ?_
          refine g_drop_4 ?_
          exact g_vq ((if_pos c38).symm.trans e40) hj41
      refine g_ylt dX11_readsDeed_116 (tgt := 123) rfl rfl (fun c34 => ?_) (fun c34 => ?_)
      · skip
        refine g_ic dX11_readsDeed_123 ?_
        refine g_drop_3 ?_
        exact g_vq ((if_neg c34).symm.trans e36) hj37
      · skip
        refine g_ic dX11_readsDeed_119 ?_
        refine g_goto dX11_readsDeed_120 (tgt := 124) rfl ?_
        refine g_drop_3 ?_
        exact g_vq ((if_pos c34).symm.trans e36) hj37
theorem s_X11_readsDeed {s0 : xW} {q : Int × xW} (h : F_X11_readsDeed  s0 = some q) : xC 9 10 40 mX11_readsDeed [vR 121] 155 s0 (xRv (vI q.1) q.2) := by
  refine xC.of [vR 121, vX, vX, vX, vX] (by decide +kernel) (Nat.le_of_ble_eq_true rfl) rfl ?_
  unfold F_X11_readsDeed at h
  refine g_aln dX11_readsDeed_0 rfl rfl (by decide) ?_
  refine g_getI 4 dX11_readsDeed_1 fl_X11_136 rfl rfl ?_
  refine g_aln dX11_readsDeed_4 rfl rfl (by decide) ?_
  refine g_getI 20 dX11_readsDeed_5 fl_X11_181 rfl rfl ?_
  refine g_iadd dX11_readsDeed_8 ?_
  refine g_bi dX11_readsDeed_9 (by decide) ?_
  refine g_wne dX11_readsDeed_11 (tgt := 16) rfl rfl (xw_id (by decide)) (fun q1 => ?_) (fun q1 => ?_)
  · replace h := xif_f q1 h
    refine g_ic dX11_readsDeed_16 ?_
    refine g_aln dX11_readsDeed_17 rfl rfl (by decide) ?_
    refine g_getI 20 dX11_readsDeed_18 fl_X11_181 rfl rfl ?_
    refine g_imul dX11_readsDeed_21 ?_
    refine g_istn_1 dX11_readsDeed_22 (by decide) rfl ?_
    refine g_aln dX11_readsDeed_23 rfl rfl (by decide) ?_
    refine g_getC 130 dX11_readsDeed_24 fl_X11_56 rfl (by decide) ?_
    refine g_iln dX11_readsDeed_27 rfl rfl ?_
    refine g_aln dX11_readsDeed_28 rfl rfl (by decide) ?_
    refine g_ic dX11_readsDeed_29 ?_
    refine g_aln dX11_readsDeed_30 rfl rfl (by decide) ?_
    refine g_getI 3 dX11_readsDeed_31 fl_X11_129 rfl rfl ?_
    refine g_ic dX11_readsDeed_34 ?_
    refine g_isub dX11_readsDeed_35 ?_
    obtain ⟨r3, s4, e2, h⟩ := xbd_e h
    refine g_cV2v dX11_readsDeed_36 ml_X11_188 rfl (s_X11_digitIn e2) (by decide) rfl ?_
    obtain ⟨hg5, h⟩ := xgd_e h
    obtain ⟨s6, e7, h⟩ := xlt_e h
    refine h_iast 24 dX11_readsDeed_39 rfl hg5 (by decide) e7 ?_
    refine g_aln dX11_readsDeed_40 rfl rfl (by decide) ?_
    refine g_getC 130 dX11_readsDeed_41 fl_X11_56 rfl (by decide) ?_
    refine g_iln dX11_readsDeed_44 rfl rfl ?_
    refine g_ic dX11_readsDeed_45 ?_
    refine g_iadd dX11_readsDeed_46 ?_
    refine g_aln dX11_readsDeed_47 rfl rfl (by decide) ?_
    refine g_getC 130 dX11_readsDeed_48 fl_X11_56 rfl (by decide) ?_
    refine g_iln dX11_readsDeed_51 rfl rfl ?_
    obtain ⟨hg8, h⟩ := xgd_e h
    refine g_iald 24 dX11_readsDeed_52 rfl hg8 (by decide) ?_
    obtain ⟨j11, ej12, h⟩ := xjn_e h
    have hj13 : ∀ (t9 : Int) (s10 : xW), j11 t9 s10 = some q → xG 9 10 40 mX11_readsDeed 67 [vR 121, vI (3 * (s0 121 20)), vX, vX, vX] [vI t9, vI ((3 * (s0 121 20)) + 1), vR 130] 155 s10 (xRv (vI q.1) q.2) := by
      intro t9 s10 h
      rw [ej12] at h
      obtain ⟨hg14, h⟩ := xgd_e h
      obtain ⟨s15, e16, h⟩ := xlt_e h
      refine h_iast 24 dX11_readsDeed_67 rfl hg14 (by decide) e16 ?_
      refine g_aln dX11_readsDeed_68 rfl rfl (by decide) ?_
      refine g_getC 130 dX11_readsDeed_69 fl_X11_56 rfl (by decide) ?_
      refine g_iln dX11_readsDeed_72 rfl rfl ?_
      refine g_ic dX11_readsDeed_73 ?_
      refine g_iadd dX11_readsDeed_74 ?_
      refine g_ic dX11_readsDeed_75 ?_
      obtain ⟨hg17, h⟩ := xgd_e h
      obtain ⟨s18, e19, h⟩ := xlt_e h
      refine h_iast 24 dX11_readsDeed_76 rfl hg17 (by decide) e19 ?_
      refine g_ic dX11_readsDeed_77 ?_
      refine g_istn_2 dX11_readsDeed_78 (by decide) rfl ?_
      refine g_aln dX11_readsDeed_79 rfl rfl (by decide) ?_
      refine g_getC 130 dX11_readsDeed_80 fl_X11_56 rfl (by decide) ?_
      refine g_iln dX11_readsDeed_83 rfl rfl ?_
      refine g_ic dX11_readsDeed_84 ?_
      refine g_iadd dX11_readsDeed_85 ?_
      obtain ⟨hg20, h⟩ := xgd_e h
      refine g_iald 24 dX11_readsDeed_86 rfl hg20 (by decide) ?_
      obtain ⟨v22, e23, h⟩ := xlt_e h
      have hj24 : xG 9 10 40 mX11_readsDeed 95 [vR 121, vI (3 * (s0 121 20)), vI (-1), vX, vX] [vI v22] 155 s18 (xRv (vI q.1) q.2) := by
        refine g_istn_3 dX11_readsDeed_95 (by decide) rfl ?_
        refine g_budget (bc' := xbud (-1) v22) (bs' := 4 * xbud (-1) v22) (by unfold xbud; split <;> decide) (by unfold xbud; split <;> decide) (s_X11_readsDeed_96 (fun l2_53 l3_54 s55 h => ?_) xN _ _ _ h)
        refine g_aln dX11_readsDeed_165 rfl rfl (by decide) ?_
        refine g_dup dX11_readsDeed_166 rfl ?_
        refine g_getI 20 dX11_readsDeed_167 fl_X11_181 rfl rfl ?_
        refine g_ic dX11_readsDeed_170 ?_
        refine g_iadd dX11_readsDeed_171 ?_
        obtain ⟨s56, e57, h⟩ := xlt_e h
        refine h_putI 20 dX11_readsDeed_172 fl_X11_181 rfl rfl e57 ?_
        refine g_aln dX11_readsDeed_175 rfl rfl (by decide) ?_
        refine g_getC 130 dX11_readsDeed_176 fl_X11_56 rfl (by decide) ?_
        refine g_iln dX11_readsDeed_179 rfl rfl ?_
        refine g_ic dX11_readsDeed_180 ?_
        refine g_iadd dX11_readsDeed_181 ?_
        obtain ⟨hg58, h⟩ := xgd_e h
        refine g_iald 24 dX11_readsDeed_182 rfl hg58 (by decide) ?_
        obtain ⟨v60, e61, h⟩ := xlt_e h
        have hj62 : xG 9 0 0 mX11_readsDeed 191 [vX, vX, vX, vX, vX] [vI v60] 155 s56 (xRv (vI q.1) q.2) := by
          obtain ⟨hg63, h⟩ := xgd_e h
          exact g_rZ rfl dX11_readsDeed_191 hg63 h
        refine g_yle dX11_readsDeed_183 (tgt := 190) rfl rfl (fun c59 => ?_) (fun c59 => ?_)
        · skip
          refine g_ic dX11_readsDeed_190 ?_
          refine g_drop_0 ?_
          refine g_drop_1 ?_
          refine g_drop_2 ?_
          refine g_drop_3 ?_
          exact g_vq ((if_neg c59).symm.trans e61) hj62
        · skip
          refine g_ic dX11_readsDeed_186 ?_
          refine g_goto dX11_readsDeed_187 (tgt := 191) rfl ?_
          refine g_drop_0 ?_
          refine g_drop_1 ?_
          refine g_drop_2 ?_
          refine g_drop_3 ?_
          exact g_vq ((if_pos c59).symm.trans e61) hj62
      refine g_yle dX11_readsDeed_87 (tgt := 94) rfl rfl (fun c21 => ?_) (fun c21 => ?_)
      · skip
        refine g_ic dX11_readsDeed_94 ?_
        exact g_vq ((if_neg c21).symm.trans e23) hj24
      · skip
        refine g_ic dX11_readsDeed_90 ?_
        refine g_goto dX11_readsDeed_91 (tgt := 95) rfl ?_
        exact g_vq ((if_pos c21).symm.trans e23) hj24
    clear ej12
    refine g_yge dX11_readsDeed_53 (tgt := 60) rfl rfl (fun q64 => ?_) (fun q64 => ?_)
    · replace h := xif_f q64 h
      refine g_aln dX11_readsDeed_60 rfl rfl (by decide) ?_
      refine g_ic dX11_readsDeed_61 ?_
      refine g_bi dX11_readsDeed_62 (by decide) ?_
      obtain ⟨r66, s67, e65, h⟩ := xbd_e h
      refine g_cV2v dX11_readsDeed_64 ml_X11_188 rfl (s_X11_digitIn e65) (by decide) rfl ?_
      exact hj13 r66 s67 h
    · replace h := xif_t q64 h
      refine g_ic dX11_readsDeed_56 ?_
      refine g_goto dX11_readsDeed_57 (tgt := 67) rfl ?_
      exact hj13 (-1) s6 h
  · replace h := xif_t q1 h
    refine g_ic dX11_readsDeed_14 ?_
    exact g_rZ rfl dX11_readsDeed_15 (by decide) h
theorem pdeed_96 {l1 : Int} {kk : Int → Int → xW → Option (Int × xW)} {q : Int × xW} : ∀ (f : Nat) {l2 l3 : Int} {s : xW}, F_X11_readsDeed_96 l1 f l2 l3 s kk = some q → ∃ a b s', kk a b s' = some q ∧ s' 121 20 = s 121 20
  | 0, _, _, _, h => by cases h
  | f + 1, l2, l3, s, h => by
    unfold F_X11_readsDeed_96 at h
    split at h
    · obtain ⟨g1, h⟩ := xgd_e h
      obtain ⟨r, s1, e1, h⟩ := xbd_e h
      obtain ⟨v, e2, h⟩ := xlt_e h
      obtain ⟨v2, e3, h⟩ := xlt_e h
      obtain ⟨g2, h⟩ := xgd_e h
      obtain ⟨v3, e4, h⟩ := xlt_e h
      obtain ⟨g3, h⟩ := xgd_e h
      obtain ⟨s2, e5, h⟩ := xlt_e h
      obtain ⟨a, b, s', e6, e7⟩ := pdeed_96 f h
      refine ⟨a, b, s', e6, ?_⟩
      rw [e7, ← e5, xu_cell _ _ _ _ (by decide)]
      exact (takes_s e1).2
    · exact ⟨l2, l3, s, h, rfl⟩
theorem digit_20 {a1 a2 : Int} {s : xW} {q : Int × xW} (h : F_X11_digitIn a1 a2 s = some q) : q.2 121 20 = s 121 20 := by
  unfold F_X11_digitIn at h
  obtain ⟨j1, ej, h⟩ := xjn_e h
  split at h
  · obtain ⟨g1, h⟩ := xgd_e h
    obtain ⟨r, e1, h⟩ := xbp_e h
    split at h
    · rw [ej] at h; cases h; rfl
    · obtain ⟨s9, e9, h⟩ := xlt_e h
      obtain ⟨g2, h⟩ := xgd_e h
      cases h
      subst e9
      exact xu_slot s 121 (k := 16) (k' := 20) (s 121 16 + 1) (by decide)
  · rw [ej] at h; cases h; rfl
theorem sign_20 {a1 : Int} {s : xW} {q : Int × xW} (h : F_X11_takesSign a1 s = some q) : q.2 121 20 = s 121 20 := by
  unfold F_X11_takesSign at h
  obtain ⟨j2, ej2, h⟩ := xjn_e h
  obtain ⟨j10, ej10, h⟩ := xjn_e h
  have key : ∀ t, j2 t = some q → q.2 121 20 = s 121 20 := by
    intro t h
    rw [ej2] at h
    obtain ⟨r, e1, h⟩ := xbp_e h
    obtain ⟨s7, e2, h⟩ := xlt_e h
    obtain ⟨g1, h⟩ := xgd_e h
    cases h
    subst e2
    exact xu_slot s 121 (k := 16) (k' := 20) (s 121 16 + r) (by decide)
  split at h
  · obtain ⟨g1, h⟩ := xgd_e h
    split at h
    · exact key _ h
    · rw [ej10] at h; exact key _ h
  · rw [ej10] at h; exact key _ h
theorem deed_s {s : xW} {q : Int × xW} (h : F_X11_readsDeed s = some q) : q.1 = 0 ∨ (0 ≤ s 121 20 ∧ s 121 20 ≤ 7 ∧ q.2 121 20 = s 121 20 + 1) := by
  unfold F_X11_readsDeed at h
  split at h
  · cases h; exact Or.inl rfl
  · obtain ⟨r3, s4, e1, h⟩ := xbd_e h
    obtain ⟨g1, h⟩ := xgd_e h
    obtain ⟨s6, e6, h⟩ := xlt_e h
    obtain ⟨g2, h⟩ := xgd_e h
    obtain ⟨j11, ej, h⟩ := xjn_e h
    have h4 := digit_20 e1
    have h6 : s6 121 20 = s 121 20 := by rw [← e6, xu_cell _ _ _ _ (by decide)]; exact h4
    have key : ∀ t9 s10, s10 121 20 = s 121 20 → j11 t9 s10 = some q → q.2 121 20 = s 121 20 + 1 := by
      intro t9 s10 h10 h
      rw [ej] at h
      obtain ⟨g3, h⟩ := xgd_e h
      obtain ⟨s15, e15, h⟩ := xlt_e h
      obtain ⟨g4, h⟩ := xgd_e h
      obtain ⟨s18, e18, h⟩ := xlt_e h
      obtain ⟨g5, h⟩ := xgd_e h
      obtain ⟨v22, e22, h⟩ := xlt_e h
      obtain ⟨a, b, s', h, e7⟩ := pdeed_96 _ h
      obtain ⟨s56, e56, h⟩ := xlt_e h
      obtain ⟨g6, h⟩ := xgd_e h
      obtain ⟨v60, e60, h⟩ := xlt_e h
      obtain ⟨g7, h⟩ := xgd_e h
      cases h
      show s56 121 20 = _
      rw [← e56, xu_same, e7, ← e18, xu_cell _ _ _ _ (by decide), ← e15, xu_cell _ _ _ _ (by decide), h10]
    refine Or.inr ⟨by omega, by omega, ?_⟩
    split at h
    · exact key _ _ h6 h
    · obtain ⟨r66, s67, e66, h⟩ := xbd_e h
      exact key _ _ ((digit_20 e66).trans h6) h
theorem dX11_takesSign_0 : decode cX11_takesSign 0 = .ok (.aload_n 0, 1) := by decide +kernel
theorem dX11_takesSign_1 : decode cX11_takesSign 1 = .ok (.getfield 144, 3) := by decide +kernel
theorem dX11_takesSign_4 : decode cX11_takesSign 4 = .ok (.aload_n 0, 1) := by decide +kernel
theorem dX11_takesSign_5 : decode cX11_takesSign 5 = .ok (.getfield 156, 3) := by decide +kernel
theorem dX11_takesSign_8 : decode cX11_takesSign 8 = .ok (.if_icmp .ge 20, 3) := by decide +kernel
theorem dX11_takesSign_11 : decode cX11_takesSign 11 = .ok (.aload_n 0, 1) := by decide +kernel
theorem dX11_takesSign_12 : decode cX11_takesSign 12 = .ok (.getfield 53, 3) := by decide +kernel
theorem dX11_takesSign_15 : decode cX11_takesSign 15 = .ok (.aload_n 0, 1) := by decide +kernel
theorem dX11_takesSign_16 : decode cX11_takesSign 16 = .ok (.getfield 144, 3) := by decide +kernel
theorem dX11_takesSign_19 : decode cX11_takesSign 19 = .ok (.iaload, 1) := by decide +kernel
theorem dX11_takesSign_20 : decode cX11_takesSign 20 = .ok (.iload_n 1, 1) := by decide +kernel
theorem dX11_takesSign_21 : decode cX11_takesSign 21 = .ok (.if_icmp .ne 7, 3) := by decide +kernel
theorem dX11_takesSign_24 : decode cX11_takesSign 24 = .ok (.iconst 1, 1) := by decide +kernel
theorem dX11_takesSign_25 : decode cX11_takesSign 25 = .ok (.goto 4, 3) := by decide +kernel
theorem dX11_takesSign_28 : decode cX11_takesSign 28 = .ok (.iconst 0, 1) := by decide +kernel
theorem dX11_takesSign_29 : decode cX11_takesSign 29 = .ok (.istore_n 2, 1) := by decide +kernel
theorem dX11_takesSign_30 : decode cX11_takesSign 30 = .ok (.aload_n 0, 1) := by decide +kernel
theorem dX11_takesSign_31 : decode cX11_takesSign 31 = .ok (.dup, 1) := by decide +kernel
theorem dX11_takesSign_32 : decode cX11_takesSign 32 = .ok (.getfield 144, 3) := by decide +kernel
theorem dX11_takesSign_35 : decode cX11_takesSign 35 = .ok (.iload_n 2, 1) := by decide +kernel
theorem dX11_takesSign_36 : decode cX11_takesSign 36 = .ok (.invokestatic 159, 3) := by decide +kernel
theorem dX11_takesSign_39 : decode cX11_takesSign 39 = .ok (.iadd, 1) := by decide +kernel
theorem dX11_takesSign_40 : decode cX11_takesSign 40 = .ok (.putfield 144, 3) := by decide +kernel
theorem dX11_takesSign_43 : decode cX11_takesSign 43 = .ok (.iload_n 2, 1) := by decide +kernel
theorem dX11_takesSign_44 : decode cX11_takesSign 44 = .ok (.ireturn, 1) := by decide +kernel
theorem s_X11_takesSign {a1 : Int} {s0 : xW} {q : Int × xW} (h : F_X11_takesSign a1 s0 = some q) : xC 1 0 0 mX11_takesSign [vR 121, vI a1] 155 s0 (xRv (vI q.1) q.2) := by
  refine xC.of [vR 121, vI a1, vX] (by decide +kernel) (Nat.le_of_ble_eq_true rfl) rfl ?_
  unfold F_X11_takesSign at h
  refine g_aln dX11_takesSign_0 rfl rfl (by decide) ?_
  refine g_getI 16 dX11_takesSign_1 fl_X11_144 rfl rfl ?_
  refine g_aln dX11_takesSign_4 rfl rfl (by decide) ?_
  refine g_getI 17 dX11_takesSign_5 fl_X11_156 rfl rfl ?_
  obtain ⟨j2, ej3, h⟩ := xjn_e h
  have hj4 : ∀ (t1 : Int), j2 t1 = some q → xG 1 0 0 mX11_takesSign 29 [vR 121, vX, vX] [vI t1] 155 s0 (xRv (vI q.1) q.2) := by
    intro t1 h
    rw [ej3] at h
    refine g_istn_2 dX11_takesSign_29 (by decide) rfl ?_
    refine g_aln dX11_takesSign_30 rfl rfl (by decide) ?_
    refine g_dup dX11_takesSign_31 rfl ?_
    refine g_getI 16 dX11_takesSign_32 fl_X11_144 rfl rfl ?_
    refine g_iln dX11_takesSign_35 rfl rfl ?_
    obtain ⟨r6, e5, h⟩ := xbp_e h
    refine g_cS1v dX11_takesSign_36 ml_X11_159 (s_X11_flag e5) (by decide) rfl ?_
    refine g_iadd dX11_takesSign_39 ?_
    obtain ⟨s7, e8, h⟩ := xlt_e h
    refine h_putI 16 dX11_takesSign_40 fl_X11_144 rfl rfl e8 ?_
    refine g_iln dX11_takesSign_43 rfl rfl ?_
    obtain ⟨hg9, h⟩ := xgd_e h
    exact g_rZ rfl dX11_takesSign_44 hg9 h
  clear ej3
  obtain ⟨j10, ej11, h⟩ := xjn_e h
  have hj12 : j10  = some q → xG 1 0 0 mX11_takesSign 28 [vR 121, vX, vX] [] 155 s0 (xRv (vI q.1) q.2) := by
    intro  h
    rw [ej11] at h
    refine g_ic dX11_takesSign_28 ?_
    exact hj4 0 h
  clear ej11
  refine g_wge dX11_takesSign_8 (tgt := 28) rfl rfl rfl (fun q13 => ?_) (fun q13 => ?_)
  · replace h := xif_f q13 h
    refine g_drop_1 ?_
    exact hj12  h
  · replace h := xif_t q13 h
    refine g_aln dX11_takesSign_11 rfl rfl (by decide) ?_
    refine g_getC 129 dX11_takesSign_12 fl_X11_53 rfl (by decide) ?_
    refine g_aln dX11_takesSign_15 rfl rfl (by decide) ?_
    refine g_getI 16 dX11_takesSign_16 fl_X11_144 rfl rfl ?_
    obtain ⟨hg14, h⟩ := xgd_e h
    refine g_iald 80 dX11_takesSign_19 rfl hg14 (by decide) ?_
    refine g_iln dX11_takesSign_20 rfl rfl ?_
    refine g_wne dX11_takesSign_21 (tgt := 28) rfl rfl rfl (fun q15 => ?_) (fun q15 => ?_)
    · replace h := xif_f q15 h
      refine g_drop_1 ?_
      exact hj12  h
    · replace h := xif_t q15 h
      refine g_ic dX11_takesSign_24 ?_
      refine g_goto dX11_takesSign_25 (tgt := 29) rfl ?_
      refine g_drop_1 ?_
      exact hj4 1 h
theorem dX11_faultOf_0 : decode cX11_faultOf 0 = .ok (.iload_n 3, 1) := by decide +kernel
theorem dX11_faultOf_1 : decode cX11_faultOf 1 = .ok (.ifCond .eq 18, 3) := by decide +kernel
theorem dX11_faultOf_4 : decode cX11_faultOf 4 = .ok (.aload_n 0, 1) := by decide +kernel
theorem dX11_faultOf_5 : decode cX11_faultOf 5 = .ok (.getfield 144, 3) := by decide +kernel
theorem dX11_faultOf_8 : decode cX11_faultOf 8 = .ok (.aload_n 0, 1) := by decide +kernel
theorem dX11_faultOf_9 : decode cX11_faultOf 9 = .ok (.getfield 156, 3) := by decide +kernel
theorem dX11_faultOf_12 : decode cX11_faultOf 12 = .ok (.if_icmp .ne 7, 3) := by decide +kernel
theorem dX11_faultOf_15 : decode cX11_faultOf 15 = .ok (.iconst 1, 1) := by decide +kernel
theorem dX11_faultOf_16 : decode cX11_faultOf 16 = .ok (.goto 4, 3) := by decide +kernel
theorem dX11_faultOf_19 : decode cX11_faultOf 19 = .ok (.iconst 0, 1) := by decide +kernel
theorem dX11_faultOf_20 : decode cX11_faultOf 20 = .ok (.istore 4, 2) := by decide +kernel
theorem dX11_faultOf_22 : decode cX11_faultOf 22 = .ok (.iload_n 1, 1) := by decide +kernel
theorem dX11_faultOf_23 : decode cX11_faultOf 23 = .ok (.iload_n 2, 1) := by decide +kernel
theorem dX11_faultOf_24 : decode cX11_faultOf 24 = .ok (.if_icmp .le 20, 3) := by decide +kernel
theorem dX11_faultOf_27 : decode cX11_faultOf 27 = .ok (.iload 4, 2) := by decide +kernel
theorem dX11_faultOf_29 : decode cX11_faultOf 29 = .ok (.ifCond .ne 11, 3) := by decide +kernel
theorem dX11_faultOf_32 : decode cX11_faultOf 32 = .ok (.aload_n 0, 1) := by decide +kernel
theorem dX11_faultOf_33 : decode cX11_faultOf 33 = .ok (.getfield 144, 3) := by decide +kernel
theorem dX11_faultOf_36 : decode cX11_faultOf 36 = .ok (.iload_n 2, 1) := by decide +kernel
theorem dX11_faultOf_37 : decode cX11_faultOf 37 = .ok (.if_icmp .lt 7, 3) := by decide +kernel
theorem dX11_faultOf_40 : decode cX11_faultOf 40 = .ok (.iconst (-1), 1) := by decide +kernel
theorem dX11_faultOf_41 : decode cX11_faultOf 41 = .ok (.iload_n 2, 1) := by decide +kernel
theorem dX11_faultOf_42 : decode cX11_faultOf 42 = .ok (.isub, 1) := by decide +kernel
theorem dX11_faultOf_43 : decode cX11_faultOf 43 = .ok (.ireturn, 1) := by decide +kernel
theorem dX11_faultOf_44 : decode cX11_faultOf 44 = .ok (.iload 4, 2) := by decide +kernel
theorem dX11_faultOf_46 : decode cX11_faultOf 46 = .ok (.ifCond .eq 7, 3) := by decide +kernel
theorem dX11_faultOf_49 : decode cX11_faultOf 49 = .ok (.iconst 0, 1) := by decide +kernel
theorem dX11_faultOf_50 : decode cX11_faultOf 50 = .ok (.goto 9, 3) := by decide +kernel
theorem dX11_faultOf_53 : decode cX11_faultOf 53 = .ok (.iconst (-1), 1) := by decide +kernel
theorem dX11_faultOf_54 : decode cX11_faultOf 54 = .ok (.aload_n 0, 1) := by decide +kernel
theorem dX11_faultOf_55 : decode cX11_faultOf 55 = .ok (.getfield 144, 3) := by decide +kernel
theorem dX11_faultOf_58 : decode cX11_faultOf 58 = .ok (.isub, 1) := by decide +kernel
theorem dX11_faultOf_59 : decode cX11_faultOf 59 = .ok (.ireturn, 1) := by decide +kernel
theorem s_X11_faultOf {a1 a2 a3 : Int} {s0 : xW} {q : Int} (h : F_X11_faultOf a1 a2 a3 s0 = some q) : xC 0 0 0 mX11_faultOf [vR 121, vI a1, vI a2, vI a3] 155 s0 (xRv (vI q) s0) := by
  refine xC.of [vR 121, vI a1, vI a2, vI a3, vX] (by decide +kernel) (Nat.le_of_ble_eq_true rfl) rfl ?_
  unfold F_X11_faultOf at h
  refine g_iln dX11_faultOf_0 rfl rfl ?_
  obtain ⟨v3, e4, h⟩ := xlt_e h
  have hj5 : xG 0 0 0 mX11_faultOf 20 [vR 121, vI a1, vI a2, vX, vX] [vI v3] 155 s0 (xRv (vI q) s0) := by
    refine g_ist_4 dX11_faultOf_20 (by decide) rfl ?_
    refine g_iln dX11_faultOf_22 rfl rfl ?_
    refine g_iln dX11_faultOf_23 rfl rfl ?_
    obtain ⟨j6, ej7, h⟩ := xjn_e h
    have hj8 : j6  = some q → xG 0 0 0 mX11_faultOf 44 [vR 121, vX, vX, vX, vI v3] [] 155 s0 (xRv (vI q) s0) := by
      intro  h
      rw [ej7] at h
      refine g_il dX11_faultOf_44 rfl ?_
      obtain ⟨v10, e11, h⟩ := xlt_e h
      have hj12 : xG 0 0 0 mX11_faultOf 59 [vX, vX, vX, vX, vX] [vI v10] 155 s0 (xRv (vI q) s0) := by
        exact g_pI rfl dX11_faultOf_59 h
      refine g_yeq dX11_faultOf_46 (tgt := 53) rfl rfl (fun c9 => ?_) (fun c9 => ?_)
      · skip
        refine g_ic dX11_faultOf_53 ?_
        refine g_aln dX11_faultOf_54 rfl rfl (by decide) ?_
        refine g_getI 16 dX11_faultOf_55 fl_X11_144 rfl rfl ?_
        refine g_isub dX11_faultOf_58 ?_
        refine g_drop_0 ?_
        refine g_drop_4 ?_
        exact g_vq ((if_neg c9).symm.trans e11) hj12
      · skip
        refine g_ic dX11_faultOf_49 ?_
        refine g_goto dX11_faultOf_50 (tgt := 59) rfl ?_
        refine g_drop_0 ?_
        refine g_drop_4 ?_
        exact g_vq ((if_pos c9).symm.trans e11) hj12
    clear ej7
    refine g_wle dX11_faultOf_24 (tgt := 44) rfl rfl rfl (fun q13 => ?_) (fun q13 => ?_)
    · replace h := xif_f q13 h
      refine g_drop_1 ?_
      refine g_drop_2 ?_
      exact hj8  h
    · replace h := xif_t q13 h
      refine g_il dX11_faultOf_27 rfl ?_
      obtain ⟨j14, ej15, h⟩ := xjn_e h
      have hj16 : j14  = some q → xG 0 0 0 mX11_faultOf 40 [vX, vX, vI a2, vX, vX] [] 155 s0 (xRv (vI q) s0) := by
        intro  h
        rw [ej15] at h
        refine g_ic dX11_faultOf_40 ?_
        refine g_iln dX11_faultOf_41 rfl rfl ?_
        refine g_isub dX11_faultOf_42 ?_
        exact g_pI rfl dX11_faultOf_43 h
      clear ej15
      refine g_yne dX11_faultOf_29 (tgt := 40) rfl rfl (fun q17 => ?_) (fun q17 => ?_)
      · replace h := xif_f q17 h
        refine g_drop_0 ?_
        refine g_drop_1 ?_
        refine g_drop_4 ?_
        exact hj16  h
      · replace h := xif_t q17 h
        refine g_aln dX11_faultOf_32 rfl rfl (by decide) ?_
        refine g_getI 16 dX11_faultOf_33 fl_X11_144 rfl rfl ?_
        refine g_iln dX11_faultOf_36 rfl rfl ?_
        refine g_wlt dX11_faultOf_37 (tgt := 44) rfl rfl rfl (fun q18 => ?_) (fun q18 => ?_)
        · replace h := xif_f q18 h
          refine g_drop_1 ?_
          refine g_drop_2 ?_
          exact hj8  h
        · replace h := xif_t q18 h
          refine g_drop_0 ?_
          refine g_drop_1 ?_
          refine g_drop_4 ?_
          exact hj16  h
  refine g_yeq dX11_faultOf_1 (tgt := 19) rfl rfl (fun c1 => ?_) (fun c1 => ?_)
  · skip
    refine g_ic dX11_faultOf_19 ?_
    refine g_drop_3 ?_
    exact g_vq ((if_neg c1).symm.trans e4) hj5
  · skip
    refine g_aln dX11_faultOf_4 rfl rfl (by decide) ?_
    refine g_getI 16 dX11_faultOf_5 fl_X11_144 rfl rfl ?_
    refine g_aln dX11_faultOf_8 rfl rfl (by decide) ?_
    refine g_getI 17 dX11_faultOf_9 fl_X11_156 rfl rfl ?_
    refine g_wne dX11_faultOf_12 (tgt := 19) rfl rfl rfl (fun c2 => ?_) (fun c2 => ?_)
    · skip
      refine g_ic dX11_faultOf_19 ?_
      refine g_drop_3 ?_
      exact g_vq (((if_pos c1).trans (if_neg c2)).symm.trans e4) hj5
    · skip
      refine g_ic dX11_faultOf_15 ?_
      refine g_goto dX11_faultOf_16 (tgt := 20) rfl ?_
      refine g_drop_3 ?_
      exact g_vq (((if_pos c1).trans (if_pos c2)).symm.trans e4) hj5
theorem dX11_readsLines_0 : decode cX11_readsLines 0 = .ok (.aload_n 0, 1) := by decide +kernel
theorem dX11_readsLines_1 : decode cX11_readsLines 1 = .ok (.iload_n 2, 1) := by decide +kernel
theorem dX11_readsLines_2 : decode cX11_readsLines 2 = .ok (.invokevirtual 201, 3) := by decide +kernel
theorem dX11_readsLines_5 : decode cX11_readsLines 5 = .ok (.istore_n 3, 1) := by decide +kernel
theorem dX11_readsLines_6 : decode cX11_readsLines 6 = .ok (.aload_n 0, 1) := by decide +kernel
theorem dX11_readsLines_7 : decode cX11_readsLines 7 = .ok (.iconst 0, 1) := by decide +kernel
theorem dX11_readsLines_8 : decode cX11_readsLines 8 = .ok (.putfield 181, 3) := by decide +kernel
theorem dX11_readsLines_11 : decode cX11_readsLines 11 = .ok (.iconst 1, 1) := by decide +kernel
theorem dX11_readsLines_12 : decode cX11_readsLines 12 = .ok (.istore 4, 2) := by decide +kernel
theorem dX11_readsLines_14 : decode cX11_readsLines 14 = .ok (.iload_n 3, 1) := by decide +kernel
theorem dX11_readsLines_15 : decode cX11_readsLines 15 = .ok (.ifCond .le 7, 3) := by decide +kernel
theorem dX11_readsLines_18 : decode cX11_readsLines 18 = .ok (.iconst 1, 1) := by decide +kernel
theorem dX11_readsLines_19 : decode cX11_readsLines 19 = .ok (.goto 4, 3) := by decide +kernel
theorem dX11_readsLines_22 : decode cX11_readsLines 22 = .ok (.iconst 0, 1) := by decide +kernel
theorem dX11_readsLines_23 : decode cX11_readsLines 23 = .ok (.istore 5, 2) := by decide +kernel
theorem dX11_readsLines_25 : decode cX11_readsLines 25 = .ok (.iload 5, 2) := by decide +kernel
theorem dX11_readsLines_27 : decode cX11_readsLines 27 = .ok (.ifCond .eq 44, 3) := by decide +kernel
theorem dX11_readsLines_30 : decode cX11_readsLines 30 = .ok (.iload_n 1, 1) := by decide +kernel
theorem dX11_readsLines_31 : decode cX11_readsLines 31 = .ok (.ifCond .eq 10, 3) := by decide +kernel
theorem dX11_readsLines_34 : decode cX11_readsLines 34 = .ok (.aload_n 0, 1) := by decide +kernel
theorem dX11_readsLines_35 : decode cX11_readsLines 35 = .ok (.invokevirtual 204, 3) := by decide +kernel
theorem dX11_readsLines_38 : decode cX11_readsLines 38 = .ok (.goto 7, 3) := by decide +kernel
theorem dX11_readsLines_41 : decode cX11_readsLines 41 = .ok (.aload_n 0, 1) := by decide +kernel
theorem dX11_readsLines_42 : decode cX11_readsLines 42 = .ok (.invokevirtual 207, 3) := by decide +kernel
theorem dX11_readsLines_45 : decode cX11_readsLines 45 = .ok (.istore 4, 2) := by decide +kernel
theorem dX11_readsLines_47 : decode cX11_readsLines 47 = .ok (.iload 4, 2) := by decide +kernel
theorem dX11_readsLines_49 : decode cX11_readsLines 49 = .ok (.ifCond .eq 16, 3) := by decide +kernel
theorem dX11_readsLines_52 : decode cX11_readsLines 52 = .ok (.aload_n 0, 1) := by decide +kernel
theorem dX11_readsLines_53 : decode cX11_readsLines 53 = .ok (.bipush 59, 2) := by decide +kernel
theorem dX11_readsLines_55 : decode cX11_readsLines 55 = .ok (.invokevirtual 210, 3) := by decide +kernel
theorem dX11_readsLines_58 : decode cX11_readsLines 58 = .ok (.ifCond .eq 7, 3) := by decide +kernel
theorem dX11_readsLines_61 : decode cX11_readsLines 61 = .ok (.iconst 1, 1) := by decide +kernel
theorem dX11_readsLines_62 : decode cX11_readsLines 62 = .ok (.goto 4, 3) := by decide +kernel
theorem dX11_readsLines_65 : decode cX11_readsLines 65 = .ok (.iconst 0, 1) := by decide +kernel
theorem dX11_readsLines_66 : decode cX11_readsLines 66 = .ok (.istore 5, 2) := by decide +kernel
theorem dX11_readsLines_68 : decode cX11_readsLines 68 = .ok (.goto (-43), 3) := by decide +kernel
theorem dX11_readsLines_71 : decode cX11_readsLines 71 = .ok (.aload_n 0, 1) := by decide +kernel
theorem dX11_readsLines_72 : decode cX11_readsLines 72 = .ok (.iload_n 3, 1) := by decide +kernel
theorem dX11_readsLines_73 : decode cX11_readsLines 73 = .ok (.iload_n 2, 1) := by decide +kernel
theorem dX11_readsLines_74 : decode cX11_readsLines 74 = .ok (.iload 4, 2) := by decide +kernel
theorem dX11_readsLines_76 : decode cX11_readsLines 76 = .ok (.invokevirtual 214, 3) := by decide +kernel
theorem dX11_readsLines_79 : decode cX11_readsLines 79 = .ok (.ireturn, 1) := by decide +kernel
def xpot (l1 l5 : Int) (s : xW) : Nat := if xw l5 = 0 then 0 else if xw l1 ≠ 0 then 0 else 10 + 10 * (8 - s 121 20).toNat
theorem xpot_0 {l1 l5 : Int} {s : xW} (h : xw l5 = 0) : xpot l1 l5 s = 0 := if_pos h
theorem xpot_h {l1 l5 : Int} {s : xW} (h : xw l1 ≠ 0) : xpot l1 l5 s = 0 := by unfold xpot; split <;> simp
section RL
variable {d bc bs : Nat} {Y : xMD} {pc : Nat} {L S : List xV} {σ σ1 : xW} {K : List xV → Nat → xW → Prop}
theorem g_cB {c : Int} {as : List xV} {i ci na d' b1 b2 : Nat} {Y' : xMD} {v : xV} (hd : decode Y.2.1 pc = .ok (.invokevirtual i, 3)) (hm : xMV Y.1.cls i ci na Y') (hs : xob 155 c ci = true) (hC : xC d' b1 b2 Y' (vR c :: as) 155 σ (xRv v σ1)) (hna : as.length = na) (hdd : d' + 1 ≤ d) (hrest : decide ((S.map (fun v => if v.1 = 1 then 2 else 1)).sum ≤ 8) = true) (k : xG d bc bs Y (pc + 3) L (v :: S) 155 σ1 K) : xG d (bc + b1) (bs + b2) Y pc L (as.reverse ++ vR c :: S) 155 σ K :=
  g_callV hd hm hs hC hna hdd (of_decide_eq_true hrest) (fun r n' σ' _ hK => by obtain ⟨rfl, rfl, rfl⟩ := hK; exact k)
end RL
theorem xpot_le {l1 l5 : Int} {s s' : xW} (h : xu s 121 20 0 = s') : xpot l1 l5 s' ≤ 90 := by
  subst h
  unfold xpot
  rw [xu_same]
  split
  · decide
  · split
    · decide
    · decide
theorem s_X11_readsLines_25 {l1_10 l2_11 l3_12 : Int} {q : Int × xW} {k : Int → Int → xW → Option (Int × xW)} (hk : ∀ (l4_43 : Int) (l5_44 : Int) (s45 : xW), k l4_43 l5_44 s45 = some q → xG 10 0 0 mX11_readsLines 71 [vR 121, vI l1_10, vI l2_11, vI l3_12, vI l4_43, vI l5_44] [] 155 s45 (xRv (vI q.1) q.2)) : ∀ (f : Nat) (l4_13 : Int) (l5_14 : Int) (s15 : xW), F_X11_readsLines_25 l1_10 l2_11 l3_12 f l4_13 l5_14 s15 k = some q → xG 10 (xpot l1_10 l5_14 s15) (4 * xpot l1_10 l5_14 s15) mX11_readsLines 25 [vR 121, vI l1_10, vI l2_11, vI l3_12, vI l4_13, vI l5_14] [] 155 s15 (xRv (vI q.1) q.2) := by
  intro f
  induction f with
  | zero => intro l4_13 l5_14 s15 h; cases h
  | succ f ih =>
    intro l4_13 l5_14 s15 h
    unfold F_X11_readsLines_25 at h
    refine g_il dX11_readsLines_25 rfl ?_
    refine g_yeq dX11_readsLines_27 (tgt := 71) rfl rfl (fun q16 => ?_) (fun q16 => ?_)
    · replace h := xif_f q16 h
      exact g_budget (Nat.zero_le _) (Nat.zero_le _) (hk l4_13 l5_14 s15 h)
    · replace h := xif_t q16 h
      refine g_iln dX11_readsLines_30 rfl rfl ?_
      obtain ⟨j19, ej20, h⟩ := xjn_e h
      have hj21 : ∀ (t17 : Int) (s18 : xW), j19 t17 s18 = some q → xG 10 (xpot l1_10 t17 s18) (4 * xpot l1_10 t17 s18) mX11_readsLines 45 [vR 121, vI l1_10, vI l2_11, vI l3_12, vX, vX] [vI t17] 155 s18 (xRv (vI q.1) q.2) := by
        intro t17 s18 h
        rw [ej20] at h
        refine g_ist_4 dX11_readsLines_45 (by decide) rfl ?_
        refine g_il dX11_readsLines_47 rfl ?_
        obtain ⟨j24, ej25, h⟩ := xjn_e h
        have hj26 : ∀ (t22 : Int) (s23 : xW), j24 t22 s23 = some q → xG 10 (xpot l1_10 t22 s23) (4 * xpot l1_10 t22 s23) mX11_readsLines 66 [vR 121, vI l1_10, vI l2_11, vI l3_12, vI t17, vX] [vI t22] 155 s23 (xRv (vI q.1) q.2) := by
          intro t22 s23 h
          rw [ej25] at h
          refine g_ist_5 dX11_readsLines_66 (by decide) rfl ?_
          refine g_goto dX11_readsLines_68 (tgt := 25) rfl ?_
          exact ih t17 t22 s23 h
        clear ej25
        obtain ⟨j28, ej29, h⟩ := xjn_e h
        have hj30 : ∀ (s27 : xW), j28 s27 = some q → xG 10 0 0 mX11_readsLines 65 [vR 121, vI l1_10, vI l2_11, vI l3_12, vI t17, vX] [] 155 s27 (xRv (vI q.1) q.2) := by
          intro s27 h
          rw [ej29] at h
          refine g_ic dX11_readsLines_65 ?_
          have h26 := hj26 0 s27 h
          rw [xpot_0 (by decide)] at h26
          exact h26
        clear ej29
        refine g_yeq dX11_readsLines_49 (tgt := 65) rfl rfl (fun q31 => ?_) (fun q31 => ?_)
        · replace h := xif_f q31 h
          exact g_budget (Nat.zero_le _) (Nat.zero_le _) (hj30 s18 h)
        · replace h := xif_t q31 h
          refine g_aln dX11_readsLines_52 rfl rfl (by decide) ?_
          refine g_bi dX11_readsLines_53 (by decide) ?_
          obtain ⟨r33, s34, e32, h⟩ := xbd_e h
          refine g_cV1v dX11_readsLines_55 ml_X11_210 rfl (s_X11_takesSign e32) (by decide) rfl ?_
          refine g_yeq dX11_readsLines_58 (tgt := 65) rfl rfl (fun q35 => ?_) (fun q35 => ?_)
          · replace h := xif_f q35 h
            exact g_budget (Nat.zero_le _) (Nat.zero_le _) (hj30 s34 h)
          · replace h := xif_t q35 h
            refine g_ic dX11_readsLines_61 ?_
            refine g_goto dX11_readsLines_62 (tgt := 66) rfl ?_
            have e26 : xpot l1_10 1 s34 = xpot l1_10 t17 s18 := by
              unfold xpot
              rw [if_neg (show ¬ xw 1 = 0 by decide), if_neg q31, show s34 121 20 = s18 121 20 from sign_20 e32]
            have h26 := hj26 1 s34 h
            rw [e26] at h26
            exact h26
      clear ej20
      refine g_yeq dX11_readsLines_31 (tgt := 41) rfl rfl (fun q36 => ?_) (fun q36 => ?_)
      · replace h := xif_f q36 h
        refine g_aln dX11_readsLines_41 rfl rfl (by decide) ?_
        obtain ⟨r38, s39, e37, h⟩ := xbd_e h
        have hp1 : xpot l1_10 l5_14 s15 = 10 * (8 - s15 121 20).toNat + 10 := by
          unfold xpot
          rw [if_neg q16, if_neg q36]
          omega
        have hp2 : xpot l1_10 r38 s39 ≤ 10 * (8 - s15 121 20).toNat := by
          rcases deed_s e37 with g | ⟨g1, g2, g3⟩
          · have g : r38 = 0 := g
            rw [g, xpot_0 (by decide)]
            exact Nat.zero_le _
          · have g3 : s39 121 20 = s15 121 20 + 1 := g3
            unfold xpot
            split
            · exact Nat.zero_le _
            · first | (rw [if_neg q36, g3]; omega) | (rw [g3]; omega)
        rw [hp1, show 4 * (10 * (8 - s15 121 20).toNat + 10) = 40 * (8 - s15 121 20).toNat + 40 by omega]
        refine g_cB (as := []) dX11_readsLines_42 ml_X11_207 rfl (s_X11_readsDeed e37) rfl (by decide) rfl ?_
        refine g_drop_4 ?_
        refine g_drop_5 ?_
        exact g_budget hp2 (by omega) (hj21 r38 s39 h)
      · replace h := xif_t q36 h
        refine g_aln dX11_readsLines_34 rfl rfl (by decide) ?_
        obtain ⟨r41, s42, e40, h⟩ := xbd_e h
        rw [xpot_h q36]
        refine g_cV0v dX11_readsLines_35 ml_X11_204 rfl (s_X11_readsHouse e40) (by decide) rfl ?_
        refine g_goto dX11_readsLines_38 (tgt := 45) rfl ?_
        refine g_drop_4 ?_
        refine g_drop_5 ?_
        have h21 := hj21 r41 s42 h
        rw [xpot_h q36] at h21
        exact h21
theorem s_X11_readsLines {a1 a2 : Int} {s0 : xW} {q : Int × xW} (h : F_X11_readsLines a1 a2 s0 = some q) : xC 10 90 360 mX11_readsLines [vR 121, vI a1, vI a2] 155 s0 (xRv (vI q.1) q.2) := by
  refine xC.of [vR 121, vI a1, vI a2, vX, vX, vX] (by decide +kernel) (Nat.le_of_ble_eq_true rfl) rfl ?_
  unfold F_X11_readsLines at h
  refine g_aln dX11_readsLines_0 rfl rfl (by decide) ?_
  refine g_iln dX11_readsLines_1 rfl rfl ?_
  obtain ⟨r2, s3, e1, h⟩ := xbd_e h
  refine g_cV1v dX11_readsLines_2 ml_X11_201 rfl (s_X11_begins e1) (by decide) rfl ?_
  refine g_istn_3 dX11_readsLines_5 (by decide) rfl ?_
  refine g_aln dX11_readsLines_6 rfl rfl (by decide) ?_
  refine g_ic dX11_readsLines_7 ?_
  obtain ⟨s4, e5, h⟩ := xlt_e h
  refine h_putI 20 dX11_readsLines_8 fl_X11_181 rfl rfl e5 ?_
  refine g_ic dX11_readsLines_11 ?_
  refine g_ist_4 dX11_readsLines_12 (by decide) rfl ?_
  refine g_iln dX11_readsLines_14 rfl rfl ?_
  obtain ⟨v7, e8, h⟩ := xlt_e h
  have hj9 : xG 10 90 360 mX11_readsLines 23 [vR 121, vI a1, vI a2, vI r2, vI 1, vX] [vI v7] 155 s4 (xRv (vI q.1) q.2) := by
    refine g_ist_5 dX11_readsLines_23 (by decide) rfl ?_
    refine g_budget (bc' := xpot a1 v7 s4) (bs' := 4 * xpot a1 v7 s4) (xpot_le e5) (by have := xpot_le (l1 := a1) (l5 := v7) e5; omega) (s_X11_readsLines_25 (fun l4_46 l5_47 s48 h => ?_) xN _ _ _ h)
    refine g_aln dX11_readsLines_71 rfl rfl (by decide) ?_
    refine g_iln dX11_readsLines_72 rfl rfl ?_
    refine g_iln dX11_readsLines_73 rfl rfl ?_
    refine g_il dX11_readsLines_74 rfl ?_
    obtain ⟨r50, e49, h⟩ := xbp_e h
    refine g_cV3v dX11_readsLines_76 ml_X11_214 rfl (s_X11_faultOf e49) (by decide) rfl ?_
    exact g_rI rfl dX11_readsLines_79 h
  refine g_yle dX11_readsLines_15 (tgt := 22) rfl rfl (fun c6 => ?_) (fun c6 => ?_)
  · skip
    refine g_ic dX11_readsLines_22 ?_
    exact g_vq ((if_neg c6).symm.trans e8) hj9
  · skip
    refine g_ic dX11_readsLines_18 ?_
    refine g_goto dX11_readsLines_19 (tgt := 23) rfl ?_
    exact g_vq ((if_pos c6).symm.trans e8) hj9
theorem dX11_isNew_0 : decode cX11_isNew 0 = .ok (.aload_n 0, 1) := by decide +kernel
theorem dX11_isNew_1 : decode cX11_isNew 1 = .ok (.aload_n 0, 1) := by decide +kernel
theorem dX11_isNew_2 : decode cX11_isNew 2 = .ok (.getfield 181, 3) := by decide +kernel
theorem dX11_isNew_5 : decode cX11_isNew 5 = .ok (.ifCond .le 7, 3) := by decide +kernel
theorem dX11_isNew_8 : decode cX11_isNew 8 = .ok (.iconst 0, 1) := by decide +kernel
theorem dX11_isNew_9 : decode cX11_isNew 9 = .ok (.goto 7, 3) := by decide +kernel
theorem dX11_isNew_12 : decode cX11_isNew 12 = .ok (.aload_n 0, 1) := by decide +kernel
theorem dX11_isNew_13 : decode cX11_isNew 13 = .ok (.getfield 218, 3) := by decide +kernel
theorem dX11_isNew_16 : decode cX11_isNew 16 = .ok (.putfield 218, 3) := by decide +kernel
theorem dX11_isNew_19 : decode cX11_isNew 19 = .ok (.aload_n 0, 1) := by decide +kernel
theorem dX11_isNew_20 : decode cX11_isNew 20 = .ok (.dup, 1) := by decide +kernel
theorem dX11_isNew_21 : decode cX11_isNew 21 = .ok (.getfield 221, 3) := by decide +kernel
theorem dX11_isNew_24 : decode cX11_isNew 24 = .ok (.aload_n 0, 1) := by decide +kernel
theorem dX11_isNew_25 : decode cX11_isNew 25 = .ok (.getfield 181, 3) := by decide +kernel
theorem dX11_isNew_28 : decode cX11_isNew 28 = .ok (.ifCond .le 7, 3) := by decide +kernel
theorem dX11_isNew_31 : decode cX11_isNew 31 = .ok (.iconst 1, 1) := by decide +kernel
theorem dX11_isNew_32 : decode cX11_isNew 32 = .ok (.goto 4, 3) := by decide +kernel
theorem dX11_isNew_35 : decode cX11_isNew 35 = .ok (.iconst 0, 1) := by decide +kernel
theorem dX11_isNew_36 : decode cX11_isNew 36 = .ok (.invokestatic 159, 3) := by decide +kernel
theorem dX11_isNew_39 : decode cX11_isNew 39 = .ok (.iadd, 1) := by decide +kernel
theorem dX11_isNew_40 : decode cX11_isNew 40 = .ok (.putfield 221, 3) := by decide +kernel
theorem dX11_isNew_43 : decode cX11_isNew 43 = .ok (.aload_n 0, 1) := by decide +kernel
theorem dX11_isNew_44 : decode cX11_isNew 44 = .ok (.getfield 181, 3) := by decide +kernel
theorem dX11_isNew_47 : decode cX11_isNew 47 = .ok (.ireturn, 1) := by decide +kernel
theorem s_X11_isNew {s0 : xW} {q : Int × xW} (h : F_X11_isNew  s0 = some q) : xC 1 0 0 mX11_isNew [vR 121] 155 s0 (xRv (vI q.1) q.2) := by
  refine xC.of [vR 121] (by decide +kernel) (Nat.le_of_ble_eq_true rfl) rfl ?_
  unfold F_X11_isNew at h
  refine g_aln dX11_isNew_0 rfl rfl (by decide) ?_
  refine g_aln dX11_isNew_1 rfl rfl (by decide) ?_
  refine g_getI 20 dX11_isNew_2 fl_X11_181 rfl rfl ?_
  obtain ⟨v2, e3, h⟩ := xlt_e h
  have hj4 : xG 1 0 0 mX11_isNew 16 [vR 121] [vI v2, vR 121] 155 s0 (xRv (vI q.1) q.2) := by
    obtain ⟨s5, e6, h⟩ := xlt_e h
    refine h_putI 28 dX11_isNew_16 fl_X11_218 rfl rfl e6 ?_
    refine g_aln dX11_isNew_19 rfl rfl (by decide) ?_
    refine g_dup dX11_isNew_20 rfl ?_
    refine g_getI 5 dX11_isNew_21 fl_X11_221 rfl rfl ?_
    refine g_aln dX11_isNew_24 rfl rfl (by decide) ?_
    refine g_getI 20 dX11_isNew_25 fl_X11_181 rfl rfl ?_
    obtain ⟨v8, e9, h⟩ := xlt_e h
    have hj10 : xG 1 0 0 mX11_isNew 36 [vR 121] [vI v8, vI (s5 121 5), vR 121] 155 s5 (xRv (vI q.1) q.2) := by
      obtain ⟨r12, e11, h⟩ := xbp_e h
      refine g_cS1v dX11_isNew_36 ml_X11_159 (s_X11_flag e11) (by decide) rfl ?_
      refine g_iadd dX11_isNew_39 ?_
      obtain ⟨s13, e14, h⟩ := xlt_e h
      refine h_putI 5 dX11_isNew_40 fl_X11_221 rfl rfl e14 ?_
      refine g_aln dX11_isNew_43 rfl rfl (by decide) ?_
      refine g_getI 20 dX11_isNew_44 fl_X11_181 rfl rfl ?_
      exact g_rI rfl dX11_isNew_47 h
    refine g_yle dX11_isNew_28 (tgt := 35) rfl rfl (fun c7 => ?_) (fun c7 => ?_)
    · skip
      refine g_ic dX11_isNew_35 ?_
      exact g_vq ((if_neg c7).symm.trans e9) hj10
    · skip
      refine g_ic dX11_isNew_31 ?_
      refine g_goto dX11_isNew_32 (tgt := 36) rfl ?_
      exact g_vq ((if_pos c7).symm.trans e9) hj10
  refine g_yle dX11_isNew_5 (tgt := 12) rfl rfl (fun c1 => ?_) (fun c1 => ?_)
  · skip
    refine g_aln dX11_isNew_12 rfl rfl (by decide) ?_
    refine g_getI 28 dX11_isNew_13 fl_X11_218 rfl rfl ?_
    exact g_vq ((if_neg c1).symm.trans e3) hj4
  · skip
    refine g_ic dX11_isNew_8 ?_
    refine g_goto dX11_isNew_9 (tgt := 16) rfl ?_
    exact g_vq ((if_pos c1).symm.trans e3) hj4
theorem dX11_deeds_0 : decode cX11_deeds 0 = .ok (.aload_n 0, 1) := by decide +kernel
theorem dX11_deeds_1 : decode cX11_deeds 1 = .ok (.iconst 0, 1) := by decide +kernel
theorem dX11_deeds_2 : decode cX11_deeds 2 = .ok (.putfield 3, 3) := by decide +kernel
theorem dX11_deeds_5 : decode cX11_deeds 5 = .ok (.aload_n 0, 1) := by decide +kernel
theorem dX11_deeds_6 : decode cX11_deeds 6 = .ok (.iconst 0, 1) := by decide +kernel
theorem dX11_deeds_7 : decode cX11_deeds 7 = .ok (.bipush 55, 2) := by decide +kernel
theorem dX11_deeds_9 : decode cX11_deeds 9 = .ok (.invokevirtual 224, 3) := by decide +kernel
theorem dX11_deeds_12 : decode cX11_deeds 12 = .ok (.istore_n 1, 1) := by decide +kernel
theorem dX11_deeds_13 : decode cX11_deeds 13 = .ok (.iload_n 1, 1) := by decide +kernel
theorem dX11_deeds_14 : decode cX11_deeds 14 = .ok (.ifCond .ge 5, 3) := by decide +kernel
theorem dX11_deeds_17 : decode cX11_deeds 17 = .ok (.iload_n 1, 1) := by decide +kernel
theorem dX11_deeds_18 : decode cX11_deeds 18 = .ok (.ireturn, 1) := by decide +kernel
theorem dX11_deeds_19 : decode cX11_deeds 19 = .ok (.iconst 0, 1) := by decide +kernel
theorem dX11_deeds_20 : decode cX11_deeds 20 = .ok (.istore_n 2, 1) := by decide +kernel
theorem dX11_deeds_21 : decode cX11_deeds 21 = .ok (.iload_n 2, 1) := by decide +kernel
theorem dX11_deeds_22 : decode cX11_deeds 22 = .ok (.aload_n 0, 1) := by decide +kernel
theorem dX11_deeds_23 : decode cX11_deeds 23 = .ok (.getfield 181, 3) := by decide +kernel
theorem dX11_deeds_26 : decode cX11_deeds 26 = .ok (.if_icmp .ge 77, 3) := by decide +kernel
theorem dX11_deeds_29 : decode cX11_deeds 29 = .ok (.aload_n 0, 1) := by decide +kernel
theorem dX11_deeds_30 : decode cX11_deeds 30 = .ok (.getfield 41, 3) := by decide +kernel
theorem dX11_deeds_33 : decode cX11_deeds 33 = .ok (.aload_n 0, 1) := by decide +kernel
theorem dX11_deeds_34 : decode cX11_deeds 34 = .ok (.getfield 136, 3) := by decide +kernel
theorem dX11_deeds_37 : decode cX11_deeds 37 = .ok (.aload_n 0, 1) := by decide +kernel
theorem dX11_deeds_38 : decode cX11_deeds 38 = .ok (.getfield 56, 3) := by decide +kernel
theorem dX11_deeds_41 : decode cX11_deeds 41 = .ok (.iconst 3, 1) := by decide +kernel
theorem dX11_deeds_42 : decode cX11_deeds 42 = .ok (.iload_n 2, 1) := by decide +kernel
theorem dX11_deeds_43 : decode cX11_deeds 43 = .ok (.imul, 1) := by decide +kernel
theorem dX11_deeds_44 : decode cX11_deeds 44 = .ok (.iaload, 1) := by decide +kernel
theorem dX11_deeds_45 : decode cX11_deeds 45 = .ok (.iastore, 1) := by decide +kernel
theorem dX11_deeds_46 : decode cX11_deeds 46 = .ok (.aload_n 0, 1) := by decide +kernel
theorem dX11_deeds_47 : decode cX11_deeds 47 = .ok (.getfield 47, 3) := by decide +kernel
theorem dX11_deeds_50 : decode cX11_deeds 50 = .ok (.bipush 24, 2) := by decide +kernel
theorem dX11_deeds_52 : decode cX11_deeds 52 = .ok (.aload_n 0, 1) := by decide +kernel
theorem dX11_deeds_53 : decode cX11_deeds 53 = .ok (.getfield 136, 3) := by decide +kernel
theorem dX11_deeds_56 : decode cX11_deeds 56 = .ok (.iadd, 1) := by decide +kernel
theorem dX11_deeds_57 : decode cX11_deeds 57 = .ok (.aload_n 0, 1) := by decide +kernel
theorem dX11_deeds_58 : decode cX11_deeds 58 = .ok (.getfield 56, 3) := by decide +kernel
theorem dX11_deeds_61 : decode cX11_deeds 61 = .ok (.iconst 3, 1) := by decide +kernel
theorem dX11_deeds_62 : decode cX11_deeds 62 = .ok (.iload_n 2, 1) := by decide +kernel
theorem dX11_deeds_63 : decode cX11_deeds 63 = .ok (.imul, 1) := by decide +kernel
theorem dX11_deeds_64 : decode cX11_deeds 64 = .ok (.iconst 1, 1) := by decide +kernel
theorem dX11_deeds_65 : decode cX11_deeds 65 = .ok (.iadd, 1) := by decide +kernel
theorem dX11_deeds_66 : decode cX11_deeds 66 = .ok (.iaload, 1) := by decide +kernel
theorem dX11_deeds_67 : decode cX11_deeds 67 = .ok (.iastore, 1) := by decide +kernel
theorem dX11_deeds_68 : decode cX11_deeds 68 = .ok (.aload_n 0, 1) := by decide +kernel
theorem dX11_deeds_69 : decode cX11_deeds 69 = .ok (.getfield 44, 3) := by decide +kernel
theorem dX11_deeds_72 : decode cX11_deeds 72 = .ok (.aload_n 0, 1) := by decide +kernel
theorem dX11_deeds_73 : decode cX11_deeds 73 = .ok (.getfield 136, 3) := by decide +kernel
theorem dX11_deeds_76 : decode cX11_deeds 76 = .ok (.aload_n 0, 1) := by decide +kernel
theorem dX11_deeds_77 : decode cX11_deeds 77 = .ok (.getfield 56, 3) := by decide +kernel
theorem dX11_deeds_80 : decode cX11_deeds 80 = .ok (.iconst 3, 1) := by decide +kernel
theorem dX11_deeds_81 : decode cX11_deeds 81 = .ok (.iload_n 2, 1) := by decide +kernel
theorem dX11_deeds_82 : decode cX11_deeds 82 = .ok (.imul, 1) := by decide +kernel
theorem dX11_deeds_83 : decode cX11_deeds 83 = .ok (.iconst 2, 1) := by decide +kernel
theorem dX11_deeds_84 : decode cX11_deeds 84 = .ok (.iadd, 1) := by decide +kernel
theorem dX11_deeds_85 : decode cX11_deeds 85 = .ok (.iaload, 1) := by decide +kernel
theorem dX11_deeds_86 : decode cX11_deeds 86 = .ok (.iastore, 1) := by decide +kernel
theorem dX11_deeds_87 : decode cX11_deeds 87 = .ok (.aload_n 0, 1) := by decide +kernel
theorem dX11_deeds_88 : decode cX11_deeds 88 = .ok (.dup, 1) := by decide +kernel
theorem dX11_deeds_89 : decode cX11_deeds 89 = .ok (.getfield 136, 3) := by decide +kernel
theorem dX11_deeds_92 : decode cX11_deeds 92 = .ok (.iconst 1, 1) := by decide +kernel
theorem dX11_deeds_93 : decode cX11_deeds 93 = .ok (.iadd, 1) := by decide +kernel
theorem dX11_deeds_94 : decode cX11_deeds 94 = .ok (.putfield 136, 3) := by decide +kernel
theorem dX11_deeds_97 : decode cX11_deeds 97 = .ok (.iinc 2 1, 3) := by decide +kernel
theorem dX11_deeds_100 : decode cX11_deeds 100 = .ok (.goto (-79), 3) := by decide +kernel
theorem dX11_deeds_103 : decode cX11_deeds 103 = .ok (.aload_n 0, 1) := by decide +kernel
theorem dX11_deeds_104 : decode cX11_deeds 104 = .ok (.invokevirtual 228, 3) := by decide +kernel
theorem dX11_deeds_107 : decode cX11_deeds 107 = .ok (.ireturn, 1) := by decide +kernel
theorem s_X11_deeds_21 {q : Int × xW} {k : Int → xW → Option (Int × xW)} (hk : ∀ (l2_24 : Int) (s25 : xW), k l2_24 s25 = some q → xG 11 0 0 mX11_deeds 103 [vR 121, vX, vI l2_24] [] 155 s25 (xRv (vI q.1) q.2)) : ∀ (f : Nat) (l2_7 : Int) (s8 : xW), F_X11_deeds_21  f l2_7 s8 k = some q → xG 11 0 0 mX11_deeds 21 [vR 121, vX, vI l2_7] [] 155 s8 (xRv (vI q.1) q.2) := by
  intro f
  induction f with
  | zero => intro l2_7 s8 h; cases h
  | succ f ih =>
    intro l2_7 s8 h
    unfold F_X11_deeds_21 at h
    refine g_iln dX11_deeds_21 rfl rfl ?_
    refine g_aln dX11_deeds_22 rfl rfl (by decide) ?_
    refine g_getI 20 dX11_deeds_23 fl_X11_181 rfl rfl ?_
    refine g_wge dX11_deeds_26 (tgt := 103) rfl rfl rfl (fun q9 => ?_) (fun q9 => ?_)
    · replace h := xif_f q9 h
      exact hk l2_7 s8 h
    · replace h := xif_t q9 h
      refine g_aln dX11_deeds_29 rfl rfl (by decide) ?_
      refine g_getC 125 dX11_deeds_30 fl_X11_41 rfl (by decide) ?_
      refine g_aln dX11_deeds_33 rfl rfl (by decide) ?_
      refine g_getI 4 dX11_deeds_34 fl_X11_136 rfl rfl ?_
      refine g_aln dX11_deeds_37 rfl rfl (by decide) ?_
      refine g_getC 130 dX11_deeds_38 fl_X11_56 rfl (by decide) ?_
      refine g_ic dX11_deeds_41 ?_
      refine g_iln dX11_deeds_42 rfl rfl ?_
      refine g_imul dX11_deeds_43 ?_
      obtain ⟨hg10, h⟩ := xgd_e h
      refine g_iald 24 dX11_deeds_44 rfl hg10 (by decide) ?_
      obtain ⟨hg11, h⟩ := xgd_e h
      obtain ⟨s12, e13, h⟩ := xlt_e h
      refine h_iast 8 dX11_deeds_45 rfl hg11 (by decide) e13 ?_
      refine g_aln dX11_deeds_46 rfl rfl (by decide) ?_
      refine g_getC 127 dX11_deeds_47 fl_X11_47 rfl (by decide) ?_
      refine g_bi dX11_deeds_50 (by decide) ?_
      refine g_aln dX11_deeds_52 rfl rfl (by decide) ?_
      refine g_getI 4 dX11_deeds_53 fl_X11_136 rfl rfl ?_
      refine g_iadd dX11_deeds_56 ?_
      refine g_aln dX11_deeds_57 rfl rfl (by decide) ?_
      refine g_getC 130 dX11_deeds_58 fl_X11_56 rfl (by decide) ?_
      refine g_ic dX11_deeds_61 ?_
      refine g_iln dX11_deeds_62 rfl rfl ?_
      refine g_imul dX11_deeds_63 ?_
      refine g_ic dX11_deeds_64 ?_
      refine g_iadd dX11_deeds_65 ?_
      obtain ⟨hg14, h⟩ := xgd_e h
      refine g_iald 24 dX11_deeds_66 rfl hg14 (by decide) ?_
      obtain ⟨hg15, h⟩ := xgd_e h
      obtain ⟨s16, e17, h⟩ := xlt_e h
      refine h_iast 40 dX11_deeds_67 rfl hg15 (by decide) e17 ?_
      refine g_aln dX11_deeds_68 rfl rfl (by decide) ?_
      refine g_getC 126 dX11_deeds_69 fl_X11_44 rfl (by decide) ?_
      refine g_aln dX11_deeds_72 rfl rfl (by decide) ?_
      refine g_getI 4 dX11_deeds_73 fl_X11_136 rfl rfl ?_
      refine g_aln dX11_deeds_76 rfl rfl (by decide) ?_
      refine g_getC 130 dX11_deeds_77 fl_X11_56 rfl (by decide) ?_
      refine g_ic dX11_deeds_80 ?_
      refine g_iln dX11_deeds_81 rfl rfl ?_
      refine g_imul dX11_deeds_82 ?_
      refine g_ic dX11_deeds_83 ?_
      refine g_iadd dX11_deeds_84 ?_
      obtain ⟨hg18, h⟩ := xgd_e h
      refine g_iald 24 dX11_deeds_85 rfl hg18 (by decide) ?_
      obtain ⟨hg19, h⟩ := xgd_e h
      obtain ⟨s20, e21, h⟩ := xlt_e h
      refine h_iast 8 dX11_deeds_86 rfl hg19 (by decide) e21 ?_
      refine g_aln dX11_deeds_87 rfl rfl (by decide) ?_
      refine g_dup dX11_deeds_88 rfl ?_
      refine g_getI 4 dX11_deeds_89 fl_X11_136 rfl rfl ?_
      refine g_ic dX11_deeds_92 ?_
      refine g_iadd dX11_deeds_93 ?_
      obtain ⟨s22, e23, h⟩ := xlt_e h
      refine h_putI 4 dX11_deeds_94 fl_X11_136 rfl rfl e23 ?_
      refine g_inc_2 dX11_deeds_97 (by decide) rfl ?_
      refine g_goto dX11_deeds_100 (tgt := 21) rfl ?_
      exact ih (l2_7 + 1) s22 h
theorem s_X11_deeds {s0 : xW} {q : Int × xW} (h : F_X11_deeds  s0 = some q) : xC 11 90 360 mX11_deeds [vR 121] 155 s0 (xRv (vI q.1) q.2) := by
  refine xC.of [vR 121, vX, vX] (by decide +kernel) (Nat.le_of_ble_eq_true rfl) rfl ?_
  unfold F_X11_deeds at h
  refine g_aln dX11_deeds_0 rfl rfl (by decide) ?_
  refine g_ic dX11_deeds_1 ?_
  obtain ⟨s1, e2, h⟩ := xlt_e h
  refine h_putI 0 dX11_deeds_2 fl_X11_3 rfl rfl e2 ?_
  refine g_aln dX11_deeds_5 rfl rfl (by decide) ?_
  refine g_ic dX11_deeds_6 ?_
  refine g_bi dX11_deeds_7 (by decide) ?_
  obtain ⟨r4, s5, e3, h⟩ := xbd_e h
  refine g_cB (bc := 0) (bs := 0) (as := [vI _, vI _]) dX11_deeds_9 ml_X11_224 rfl (s_X11_readsLines e3) rfl (by decide) rfl ?_
  refine g_istn_1 dX11_deeds_12 (by decide) rfl ?_
  refine g_iln dX11_deeds_13 rfl rfl ?_
  refine g_yge dX11_deeds_14 (tgt := 19) rfl rfl (fun q6 => ?_) (fun q6 => ?_)
  · replace h := xif_f q6 h
    refine g_ic dX11_deeds_19 ?_
    refine g_istn_2 dX11_deeds_20 (by decide) rfl ?_
    refine g_drop_1 ?_
    refine s_X11_deeds_21 (fun l2_26 s27 h => ?_) xN _ _ h
    refine g_aln dX11_deeds_103 rfl rfl (by decide) ?_
    obtain ⟨r29, s30, e28, h⟩ := xbd_e h
    refine g_cV0v dX11_deeds_104 ml_X11_228 rfl (s_X11_isNew e28) (by decide) rfl ?_
    exact g_rI rfl dX11_deeds_107 h
  · replace h := xif_t q6 h
    refine g_iln dX11_deeds_17 rfl rfl ?_
    exact g_rI rfl dX11_deeds_18 h
theorem dX11_isPlace_0 : decode cX11_isPlace 0 = .ok (.iload_n 0, 1) := by decide +kernel
theorem dX11_isPlace_1 : decode cX11_isPlace 1 = .ok (.i2l, 1) := by decide +kernel
theorem dX11_isPlace_2 : decode cX11_isPlace 2 = .ok (.lconst 0, 1) := by decide +kernel
theorem dX11_isPlace_3 : decode cX11_isPlace 3 = .ok (.ldc2_w 139, 3) := by decide +kernel
theorem dX11_isPlace_6 : decode cX11_isPlace 6 = .ok (.invokestatic 132, 3) := by decide +kernel
theorem dX11_isPlace_9 : decode cX11_isPlace 9 = .ok (.ifCond .eq 19, 3) := by decide +kernel
theorem dX11_isPlace_12 : decode cX11_isPlace 12 = .ok (.iload_n 1, 1) := by decide +kernel
theorem dX11_isPlace_13 : decode cX11_isPlace 13 = .ok (.i2l, 1) := by decide +kernel
theorem dX11_isPlace_14 : decode cX11_isPlace 14 = .ok (.lconst 0, 1) := by decide +kernel
theorem dX11_isPlace_15 : decode cX11_isPlace 15 = .ok (.ldc2_w 139, 3) := by decide +kernel
theorem dX11_isPlace_18 : decode cX11_isPlace 18 = .ok (.invokestatic 132, 3) := by decide +kernel
theorem dX11_isPlace_21 : decode cX11_isPlace 21 = .ok (.ifCond .eq 7, 3) := by decide +kernel
theorem dX11_isPlace_24 : decode cX11_isPlace 24 = .ok (.iconst 1, 1) := by decide +kernel
theorem dX11_isPlace_25 : decode cX11_isPlace 25 = .ok (.goto 4, 3) := by decide +kernel
theorem dX11_isPlace_28 : decode cX11_isPlace 28 = .ok (.iconst 0, 1) := by decide +kernel
theorem dX11_isPlace_29 : decode cX11_isPlace 29 = .ok (.ireturn, 1) := by decide +kernel
theorem s_X11_isPlace {a0 a1 : Int} {s0 : xW} {q : Int} (h : F_X11_isPlace a0 a1 s0 = some q) : xC 1 0 0 mX11_isPlace [vI a0, vI a1] 155 s0 (xRv (vI q) s0) := by
  refine xC.of [vI a0, vI a1] (by decide +kernel) (Nat.le_of_ble_eq_true rfl) rfl ?_
  unfold F_X11_isPlace at h
  refine g_iln dX11_isPlace_0 rfl rfl ?_
  refine g_wi2l dX11_isPlace_1 rfl ?_
  refine g_lc dX11_isPlace_2 (w := 0) rfl ?_
  refine g_ldc2 dX11_isPlace_3 ct_X11_139 (w := 9) rfl ?_
  obtain ⟨r2, e1, h⟩ := xbp_e h
  refine g_cS3v dX11_isPlace_6 ml_X11_132 (s_X11_in e1) (by decide) rfl ?_
  obtain ⟨j4, ej5, h⟩ := xjn_e h
  have hj6 : ∀ (t3 : Int), j4 t3 = some q → xG 1 0 0 mX11_isPlace 29 [vX, vX] [vI t3] 155 s0 (xRv (vI q) s0) := by
    intro t3 h
    rw [ej5] at h
    obtain ⟨hg7, h⟩ := xgd_e h
    exact g_pZ rfl dX11_isPlace_29 hg7 h
  clear ej5
  obtain ⟨j8, ej9, h⟩ := xjn_e h
  have hj10 : j8  = some q → xG 1 0 0 mX11_isPlace 28 [vX, vX] [] 155 s0 (xRv (vI q) s0) := by
    intro  h
    rw [ej9] at h
    refine g_ic dX11_isPlace_28 ?_
    exact hj6 0 h
  clear ej9
  refine g_yeq dX11_isPlace_9 (tgt := 28) rfl rfl (fun q11 => ?_) (fun q11 => ?_)
  · replace h := xif_f q11 h
    refine g_drop_0 ?_
    refine g_drop_1 ?_
    exact hj10  h
  · replace h := xif_t q11 h
    refine g_iln dX11_isPlace_12 rfl rfl ?_
    refine g_wi2l dX11_isPlace_13 rfl ?_
    refine g_lc dX11_isPlace_14 (w := 0) rfl ?_
    refine g_ldc2 dX11_isPlace_15 ct_X11_139 (w := 9) rfl ?_
    obtain ⟨r13, e12, h⟩ := xbp_e h
    refine g_cS3v dX11_isPlace_18 ml_X11_132 (s_X11_in e12) (by decide) rfl ?_
    refine g_yeq dX11_isPlace_21 (tgt := 28) rfl rfl (fun q14 => ?_) (fun q14 => ?_)
    · replace h := xif_f q14 h
      refine g_drop_0 ?_
      refine g_drop_1 ?_
      exact hj10  h
    · replace h := xif_t q14 h
      refine g_ic dX11_isPlace_24 ?_
      refine g_goto dX11_isPlace_25 (tgt := 29) rfl ?_
      refine g_drop_0 ?_
      refine g_drop_1 ?_
      exact hj6 1 h
theorem dX11_puts_0 : decode cX11_puts 0 = .ok (.aload_n 0, 1) := by decide +kernel
theorem dX11_puts_1 : decode cX11_puts 1 = .ok (.iload_n 1, 1) := by decide +kernel
theorem dX11_puts_2 : decode cX11_puts 2 = .ok (.iaload, 1) := by decide +kernel
theorem dX11_puts_3 : decode cX11_puts 3 = .ok (.aload_n 0, 1) := by decide +kernel
theorem dX11_puts_4 : decode cX11_puts 4 = .ok (.iload_n 2, 1) := by decide +kernel
theorem dX11_puts_5 : decode cX11_puts 5 = .ok (.iaload, 1) := by decide +kernel
theorem dX11_puts_6 : decode cX11_puts 6 = .ok (.iload_n 3, 1) := by decide +kernel
theorem dX11_puts_7 : decode cX11_puts 7 = .ok (.iload 4, 2) := by decide +kernel
theorem dX11_puts_9 : decode cX11_puts 9 = .ok (.invokestatic 272, 3) := by decide +kernel
theorem dX11_puts_12 : decode cX11_puts 12 = .ok (.istore 5, 2) := by decide +kernel
theorem dX11_puts_14 : decode cX11_puts 14 = .ok (.aload_n 0, 1) := by decide +kernel
theorem dX11_puts_15 : decode cX11_puts 15 = .ok (.iload_n 1, 1) := by decide +kernel
theorem dX11_puts_16 : decode cX11_puts 16 = .ok (.iload_n 3, 1) := by decide +kernel
theorem dX11_puts_17 : decode cX11_puts 17 = .ok (.iastore, 1) := by decide +kernel
theorem dX11_puts_18 : decode cX11_puts 18 = .ok (.aload_n 0, 1) := by decide +kernel
theorem dX11_puts_19 : decode cX11_puts 19 = .ok (.iload_n 2, 1) := by decide +kernel
theorem dX11_puts_20 : decode cX11_puts 20 = .ok (.iload 4, 2) := by decide +kernel
theorem dX11_puts_22 : decode cX11_puts 22 = .ok (.iastore, 1) := by decide +kernel
theorem dX11_puts_23 : decode cX11_puts 23 = .ok (.iload 5, 2) := by decide +kernel
theorem dX11_puts_25 : decode cX11_puts 25 = .ok (.ireturn, 1) := by decide +kernel
theorem s_X11_puts {a0 a1 a2 a3 a4 : Int} {s0 : xW} {q : Int × xW} (h : F_X11_puts a0 a1 a2 a3 a4 s0 = some q) : xC 2 0 0 mX11_puts [vR a0, vI a1, vI a2, vI a3, vI a4] 155 s0 (xRv (vI q.1) q.2) := by
  refine xC.of [vR a0, vI a1, vI a2, vI a3, vI a4, vX] (by decide +kernel) (Nat.le_of_ble_eq_true rfl) rfl ?_
  unfold F_X11_puts at h
  obtain ⟨hm0, h⟩ := xgd_e h
  refine g_aln dX11_puts_0 rfl rfl (xf_now_39 _ hm0) ?_
  refine g_iln dX11_puts_1 rfl rfl ?_
  obtain ⟨hg1, h⟩ := xgd_e h
  refine g_iald 40 dX11_puts_2 (xf_now_40 _ hm0) hg1 (by decide) ?_
  refine g_aln dX11_puts_3 rfl rfl (xf_now_39 _ hm0) ?_
  refine g_iln dX11_puts_4 rfl rfl ?_
  obtain ⟨hg2, h⟩ := xgd_e h
  refine g_iald 40 dX11_puts_5 (xf_now_40 _ hm0) hg2 (by decide) ?_
  refine g_iln dX11_puts_6 rfl rfl ?_
  refine g_il dX11_puts_7 rfl ?_
  obtain ⟨r4, e3, h⟩ := xbp_e h
  refine g_cS4v dX11_puts_9 ml_X11_272 (s_X11_far e3) (by decide) rfl ?_
  refine g_ist_5 dX11_puts_12 (by decide) rfl ?_
  refine g_aln dX11_puts_14 rfl rfl (xf_now_39 _ hm0) ?_
  refine g_iln dX11_puts_15 rfl rfl ?_
  refine g_iln dX11_puts_16 rfl rfl ?_
  obtain ⟨hg5, h⟩ := xgd_e h
  obtain ⟨s6, e7, h⟩ := xlt_e h
  refine h_iast 40 dX11_puts_17 (xf_now_40 _ hm0) hg5 (by decide) e7 ?_
  refine g_aln dX11_puts_18 rfl rfl (xf_now_39 _ hm0) ?_
  refine g_iln dX11_puts_19 rfl rfl ?_
  refine g_il dX11_puts_20 rfl ?_
  obtain ⟨hg8, h⟩ := xgd_e h
  obtain ⟨s9, e10, h⟩ := xlt_e h
  refine h_iast 40 dX11_puts_22 (xf_now_40 _ hm0) hg8 (by decide) e10 ?_
  refine g_il dX11_puts_23 rfl ?_
  exact g_rI rfl dX11_puts_25 h
theorem dX11_haulsTo_0 : decode cX11_haulsTo 0 = .ok (.iload_n 1, 1) := by decide +kernel
theorem dX11_haulsTo_1 : decode cX11_haulsTo 1 = .ok (.iload_n 2, 1) := by decide +kernel
theorem dX11_haulsTo_2 : decode cX11_haulsTo 2 = .ok (.invokestatic 351, 3) := by decide +kernel
theorem dX11_haulsTo_5 : decode cX11_haulsTo 5 = .ok (.ifCond .eq 16, 3) := by decide +kernel
theorem dX11_haulsTo_8 : decode cX11_haulsTo 8 = .ok (.aload_n 0, 1) := by decide +kernel
theorem dX11_haulsTo_9 : decode cX11_haulsTo 9 = .ok (.bipush 32, 2) := by decide +kernel
theorem dX11_haulsTo_11 : decode cX11_haulsTo 11 = .ok (.bipush 33, 2) := by decide +kernel
theorem dX11_haulsTo_13 : decode cX11_haulsTo 13 = .ok (.iload_n 1, 1) := by decide +kernel
theorem dX11_haulsTo_14 : decode cX11_haulsTo 14 = .ok (.iload_n 2, 1) := by decide +kernel
theorem dX11_haulsTo_15 : decode cX11_haulsTo 15 = .ok (.invokestatic 355, 3) := by decide +kernel
theorem dX11_haulsTo_18 : decode cX11_haulsTo 18 = .ok (.goto 4, 3) := by decide +kernel
theorem dX11_haulsTo_21 : decode cX11_haulsTo 21 = .ok (.iconst (-1), 1) := by decide +kernel
theorem dX11_haulsTo_22 : decode cX11_haulsTo 22 = .ok (.istore_n 3, 1) := by decide +kernel
theorem dX11_haulsTo_23 : decode cX11_haulsTo 23 = .ok (.iload_n 3, 1) := by decide +kernel
theorem dX11_haulsTo_24 : decode cX11_haulsTo 24 = .ok (.ifCond .ne 8, 3) := by decide +kernel
theorem dX11_haulsTo_27 : decode cX11_haulsTo 27 = .ok (.bipush (-2), 2) := by decide +kernel
theorem dX11_haulsTo_29 : decode cX11_haulsTo 29 = .ok (.goto 4, 3) := by decide +kernel
theorem dX11_haulsTo_32 : decode cX11_haulsTo 32 = .ok (.iload_n 3, 1) := by decide +kernel
theorem dX11_haulsTo_33 : decode cX11_haulsTo 33 = .ok (.ireturn, 1) := by decide +kernel
theorem s_X11_haulsTo {a0 a1 a2 : Int} {s0 : xW} {q : Int × xW} (h : F_X11_haulsTo a0 a1 a2 s0 = some q) : xC 3 0 0 mX11_haulsTo [vR a0, vI a1, vI a2] 155 s0 (xRv (vI q.1) q.2) := by
  refine xC.of [vR a0, vI a1, vI a2, vX] (by decide +kernel) (Nat.le_of_ble_eq_true rfl) rfl ?_
  unfold F_X11_haulsTo at h
  obtain ⟨hm0, h⟩ := xgd_e h
  refine g_iln dX11_haulsTo_0 rfl rfl ?_
  refine g_iln dX11_haulsTo_1 rfl rfl ?_
  obtain ⟨r2, e1, h⟩ := xbp_e h
  refine g_cS2v dX11_haulsTo_2 ml_X11_351 (s_X11_isPlace e1) (by decide) rfl ?_
  obtain ⟨j5, ej6, h⟩ := xjn_e h
  have hj7 : ∀ (t3 : Int) (s4 : xW), j5 t3 s4 = some q → xG 3 0 0 mX11_haulsTo 22 [vX, vX, vX, vX] [vI t3] 155 s4 (xRv (vI q.1) q.2) := by
    intro t3 s4 h
    rw [ej6] at h
    refine g_istn_3 dX11_haulsTo_22 (by decide) rfl ?_
    refine g_iln dX11_haulsTo_23 rfl rfl ?_
    obtain ⟨v9, e10, h⟩ := xlt_e h
    have hj11 : xG 3 0 0 mX11_haulsTo 33 [vX, vX, vX, vX] [vI v9] 155 s4 (xRv (vI q.1) q.2) := by
      exact g_rI rfl dX11_haulsTo_33 h
    refine g_yne dX11_haulsTo_24 (tgt := 32) rfl rfl (fun c8 => ?_) (fun c8 => ?_)
    · skip
      refine g_iln dX11_haulsTo_32 rfl rfl ?_
      refine g_drop_3 ?_
      exact g_vq ((if_neg c8).symm.trans e10) hj11
    · skip
      refine g_bi dX11_haulsTo_27 (by decide) ?_
      refine g_goto dX11_haulsTo_29 (tgt := 33) rfl ?_
      refine g_drop_3 ?_
      exact g_vq ((if_pos c8).symm.trans e10) hj11
  clear ej6
  refine g_yeq dX11_haulsTo_5 (tgt := 21) rfl rfl (fun q12 => ?_) (fun q12 => ?_)
  · replace h := xif_f q12 h
    refine g_ic dX11_haulsTo_21 ?_
    refine g_drop_0 ?_
    refine g_drop_1 ?_
    refine g_drop_2 ?_
    exact hj7 (-1) s0 h
  · replace h := xif_t q12 h
    refine g_aln dX11_haulsTo_8 rfl rfl (xf_now_39 _ hm0) ?_
    refine g_bi dX11_haulsTo_9 (by decide) ?_
    refine g_bi dX11_haulsTo_11 (by decide) ?_
    refine g_iln dX11_haulsTo_13 rfl rfl ?_
    refine g_iln dX11_haulsTo_14 rfl rfl ?_
    obtain ⟨r14, s15, e13, h⟩ := xbd_e h
    refine g_cS5v dX11_haulsTo_15 ml_X11_355 (s_X11_puts e13) (by decide) rfl ?_
    refine g_goto dX11_haulsTo_18 (tgt := 22) rfl ?_
    refine g_drop_0 ?_
    refine g_drop_1 ?_
    refine g_drop_2 ?_
    exact hj7 r14 s15 h
theorem dX11_takesSome_0 : decode cX11_takesSome 0 = .ok (.aload_n 0, 1) := by decide +kernel
theorem dX11_takesSome_1 : decode cX11_takesSome 1 = .ok (.iload_n 1, 1) := by decide +kernel
theorem dX11_takesSome_2 : decode cX11_takesSome 2 = .ok (.invokevirtual 326, 3) := by decide +kernel
theorem dX11_takesSome_5 : decode cX11_takesSome 5 = .ok (.ifCond .eq 15, 3) := by decide +kernel
theorem dX11_takesSome_8 : decode cX11_takesSome 8 = .ok (.iload_n 2, 1) := by decide +kernel
theorem dX11_takesSome_9 : decode cX11_takesSome 9 = .ok (.i2l, 1) := by decide +kernel
theorem dX11_takesSome_10 : decode cX11_takesSome 10 = .ok (.lconst 1, 1) := by decide +kernel
theorem dX11_takesSome_11 : decode cX11_takesSome 11 = .ok (.ldc2_w 139, 3) := by decide +kernel
theorem dX11_takesSome_14 : decode cX11_takesSome 14 = .ok (.invokestatic 132, 3) := by decide +kernel
theorem dX11_takesSome_17 : decode cX11_takesSome 17 = .ok (.ifCond .ne 5, 3) := by decide +kernel
theorem dX11_takesSome_20 : decode cX11_takesSome 20 = .ok (.iconst (-1), 1) := by decide +kernel
theorem dX11_takesSome_21 : decode cX11_takesSome 21 = .ok (.ireturn, 1) := by decide +kernel
theorem dX11_takesSome_22 : decode cX11_takesSome 22 = .ok (.aload_n 0, 1) := by decide +kernel
theorem dX11_takesSome_23 : decode cX11_takesSome 23 = .ok (.getfield 47, 3) := by decide +kernel
theorem dX11_takesSome_26 : decode cX11_takesSome 26 = .ok (.bipush 24, 2) := by decide +kernel
theorem dX11_takesSome_28 : decode cX11_takesSome 28 = .ok (.iload_n 1, 1) := by decide +kernel
theorem dX11_takesSome_29 : decode cX11_takesSome 29 = .ok (.iadd, 1) := by decide +kernel
theorem dX11_takesSome_30 : decode cX11_takesSome 30 = .ok (.iaload, 1) := by decide +kernel
theorem dX11_takesSome_31 : decode cX11_takesSome 31 = .ok (.istore_n 3, 1) := by decide +kernel
theorem dX11_takesSome_32 : decode cX11_takesSome 32 = .ok (.aload_n 0, 1) := by decide +kernel
theorem dX11_takesSome_33 : decode cX11_takesSome 33 = .ok (.getfield 47, 3) := by decide +kernel
theorem dX11_takesSome_36 : decode cX11_takesSome 36 = .ok (.bipush 24, 2) := by decide +kernel
theorem dX11_takesSome_38 : decode cX11_takesSome 38 = .ok (.iload_n 1, 1) := by decide +kernel
theorem dX11_takesSome_39 : decode cX11_takesSome 39 = .ok (.iadd, 1) := by decide +kernel
theorem dX11_takesSome_40 : decode cX11_takesSome 40 = .ok (.iload_n 2, 1) := by decide +kernel
theorem dX11_takesSome_41 : decode cX11_takesSome 41 = .ok (.iastore, 1) := by decide +kernel
theorem dX11_takesSome_42 : decode cX11_takesSome 42 = .ok (.iload_n 3, 1) := by decide +kernel
theorem dX11_takesSome_43 : decode cX11_takesSome 43 = .ok (.iload_n 2, 1) := by decide +kernel
theorem dX11_takesSome_44 : decode cX11_takesSome 44 = .ok (.if_icmp .ne 8, 3) := by decide +kernel
theorem dX11_takesSome_47 : decode cX11_takesSome 47 = .ok (.bipush (-2), 2) := by decide +kernel
theorem dX11_takesSome_49 : decode cX11_takesSome 49 = .ok (.goto 4, 3) := by decide +kernel
theorem dX11_takesSome_52 : decode cX11_takesSome 52 = .ok (.iload_n 3, 1) := by decide +kernel
theorem dX11_takesSome_53 : decode cX11_takesSome 53 = .ok (.ireturn, 1) := by decide +kernel
theorem s_X11_takesSome {a1 a2 : Int} {s0 : xW} {q : Int × xW} (h : F_X11_takesSome a1 a2 s0 = some q) : xC 2 0 0 mX11_takesSome [vR 121, vI a1, vI a2] 155 s0 (xRv (vI q.1) q.2) := by
  refine xC.of [vR 121, vI a1, vI a2, vX] (by decide +kernel) (Nat.le_of_ble_eq_true rfl) rfl ?_
  unfold F_X11_takesSome at h
  refine g_aln dX11_takesSome_0 rfl rfl (by decide) ?_
  refine g_iln dX11_takesSome_1 rfl rfl ?_
  obtain ⟨r2, e1, h⟩ := xbp_e h
  refine g_cV1v dX11_takesSome_2 ml_X11_326 rfl (s_X11_isDeed e1) (by decide) rfl ?_
  obtain ⟨j3, ej4, h⟩ := xjn_e h
  have hj5 : j3  = some q → xG 2 0 0 mX11_takesSome 20 [vX, vX, vX, vX] [] 155 s0 (xRv (vI q.1) q.2) := by
    intro  h
    rw [ej4] at h
    refine g_ic dX11_takesSome_20 ?_
    exact g_rI rfl dX11_takesSome_21 h
  clear ej4
  refine g_yeq dX11_takesSome_5 (tgt := 20) rfl rfl (fun q6 => ?_) (fun q6 => ?_)
  · replace h := xif_f q6 h
    refine g_drop_0 ?_
    refine g_drop_1 ?_
    refine g_drop_2 ?_
    exact hj5  h
  · replace h := xif_t q6 h
    refine g_iln dX11_takesSome_8 rfl rfl ?_
    refine g_wi2l dX11_takesSome_9 rfl ?_
    refine g_lc dX11_takesSome_10 (w := 1) rfl ?_
    refine g_ldc2 dX11_takesSome_11 ct_X11_139 (w := 9) rfl ?_
    obtain ⟨r8, e7, h⟩ := xbp_e h
    refine g_cS3v dX11_takesSome_14 ml_X11_132 (s_X11_in e7) (by decide) rfl ?_
    refine g_yne dX11_takesSome_17 (tgt := 22) rfl rfl (fun q9 => ?_) (fun q9 => ?_)
    · replace h := xif_f q9 h
      refine g_aln dX11_takesSome_22 rfl rfl (by decide) ?_
      refine g_getC 127 dX11_takesSome_23 fl_X11_47 rfl (by decide) ?_
      refine g_bi dX11_takesSome_26 (by decide) ?_
      refine g_iln dX11_takesSome_28 rfl rfl ?_
      refine g_iadd dX11_takesSome_29 ?_
      obtain ⟨hg10, h⟩ := xgd_e h
      refine g_iald 40 dX11_takesSome_30 rfl hg10 (by decide) ?_
      refine g_istn_3 dX11_takesSome_31 (by decide) rfl ?_
      refine g_aln dX11_takesSome_32 rfl rfl (by decide) ?_
      refine g_getC 127 dX11_takesSome_33 fl_X11_47 rfl (by decide) ?_
      refine g_bi dX11_takesSome_36 (by decide) ?_
      refine g_iln dX11_takesSome_38 rfl rfl ?_
      refine g_iadd dX11_takesSome_39 ?_
      refine g_iln dX11_takesSome_40 rfl rfl ?_
      obtain ⟨hg11, h⟩ := xgd_e h
      obtain ⟨s12, e13, h⟩ := xlt_e h
      refine h_iast 40 dX11_takesSome_41 rfl hg11 (by decide) e13 ?_
      refine g_iln dX11_takesSome_42 rfl rfl ?_
      refine g_iln dX11_takesSome_43 rfl rfl ?_
      obtain ⟨v15, e16, h⟩ := xlt_e h
      have hj17 : xG 2 0 0 mX11_takesSome 53 [vX, vX, vX, vX] [vI v15] 155 s12 (xRv (vI q.1) q.2) := by
        exact g_rI rfl dX11_takesSome_53 h
      refine g_wne dX11_takesSome_44 (tgt := 52) rfl rfl rfl (fun c14 => ?_) (fun c14 => ?_)
      · skip
        refine g_iln dX11_takesSome_52 rfl rfl ?_
        refine g_drop_0 ?_
        refine g_drop_1 ?_
        refine g_drop_2 ?_
        refine g_drop_3 ?_
        exact g_vq ((if_neg c14).symm.trans e16) hj17
      · skip
        refine g_bi dX11_takesSome_47 (by decide) ?_
        refine g_goto dX11_takesSome_49 (tgt := 53) rfl ?_
        refine g_drop_0 ?_
        refine g_drop_1 ?_
        refine g_drop_2 ?_
        refine g_drop_3 ?_
        exact g_vq ((if_pos c14).symm.trans e16) hj17
    · replace h := xif_t q9 h
      refine g_drop_0 ?_
      refine g_drop_1 ?_
      refine g_drop_2 ?_
      exact hj5  h
theorem dX11_isHouse_0 : decode cX11_isHouse 0 = .ok (.iload_n 1, 1) := by decide +kernel
theorem dX11_isHouse_1 : decode cX11_isHouse 1 = .ok (.i2l, 1) := by decide +kernel
theorem dX11_isHouse_2 : decode cX11_isHouse 2 = .ok (.lconst 0, 1) := by decide +kernel
theorem dX11_isHouse_3 : decode cX11_isHouse 3 = .ok (.aload_n 0, 1) := by decide +kernel
theorem dX11_isHouse_4 : decode cX11_isHouse 4 = .ok (.getfield 129, 3) := by decide +kernel
theorem dX11_isHouse_7 : decode cX11_isHouse 7 = .ok (.iconst 1, 1) := by decide +kernel
theorem dX11_isHouse_8 : decode cX11_isHouse 8 = .ok (.isub, 1) := by decide +kernel
theorem dX11_isHouse_9 : decode cX11_isHouse 9 = .ok (.i2l, 1) := by decide +kernel
theorem dX11_isHouse_10 : decode cX11_isHouse 10 = .ok (.invokestatic 132, 3) := by decide +kernel
theorem dX11_isHouse_13 : decode cX11_isHouse 13 = .ok (.ireturn, 1) := by decide +kernel
theorem s_X11_isHouse {a1 : Int} {s0 : xW} {q : Int} (h : F_X11_isHouse a1 s0 = some q) : xC 1 0 0 mX11_isHouse [vR 121, vI a1] 155 s0 (xRv (vI q) s0) := by
  refine xC.of [vR 121, vI a1] (by decide +kernel) (Nat.le_of_ble_eq_true rfl) rfl ?_
  unfold F_X11_isHouse at h
  refine g_iln dX11_isHouse_0 rfl rfl ?_
  refine g_wi2l dX11_isHouse_1 rfl ?_
  refine g_lc dX11_isHouse_2 (w := 0) rfl ?_
  refine g_aln dX11_isHouse_3 rfl rfl (by decide) ?_
  refine g_getI 3 dX11_isHouse_4 fl_X11_129 rfl rfl ?_
  refine g_ic dX11_isHouse_7 ?_
  refine g_isub dX11_isHouse_8 ?_
  refine g_wi2l dX11_isHouse_9 rfl ?_
  obtain ⟨r2, e1, h⟩ := xbp_e h
  refine g_cS3v dX11_isHouse_10 ml_X11_132 (s_X11_in e1) (by decide) rfl ?_
  obtain ⟨hg3, h⟩ := xgd_e h
  exact g_pZ rfl dX11_isHouse_13 hg3 h
theorem dX11_movesTo_0 : decode cX11_movesTo 0 = .ok (.aload_n 0, 1) := by decide +kernel
theorem dX11_movesTo_1 : decode cX11_movesTo 1 = .ok (.iload_n 2, 1) := by decide +kernel
theorem dX11_movesTo_2 : decode cX11_movesTo 2 = .ok (.invokevirtual 315, 3) := by decide +kernel
theorem dX11_movesTo_5 : decode cX11_movesTo 5 = .ok (.ifCond .eq 27, 3) := by decide +kernel
theorem dX11_movesTo_8 : decode cX11_movesTo 8 = .ok (.iload_n 3, 1) := by decide +kernel
theorem dX11_movesTo_9 : decode cX11_movesTo 9 = .ok (.iload 4, 2) := by decide +kernel
theorem dX11_movesTo_11 : decode cX11_movesTo 11 = .ok (.invokestatic 351, 3) := by decide +kernel
theorem dX11_movesTo_14 : decode cX11_movesTo 14 = .ok (.ifCond .eq 18, 3) := by decide +kernel
theorem dX11_movesTo_17 : decode cX11_movesTo 17 = .ok (.aload_n 1, 1) := by decide +kernel
theorem dX11_movesTo_18 : decode cX11_movesTo 18 = .ok (.iload_n 2, 1) := by decide +kernel
theorem dX11_movesTo_19 : decode cX11_movesTo 19 = .ok (.bipush 8, 2) := by decide +kernel
theorem dX11_movesTo_21 : decode cX11_movesTo 21 = .ok (.iload_n 2, 1) := by decide +kernel
theorem dX11_movesTo_22 : decode cX11_movesTo 22 = .ok (.iadd, 1) := by decide +kernel
theorem dX11_movesTo_23 : decode cX11_movesTo 23 = .ok (.iload_n 3, 1) := by decide +kernel
theorem dX11_movesTo_24 : decode cX11_movesTo 24 = .ok (.iload 4, 2) := by decide +kernel
theorem dX11_movesTo_26 : decode cX11_movesTo 26 = .ok (.invokestatic 355, 3) := by decide +kernel
theorem dX11_movesTo_29 : decode cX11_movesTo 29 = .ok (.goto 4, 3) := by decide +kernel
theorem dX11_movesTo_32 : decode cX11_movesTo 32 = .ok (.iconst (-1), 1) := by decide +kernel
theorem dX11_movesTo_33 : decode cX11_movesTo 33 = .ok (.istore 5, 2) := by decide +kernel
theorem dX11_movesTo_35 : decode cX11_movesTo 35 = .ok (.iload 5, 2) := by decide +kernel
theorem dX11_movesTo_37 : decode cX11_movesTo 37 = .ok (.ifCond .ne 8, 3) := by decide +kernel
theorem dX11_movesTo_40 : decode cX11_movesTo 40 = .ok (.bipush (-2), 2) := by decide +kernel
theorem dX11_movesTo_42 : decode cX11_movesTo 42 = .ok (.goto 5, 3) := by decide +kernel
theorem dX11_movesTo_45 : decode cX11_movesTo 45 = .ok (.iload 5, 2) := by decide +kernel
theorem dX11_movesTo_47 : decode cX11_movesTo 47 = .ok (.ireturn, 1) := by decide +kernel
theorem s_X11_movesTo {a1 a2 a3 a4 : Int} {s0 : xW} {q : Int × xW} (h : F_X11_movesTo a1 a2 a3 a4 s0 = some q) : xC 3 0 0 mX11_movesTo [vR 121, vR a1, vI a2, vI a3, vI a4] 155 s0 (xRv (vI q.1) q.2) := by
  refine xC.of [vR 121, vR a1, vI a2, vI a3, vI a4, vX] (by decide +kernel) (Nat.le_of_ble_eq_true rfl) rfl ?_
  unfold F_X11_movesTo at h
  obtain ⟨hm1, h⟩ := xgd_e h
  refine g_aln dX11_movesTo_0 rfl rfl (by decide) ?_
  refine g_iln dX11_movesTo_1 rfl rfl ?_
  obtain ⟨r2, e1, h⟩ := xbp_e h
  refine g_cV1v dX11_movesTo_2 ml_X11_315 rfl (s_X11_isHouse e1) (by decide) rfl ?_
  obtain ⟨j5, ej6, h⟩ := xjn_e h
  have hj7 : ∀ (t3 : Int) (s4 : xW), j5 t3 s4 = some q → xG 3 0 0 mX11_movesTo 33 [vX, vX, vX, vX, vX, vX] [vI t3] 155 s4 (xRv (vI q.1) q.2) := by
    intro t3 s4 h
    rw [ej6] at h
    refine g_ist_5 dX11_movesTo_33 (by decide) rfl ?_
    refine g_il dX11_movesTo_35 rfl ?_
    obtain ⟨v9, e10, h⟩ := xlt_e h
    have hj11 : xG 3 0 0 mX11_movesTo 47 [vX, vX, vX, vX, vX, vX] [vI v9] 155 s4 (xRv (vI q.1) q.2) := by
      exact g_rI rfl dX11_movesTo_47 h
    refine g_yne dX11_movesTo_37 (tgt := 45) rfl rfl (fun c8 => ?_) (fun c8 => ?_)
    · skip
      refine g_il dX11_movesTo_45 rfl ?_
      refine g_drop_5 ?_
      exact g_vq ((if_neg c8).symm.trans e10) hj11
    · skip
      refine g_bi dX11_movesTo_40 (by decide) ?_
      refine g_goto dX11_movesTo_42 (tgt := 47) rfl ?_
      refine g_drop_5 ?_
      exact g_vq ((if_pos c8).symm.trans e10) hj11
  clear ej6
  obtain ⟨j12, ej13, h⟩ := xjn_e h
  have hj14 : j12  = some q → xG 3 0 0 mX11_movesTo 32 [vX, vX, vX, vX, vX, vX] [] 155 s0 (xRv (vI q.1) q.2) := by
    intro  h
    rw [ej13] at h
    refine g_ic dX11_movesTo_32 ?_
    exact hj7 (-1) s0 h
  clear ej13
  refine g_yeq dX11_movesTo_5 (tgt := 32) rfl rfl (fun q15 => ?_) (fun q15 => ?_)
  · replace h := xif_f q15 h
    refine g_drop_0 ?_
    refine g_drop_1 ?_
    refine g_drop_2 ?_
    refine g_drop_3 ?_
    refine g_drop_4 ?_
    exact hj14  h
  · replace h := xif_t q15 h
    refine g_iln dX11_movesTo_8 rfl rfl ?_
    refine g_il dX11_movesTo_9 rfl ?_
    obtain ⟨r17, e16, h⟩ := xbp_e h
    refine g_cS2v dX11_movesTo_11 ml_X11_351 (s_X11_isPlace e16) (by decide) rfl ?_
    refine g_yeq dX11_movesTo_14 (tgt := 32) rfl rfl (fun q18 => ?_) (fun q18 => ?_)
    · replace h := xif_f q18 h
      refine g_drop_0 ?_
      refine g_drop_1 ?_
      refine g_drop_2 ?_
      refine g_drop_3 ?_
      refine g_drop_4 ?_
      exact hj14  h
    · replace h := xif_t q18 h
      refine g_aln dX11_movesTo_17 rfl rfl (xf_now_39 _ hm1) ?_
      refine g_iln dX11_movesTo_18 rfl rfl ?_
      refine g_bi dX11_movesTo_19 (by decide) ?_
      refine g_iln dX11_movesTo_21 rfl rfl ?_
      refine g_iadd dX11_movesTo_22 ?_
      refine g_iln dX11_movesTo_23 rfl rfl ?_
      refine g_il dX11_movesTo_24 rfl ?_
      obtain ⟨r20, s21, e19, h⟩ := xbd_e h
      refine g_cS5v dX11_movesTo_26 ml_X11_355 (s_X11_puts e19) (by decide) rfl ?_
      refine g_goto dX11_movesTo_29 (tgt := 33) rfl ?_
      refine g_drop_0 ?_
      refine g_drop_1 ?_
      refine g_drop_2 ?_
      refine g_drop_3 ?_
      refine g_drop_4 ?_
      exact hj7 r20 s21 h
theorem dX11_does_0 : decode cX11_does 0 = .ok (.aload_n 0, 1) := by decide +kernel
theorem dX11_does_1 : decode cX11_does 1 = .ok (.getfield 80, 3) := by decide +kernel
theorem dX11_does_4 : decode cX11_does 4 = .ok (.iload_n 1, 1) := by decide +kernel
theorem dX11_does_5 : decode cX11_does 5 = .ok (.iaload, 1) := by decide +kernel
theorem dX11_does_6 : decode cX11_does 6 = .ok (.istore_n 2, 1) := by decide +kernel
theorem dX11_does_7 : decode cX11_does 7 = .ok (.aload_n 0, 1) := by decide +kernel
theorem dX11_does_8 : decode cX11_does 8 = .ok (.getfield 77, 3) := by decide +kernel
theorem dX11_does_11 : decode cX11_does 11 = .ok (.iload_n 1, 1) := by decide +kernel
theorem dX11_does_12 : decode cX11_does 12 = .ok (.iaload, 1) := by decide +kernel
theorem dX11_does_13 : decode cX11_does 13 = .ok (.tableswitch 111 0 3 #[31, 54, 68, 91], 31) := by decide +kernel
theorem dX11_does_44 : decode cX11_does 44 = .ok (.iconst 0, 1) := by decide +kernel
theorem dX11_does_45 : decode cX11_does 45 = .ok (.istore_n 3, 1) := by decide +kernel
theorem dX11_does_46 : decode cX11_does 46 = .ok (.iload_n 3, 1) := by decide +kernel
theorem dX11_does_47 : decode cX11_does 47 = .ok (.iload_n 2, 1) := by decide +kernel
theorem dX11_does_48 : decode cX11_does 48 = .ok (.if_icmp .ge 17, 3) := by decide +kernel
theorem dX11_does_51 : decode cX11_does 51 = .ok (.aload_n 0, 1) := by decide +kernel
theorem dX11_does_52 : decode cX11_does 52 = .ok (.aload_n 0, 1) := by decide +kernel
theorem dX11_does_53 : decode cX11_does 53 = .ok (.getfield 47, 3) := by decide +kernel
theorem dX11_does_56 : decode cX11_does 56 = .ok (.invokevirtual 346, 3) := by decide +kernel
theorem dX11_does_59 : decode cX11_does 59 = .ok (.iinc 3 1, 3) := by decide +kernel
theorem dX11_does_62 : decode cX11_does 62 = .ok (.goto (-16), 3) := by decide +kernel
theorem dX11_does_65 : decode cX11_does 65 = .ok (.iconst 1, 1) := by decide +kernel
theorem dX11_does_66 : decode cX11_does 66 = .ok (.ireturn, 1) := by decide +kernel
theorem dX11_does_67 : decode cX11_does 67 = .ok (.aload_n 0, 1) := by decide +kernel
theorem dX11_does_68 : decode cX11_does 68 = .ok (.iload_n 2, 1) := by decide +kernel
theorem dX11_does_69 : decode cX11_does 69 = .ok (.invokevirtual 367, 3) := by decide +kernel
theorem dX11_does_72 : decode cX11_does 72 = .ok (.ifCond .lt 7, 3) := by decide +kernel
theorem dX11_does_75 : decode cX11_does 75 = .ok (.iconst 1, 1) := by decide +kernel
theorem dX11_does_76 : decode cX11_does 76 = .ok (.goto 4, 3) := by decide +kernel
theorem dX11_does_79 : decode cX11_does 79 = .ok (.iconst 0, 1) := by decide +kernel
theorem dX11_does_80 : decode cX11_does 80 = .ok (.ireturn, 1) := by decide +kernel
theorem dX11_does_81 : decode cX11_does 81 = .ok (.aload_n 0, 1) := by decide +kernel
theorem dX11_does_82 : decode cX11_does 82 = .ok (.getfield 47, 3) := by decide +kernel
theorem dX11_does_85 : decode cX11_does 85 = .ok (.iload_n 2, 1) := by decide +kernel
theorem dX11_does_86 : decode cX11_does 86 = .ok (.aload_n 0, 1) := by decide +kernel
theorem dX11_does_87 : decode cX11_does 87 = .ok (.getfield 83, 3) := by decide +kernel
theorem dX11_does_90 : decode cX11_does 90 = .ok (.iload_n 1, 1) := by decide +kernel
theorem dX11_does_91 : decode cX11_does 91 = .ok (.iaload, 1) := by decide +kernel
theorem dX11_does_92 : decode cX11_does 92 = .ok (.invokestatic 373, 3) := by decide +kernel
theorem dX11_does_95 : decode cX11_does 95 = .ok (.ifCond .lt 7, 3) := by decide +kernel
theorem dX11_does_98 : decode cX11_does 98 = .ok (.iconst 1, 1) := by decide +kernel
theorem dX11_does_99 : decode cX11_does 99 = .ok (.goto 4, 3) := by decide +kernel
theorem dX11_does_102 : decode cX11_does 102 = .ok (.iconst 0, 1) := by decide +kernel
theorem dX11_does_103 : decode cX11_does 103 = .ok (.ireturn, 1) := by decide +kernel
theorem dX11_does_104 : decode cX11_does 104 = .ok (.aload_n 0, 1) := by decide +kernel
theorem dX11_does_105 : decode cX11_does 105 = .ok (.iload_n 2, 1) := by decide +kernel
theorem dX11_does_106 : decode cX11_does 106 = .ok (.aload_n 0, 1) := by decide +kernel
theorem dX11_does_107 : decode cX11_does 107 = .ok (.getfield 83, 3) := by decide +kernel
theorem dX11_does_110 : decode cX11_does 110 = .ok (.iload_n 1, 1) := by decide +kernel
theorem dX11_does_111 : decode cX11_does 111 = .ok (.iaload, 1) := by decide +kernel
theorem dX11_does_112 : decode cX11_does 112 = .ok (.invokevirtual 381, 3) := by decide +kernel
theorem dX11_does_115 : decode cX11_does 115 = .ok (.ifCond .lt 7, 3) := by decide +kernel
theorem dX11_does_118 : decode cX11_does 118 = .ok (.iconst 1, 1) := by decide +kernel
theorem dX11_does_119 : decode cX11_does 119 = .ok (.goto 4, 3) := by decide +kernel
theorem dX11_does_122 : decode cX11_does 122 = .ok (.iconst 0, 1) := by decide +kernel
theorem dX11_does_123 : decode cX11_does 123 = .ok (.ireturn, 1) := by decide +kernel
theorem dX11_does_124 : decode cX11_does 124 = .ok (.aload_n 0, 1) := by decide +kernel
theorem dX11_does_125 : decode cX11_does 125 = .ok (.aload_n 0, 1) := by decide +kernel
theorem dX11_does_126 : decode cX11_does 126 = .ok (.getfield 47, 3) := by decide +kernel
theorem dX11_does_129 : decode cX11_does 129 = .ok (.iload_n 2, 1) := by decide +kernel
theorem dX11_does_130 : decode cX11_does 130 = .ok (.aload_n 0, 1) := by decide +kernel
theorem dX11_does_131 : decode cX11_does 131 = .ok (.getfield 83, 3) := by decide +kernel
theorem dX11_does_134 : decode cX11_does 134 = .ok (.iload_n 1, 1) := by decide +kernel
theorem dX11_does_135 : decode cX11_does 135 = .ok (.iaload, 1) := by decide +kernel
theorem dX11_does_136 : decode cX11_does 136 = .ok (.aload_n 0, 1) := by decide +kernel
theorem dX11_does_137 : decode cX11_does 137 = .ok (.getfield 86, 3) := by decide +kernel
theorem dX11_does_140 : decode cX11_does 140 = .ok (.iload_n 1, 1) := by decide +kernel
theorem dX11_does_141 : decode cX11_does 141 = .ok (.iaload, 1) := by decide +kernel
theorem dX11_does_142 : decode cX11_does 142 = .ok (.invokevirtual 377, 3) := by decide +kernel
theorem dX11_does_145 : decode cX11_does 145 = .ok (.ifCond .lt 7, 3) := by decide +kernel
theorem dX11_does_148 : decode cX11_does 148 = .ok (.iconst 1, 1) := by decide +kernel
theorem dX11_does_149 : decode cX11_does 149 = .ok (.goto 4, 3) := by decide +kernel
theorem dX11_does_152 : decode cX11_does 152 = .ok (.iconst 0, 1) := by decide +kernel
theorem dX11_does_153 : decode cX11_does 153 = .ok (.ireturn, 1) := by decide +kernel
theorem s_X11_does_46 {l2_4 : Int} {q : Int × xW} {k : Int → xW → Option (Int × xW)} (hk : ∀ (l3_10 : Int) (s11 : xW), k l3_10 s11 = some q → xG 8 0 0 mX11_does 65 [vR 121, vX, vI l2_4, vI l3_10] [] 155 s11 (xRv (vI q.1) q.2)) : ∀ (f : Nat) (l3_5 : Int) (s6 : xW), F_X11_does_46 l2_4 f l3_5 s6 k = some q → xG 8 0 0 mX11_does 46 [vR 121, vX, vI l2_4, vI l3_5] [] 155 s6 (xRv (vI q.1) q.2) := by
  intro f
  induction f with
  | zero => intro l3_5 s6 h; cases h
  | succ f ih =>
    intro l3_5 s6 h
    unfold F_X11_does_46 at h
    refine g_iln dX11_does_46 rfl rfl ?_
    refine g_iln dX11_does_47 rfl rfl ?_
    refine g_wge dX11_does_48 (tgt := 65) rfl rfl rfl (fun q7 => ?_) (fun q7 => ?_)
    · replace h := xif_f q7 h
      exact hk l3_5 s6 h
    · replace h := xif_t q7 h
      refine g_aln dX11_does_51 rfl rfl (by decide) ?_
      refine g_aln dX11_does_52 rfl rfl (by decide) ?_
      refine g_getC 127 dX11_does_53 fl_X11_47 rfl (by decide) ?_
      obtain ⟨s9, e8, h⟩ := xbp_e h
      refine g_cV10 dX11_does_56 ml_X11_346 rfl (s_X11_dayGoes e8) (by decide) rfl ?_
      refine g_inc_3 dX11_does_59 (by decide) rfl ?_
      refine g_goto dX11_does_62 (tgt := 46) rfl ?_
      exact ih (l3_5 + 1) s9 h
theorem s_X11_does {a1 : Int} {s0 : xW} {q : Int × xW} (h : F_X11_does a1 s0 = some q) : xC 8 0 0 mX11_does [vR 121, vI a1] 155 s0 (xRv (vI q.1) q.2) := by
  refine xC.of [vR 121, vI a1, vX, vX] (by decide +kernel) (Nat.le_of_ble_eq_true rfl) rfl ?_
  unfold F_X11_does at h
  refine g_aln dX11_does_0 rfl rfl (by decide) ?_
  refine g_getC 138 dX11_does_1 fl_X11_80 rfl (by decide) ?_
  refine g_iln dX11_does_4 rfl rfl ?_
  obtain ⟨hg1, h⟩ := xgd_e h
  refine g_iald 60 dX11_does_5 rfl hg1 (by decide) ?_
  refine g_istn_2 dX11_does_6 (by decide) rfl ?_
  refine g_aln dX11_does_7 rfl rfl (by decide) ?_
  refine g_getC 137 dX11_does_8 fl_X11_77 rfl (by decide) ?_
  refine g_iln dX11_does_11 rfl rfl ?_
  obtain ⟨hg2, h⟩ := xgd_e h
  refine g_iald 60 dX11_does_12 rfl hg2 (by decide) ?_
  by_cases q3 : (xw (s0 137 a1)) = 0
  · replace h := xif_t q3 h
    refine g_wtK dX11_does_13 q3 (by decide) (off := 31) rfl (tgt := 44) rfl ?_
    refine g_ic dX11_does_44 ?_
    refine g_istn_3 dX11_does_45 (by decide) rfl ?_
    refine g_drop_1 ?_
    refine s_X11_does_46 (fun l3_12 s13 h => ?_) xN _ _ h
    refine g_ic dX11_does_65 ?_
    exact g_rZ rfl dX11_does_66 (by decide) h
  replace h := xif_f q3 h
  by_cases q14 : (xw (s0 137 a1)) = 1
  · replace h := xif_t q14 h
    refine g_wtK dX11_does_13 q14 (by decide) (off := 54) rfl (tgt := 67) rfl ?_
    refine g_aln dX11_does_67 rfl rfl (by decide) ?_
    refine g_iln dX11_does_68 rfl rfl ?_
    obtain ⟨r16, s17, e15, h⟩ := xbd_e h
    refine g_cV1v dX11_does_69 ml_X11_367 rfl (s_X11_buysSome e15) (by decide) rfl ?_
    obtain ⟨v19, e20, h⟩ := xlt_e h
    have hj21 : xG 8 0 0 mX11_does 80 [vX, vX, vX, vX] [vI v19] 155 s17 (xRv (vI q.1) q.2) := by
      obtain ⟨hg22, h⟩ := xgd_e h
      exact g_rZ rfl dX11_does_80 hg22 h
    refine g_ylt dX11_does_72 (tgt := 79) rfl rfl (fun c18 => ?_) (fun c18 => ?_)
    · skip
      refine g_ic dX11_does_79 ?_
      refine g_drop_0 ?_
      refine g_drop_1 ?_
      refine g_drop_2 ?_
      exact g_vq ((if_neg c18).symm.trans e20) hj21
    · skip
      refine g_ic dX11_does_75 ?_
      refine g_goto dX11_does_76 (tgt := 80) rfl ?_
      refine g_drop_0 ?_
      refine g_drop_1 ?_
      refine g_drop_2 ?_
      exact g_vq ((if_pos c18).symm.trans e20) hj21
  replace h := xif_f q14 h
  by_cases q23 : (xw (s0 137 a1)) = 2
  · replace h := xif_t q23 h
    refine g_wtK dX11_does_13 q23 (by decide) (off := 68) rfl (tgt := 81) rfl ?_
    refine g_aln dX11_does_81 rfl rfl (by decide) ?_
    refine g_getC 127 dX11_does_82 fl_X11_47 rfl (by decide) ?_
    refine g_iln dX11_does_85 rfl rfl ?_
    refine g_aln dX11_does_86 rfl rfl (by decide) ?_
    refine g_getC 139 dX11_does_87 fl_X11_83 rfl (by decide) ?_
    refine g_iln dX11_does_90 rfl rfl ?_
    obtain ⟨hg24, h⟩ := xgd_e h
    refine g_iald 60 dX11_does_91 rfl hg24 (by decide) ?_
    obtain ⟨r26, s27, e25, h⟩ := xbd_e h
    refine g_cS3v dX11_does_92 ml_X11_373 (s_X11_haulsTo e25) (by decide) rfl ?_
    obtain ⟨v29, e30, h⟩ := xlt_e h
    have hj31 : xG 8 0 0 mX11_does 103 [vX, vX, vX, vX] [vI v29] 155 s27 (xRv (vI q.1) q.2) := by
      obtain ⟨hg32, h⟩ := xgd_e h
      exact g_rZ rfl dX11_does_103 hg32 h
    refine g_ylt dX11_does_95 (tgt := 102) rfl rfl (fun c28 => ?_) (fun c28 => ?_)
    · skip
      refine g_ic dX11_does_102 ?_
      refine g_drop_0 ?_
      refine g_drop_1 ?_
      refine g_drop_2 ?_
      exact g_vq ((if_neg c28).symm.trans e30) hj31
    · skip
      refine g_ic dX11_does_98 ?_
      refine g_goto dX11_does_99 (tgt := 103) rfl ?_
      refine g_drop_0 ?_
      refine g_drop_1 ?_
      refine g_drop_2 ?_
      exact g_vq ((if_pos c28).symm.trans e30) hj31
  replace h := xif_f q23 h
  by_cases q33 : (xw (s0 137 a1)) = 3
  · replace h := xif_t q33 h
    refine g_wtK dX11_does_13 q33 (by decide) (off := 91) rfl (tgt := 104) rfl ?_
    refine g_aln dX11_does_104 rfl rfl (by decide) ?_
    refine g_iln dX11_does_105 rfl rfl ?_
    refine g_aln dX11_does_106 rfl rfl (by decide) ?_
    refine g_getC 139 dX11_does_107 fl_X11_83 rfl (by decide) ?_
    refine g_iln dX11_does_110 rfl rfl ?_
    obtain ⟨hg34, h⟩ := xgd_e h
    refine g_iald 60 dX11_does_111 rfl hg34 (by decide) ?_
    obtain ⟨r36, s37, e35, h⟩ := xbd_e h
    refine g_cV2v dX11_does_112 ml_X11_381 rfl (s_X11_takesSome e35) (by decide) rfl ?_
    obtain ⟨v39, e40, h⟩ := xlt_e h
    have hj41 : xG 8 0 0 mX11_does 123 [vX, vX, vX, vX] [vI v39] 155 s37 (xRv (vI q.1) q.2) := by
      obtain ⟨hg42, h⟩ := xgd_e h
      exact g_rZ rfl dX11_does_123 hg42 h
    refine g_ylt dX11_does_115 (tgt := 122) rfl rfl (fun c38 => ?_) (fun c38 => ?_)
    · skip
      refine g_ic dX11_does_122 ?_
      refine g_drop_0 ?_
      refine g_drop_1 ?_
      refine g_drop_2 ?_
      exact g_vq ((if_neg c38).symm.trans e40) hj41
    · skip
      refine g_ic dX11_does_118 ?_
      refine g_goto dX11_does_119 (tgt := 123) rfl ?_
      refine g_drop_0 ?_
      refine g_drop_1 ?_
      refine g_drop_2 ?_
      exact g_vq ((if_pos c38).symm.trans e40) hj41
  replace h := xif_f q33 h
  refine g_wtO dX11_does_13 rfl (by omega) (tgt := 124) rfl ?_
  refine g_aln dX11_does_124 rfl rfl (by decide) ?_
  refine g_aln dX11_does_125 rfl rfl (by decide) ?_
  refine g_getC 127 dX11_does_126 fl_X11_47 rfl (by decide) ?_
  refine g_iln dX11_does_129 rfl rfl ?_
  refine g_aln dX11_does_130 rfl rfl (by decide) ?_
  refine g_getC 139 dX11_does_131 fl_X11_83 rfl (by decide) ?_
  refine g_iln dX11_does_134 rfl rfl ?_
  obtain ⟨hg43, h⟩ := xgd_e h
  refine g_iald 60 dX11_does_135 rfl hg43 (by decide) ?_
  refine g_aln dX11_does_136 rfl rfl (by decide) ?_
  refine g_getC 140 dX11_does_137 fl_X11_86 rfl (by decide) ?_
  refine g_iln dX11_does_140 rfl rfl ?_
  obtain ⟨hg44, h⟩ := xgd_e h
  refine g_iald 60 dX11_does_141 rfl hg44 (by decide) ?_
  obtain ⟨r46, s47, e45, h⟩ := xbd_e h
  refine g_cV4v dX11_does_142 ml_X11_377 rfl (s_X11_movesTo e45) (by decide) rfl ?_
  obtain ⟨v49, e50, h⟩ := xlt_e h
  have hj51 : xG 8 0 0 mX11_does 153 [vX, vX, vX, vX] [vI v49] 155 s47 (xRv (vI q.1) q.2) := by
    obtain ⟨hg52, h⟩ := xgd_e h
    exact g_rZ rfl dX11_does_153 hg52 h
  refine g_ylt dX11_does_145 (tgt := 152) rfl rfl (fun c48 => ?_) (fun c48 => ?_)
  · skip
    refine g_ic dX11_does_152 ?_
    refine g_drop_0 ?_
    refine g_drop_1 ?_
    refine g_drop_2 ?_
    exact g_vq ((if_neg c48).symm.trans e50) hj51
  · skip
    refine g_ic dX11_does_148 ?_
    refine g_goto dX11_does_149 (tgt := 153) rfl ?_
    refine g_drop_0 ?_
    refine g_drop_1 ?_
    refine g_drop_2 ?_
    exact g_vq ((if_pos c48).symm.trans e50) hj51
theorem dX11_draws_0 : decode cX11_draws 0 = .ok (.aload_n 0, 1) := by decide +kernel
theorem dX11_draws_1 : decode cX11_draws 1 = .ok (.aload_n 0, 1) := by decide +kernel
theorem dX11_draws_2 : decode cX11_draws 2 = .ok (.getfield 457, 3) := by decide +kernel
theorem dX11_draws_5 : decode cX11_draws 5 = .ok (.ldc_w 460, 3) := by decide +kernel
theorem dX11_draws_8 : decode cX11_draws 8 = .ok (.imul, 1) := by decide +kernel
theorem dX11_draws_9 : decode cX11_draws 9 = .ok (.sipush 12345, 3) := by decide +kernel
theorem dX11_draws_12 : decode cX11_draws 12 = .ok (.iadd, 1) := by decide +kernel
theorem dX11_draws_13 : decode cX11_draws 13 = .ok (.putfield 457, 3) := by decide +kernel
theorem dX11_draws_16 : decode cX11_draws 16 = .ok (.aload_n 0, 1) := by decide +kernel
theorem dX11_draws_17 : decode cX11_draws 17 = .ok (.getfield 457, 3) := by decide +kernel
theorem dX11_draws_20 : decode cX11_draws 20 = .ok (.bipush 16, 2) := by decide +kernel
theorem dX11_draws_22 : decode cX11_draws 22 = .ok (.iushr, 1) := by decide +kernel
theorem dX11_draws_23 : decode cX11_draws 23 = .ok (.iload_n 1, 1) := by decide +kernel
theorem dX11_draws_24 : decode cX11_draws 24 = .ok (.irem, 1) := by decide +kernel
theorem dX11_draws_25 : decode cX11_draws 25 = .ok (.ireturn, 1) := by decide +kernel
theorem s_X11_draws {a1 : Int} {s0 : xW} {q : Int × xW} (h : F_X11_draws a1 s0 = some q) : xC 0 0 0 mX11_draws [vR 121, vI a1] 155 s0 (xRv (vI q.1) q.2) := by
  refine xC.of [vR 121, vI a1] (by decide +kernel) (Nat.le_of_ble_eq_true rfl) rfl ?_
  unfold F_X11_draws at h
  refine g_aln dX11_draws_0 rfl rfl (by decide) ?_
  refine g_aln dX11_draws_1 rfl rfl (by decide) ?_
  refine g_getI 48 dX11_draws_2 fl_X11_457 rfl rfl ?_
  refine g_ldcw dX11_draws_5 ct_X11_460 (w := 1103515245) rfl ?_
  refine g_imul dX11_draws_8 ?_
  refine g_si dX11_draws_9 (by decide) ?_
  refine g_iadd dX11_draws_12 ?_
  obtain ⟨s1, e2, h⟩ := xlt_e h
  refine h_putI 48 dX11_draws_13 fl_X11_457 rfl rfl e2 ?_
  refine g_aln dX11_draws_16 rfl rfl (by decide) ?_
  refine g_getI 48 dX11_draws_17 fl_X11_457 rfl rfl ?_
  refine g_bi dX11_draws_20 (by decide) ?_
  refine g_iushr dX11_draws_22 ?_
  refine g_iln dX11_draws_23 rfl rfl ?_
  obtain ⟨hg3, h⟩ := xgd_e h
  refine g_wrem dX11_draws_24 rfl rfl hg3 ?_
  exact g_rI rfl dX11_draws_25 h
theorem dX11_echoes_0 : decode cX11_echoes 0 = .ok (.aload_n 0, 1) := by decide +kernel
theorem dX11_echoes_1 : decode cX11_echoes 1 = .ok (.aload_n 1, 1) := by decide +kernel
theorem dX11_echoes_2 : decode cX11_echoes 2 = .ok (.iload_n 2, 1) := by decide +kernel
theorem dX11_echoes_3 : decode cX11_echoes 3 = .ok (.iconst 1, 1) := by decide +kernel
theorem dX11_echoes_4 : decode cX11_echoes 4 = .ok (.aload_n 0, 1) := by decide +kernel
theorem dX11_echoes_5 : decode cX11_echoes 5 = .ok (.aload_n 1, 1) := by decide +kernel
theorem dX11_echoes_6 : decode cX11_echoes 6 = .ok (.bipush 39, 2) := by decide +kernel
theorem dX11_echoes_8 : decode cX11_echoes 8 = .ok (.iaload, 1) := by decide +kernel
theorem dX11_echoes_9 : decode cX11_echoes 9 = .ok (.invokevirtual 282, 3) := by decide +kernel
theorem dX11_echoes_12 : decode cX11_echoes 12 = .ok (.aload_n 0, 1) := by decide +kernel
theorem dX11_echoes_13 : decode cX11_echoes 13 = .ok (.aload_n 1, 1) := by decide +kernel
theorem dX11_echoes_14 : decode cX11_echoes 14 = .ok (.bipush 39, 2) := by decide +kernel
theorem dX11_echoes_16 : decode cX11_echoes 16 = .ok (.iaload, 1) := by decide +kernel
theorem dX11_echoes_17 : decode cX11_echoes 17 = .ok (.invokevirtual 285, 3) := by decide +kernel
theorem dX11_echoes_20 : decode cX11_echoes 20 = .ok (.invokevirtual 288, 3) := by decide +kernel
theorem dX11_echoes_23 : decode cX11_echoes 23 = .ok (.ireturn, 1) := by decide +kernel
theorem s_X11_echoes {a1 a2 : Int} {s0 : xW} {q : Int × xW} (h : F_X11_echoes a1 a2 s0 = some q) : xC 4 0 0 mX11_echoes [vR 121, vR a1, vI a2] 155 s0 (xRv (vI q.1) q.2) := by
  refine xC.of [vR 121, vR a1, vI a2] (by decide +kernel) (Nat.le_of_ble_eq_true rfl) rfl ?_
  unfold F_X11_echoes at h
  obtain ⟨hm1, h⟩ := xgd_e h
  refine g_aln dX11_echoes_0 rfl rfl (by decide) ?_
  refine g_aln dX11_echoes_1 rfl rfl (xf_now_39 _ hm1) ?_
  refine g_iln dX11_echoes_2 rfl rfl ?_
  refine g_ic dX11_echoes_3 ?_
  refine g_aln dX11_echoes_4 rfl rfl (by decide) ?_
  refine g_aln dX11_echoes_5 rfl rfl (xf_now_39 _ hm1) ?_
  refine g_bi dX11_echoes_6 (by decide) ?_
  refine g_iald 40 dX11_echoes_8 (xf_now_40 _ hm1) (by decide) (by decide) ?_
  obtain ⟨r2, e1, h⟩ := xbp_e h
  refine g_cV1v dX11_echoes_9 ml_X11_282 rfl (s_X11_dampOn e1) (by decide) rfl ?_
  refine g_aln dX11_echoes_12 rfl rfl (by decide) ?_
  refine g_aln dX11_echoes_13 rfl rfl (xf_now_39 _ hm1) ?_
  refine g_bi dX11_echoes_14 (by decide) ?_
  refine g_iald 40 dX11_echoes_16 (xf_now_40 _ hm1) (by decide) (by decide) ?_
  obtain ⟨r4, e3, h⟩ := xbp_e h
  refine g_cV1v dX11_echoes_17 ml_X11_285 rfl (s_X11_windOn e3) (by decide) rfl ?_
  obtain ⟨r6, s7, e5, h⟩ := xbd_e h
  refine g_cV5v dX11_echoes_20 ml_X11_288 rfl (s_X11_hearsBy e5) (by decide) rfl ?_
  exact g_rI rfl dX11_echoes_23 h
theorem dX11_echo_0 : decode cX11_echo 0 = .ok (.aload_n 0, 1) := by decide +kernel
theorem dX11_echo_1 : decode cX11_echo 1 = .ok (.iconst 0, 1) := by decide +kernel
theorem dX11_echo_2 : decode cX11_echo 2 = .ok (.putfield 3, 3) := by decide +kernel
theorem dX11_echo_5 : decode cX11_echo 5 = .ok (.aload_n 0, 1) := by decide +kernel
theorem dX11_echo_6 : decode cX11_echo 6 = .ok (.iload_n 1, 1) := by decide +kernel
theorem dX11_echo_7 : decode cX11_echo 7 = .ok (.invokevirtual 315, 3) := by decide +kernel
theorem dX11_echo_10 : decode cX11_echo 10 = .ok (.ifCond .ne 5, 3) := by decide +kernel
theorem dX11_echo_13 : decode cX11_echo 13 = .ok (.iconst (-1), 1) := by decide +kernel
theorem dX11_echo_14 : decode cX11_echo 14 = .ok (.ireturn, 1) := by decide +kernel
theorem dX11_echo_15 : decode cX11_echo 15 = .ok (.aload_n 0, 1) := by decide +kernel
theorem dX11_echo_16 : decode cX11_echo 16 = .ok (.aload_n 0, 1) := by decide +kernel
theorem dX11_echo_17 : decode cX11_echo 17 = .ok (.getfield 47, 3) := by decide +kernel
theorem dX11_echo_20 : decode cX11_echo 20 = .ok (.iload_n 1, 1) := by decide +kernel
theorem dX11_echo_21 : decode cX11_echo 21 = .ok (.invokevirtual 323, 3) := by decide +kernel
theorem dX11_echo_24 : decode cX11_echo 24 = .ok (.istore_n 2, 1) := by decide +kernel
theorem dX11_echo_25 : decode cX11_echo 25 = .ok (.iconst 0, 1) := by decide +kernel
theorem dX11_echo_26 : decode cX11_echo 26 = .ok (.istore_n 3, 1) := by decide +kernel
theorem dX11_echo_27 : decode cX11_echo 27 = .ok (.iconst 0, 1) := by decide +kernel
theorem dX11_echo_28 : decode cX11_echo 28 = .ok (.istore 4, 2) := by decide +kernel
theorem dX11_echo_30 : decode cX11_echo 30 = .ok (.iload 4, 2) := by decide +kernel
theorem dX11_echo_32 : decode cX11_echo 32 = .ok (.aload_n 0, 1) := by decide +kernel
theorem dX11_echo_33 : decode cX11_echo 33 = .ok (.getfield 129, 3) := by decide +kernel
theorem dX11_echo_36 : decode cX11_echo 36 = .ok (.if_icmp .ge 34, 3) := by decide +kernel
theorem dX11_echo_39 : decode cX11_echo 39 = .ok (.iload_n 3, 1) := by decide +kernel
theorem dX11_echo_40 : decode cX11_echo 40 = .ok (.aload_n 0, 1) := by decide +kernel
theorem dX11_echo_41 : decode cX11_echo 41 = .ok (.aload_n 0, 1) := by decide +kernel
theorem dX11_echo_42 : decode cX11_echo 42 = .ok (.getfield 47, 3) := by decide +kernel
theorem dX11_echo_45 : decode cX11_echo 45 = .ok (.iload 4, 2) := by decide +kernel
theorem dX11_echo_47 : decode cX11_echo 47 = .ok (.invokevirtual 292, 3) := by decide +kernel
theorem dX11_echo_50 : decode cX11_echo 50 = .ok (.iload_n 2, 1) := by decide +kernel
theorem dX11_echo_51 : decode cX11_echo 51 = .ok (.if_icmp .le 10, 3) := by decide +kernel
theorem dX11_echo_54 : decode cX11_echo 54 = .ok (.iconst 1, 1) := by decide +kernel
theorem dX11_echo_55 : decode cX11_echo 55 = .ok (.iload 4, 2) := by decide +kernel
theorem dX11_echo_57 : decode cX11_echo 57 = .ok (.ishl, 1) := by decide +kernel
theorem dX11_echo_58 : decode cX11_echo 58 = .ok (.goto 4, 3) := by decide +kernel
theorem dX11_echo_61 : decode cX11_echo 61 = .ok (.iconst 0, 1) := by decide +kernel
theorem dX11_echo_62 : decode cX11_echo 62 = .ok (.ior, 1) := by decide +kernel
theorem dX11_echo_63 : decode cX11_echo 63 = .ok (.istore_n 3, 1) := by decide +kernel
theorem dX11_echo_64 : decode cX11_echo 64 = .ok (.iinc 4 1, 3) := by decide +kernel
theorem dX11_echo_67 : decode cX11_echo 67 = .ok (.goto (-37), 3) := by decide +kernel
theorem dX11_echo_70 : decode cX11_echo 70 = .ok (.aload_n 0, 1) := by decide +kernel
theorem dX11_echo_71 : decode cX11_echo 71 = .ok (.iconst 0, 1) := by decide +kernel
theorem dX11_echo_72 : decode cX11_echo 72 = .ok (.putfield 15, 3) := by decide +kernel
theorem dX11_echo_75 : decode cX11_echo 75 = .ok (.aload_n 0, 1) := by decide +kernel
theorem dX11_echo_76 : decode cX11_echo 76 = .ok (.iload_n 3, 1) := by decide +kernel
theorem dX11_echo_77 : decode cX11_echo 77 = .ok (.i2l, 1) := by decide +kernel
theorem dX11_echo_78 : decode cX11_echo 78 = .ok (.invokevirtual 18, 3) := by decide +kernel
theorem dX11_echo_81 : decode cX11_echo 81 = .ok (.bipush 100, 2) := by decide +kernel
theorem dX11_echo_83 : decode cX11_echo 83 = .ok (.iload_n 2, 1) := by decide +kernel
theorem dX11_echo_84 : decode cX11_echo 84 = .ok (.iadd, 1) := by decide +kernel
theorem dX11_echo_85 : decode cX11_echo 85 = .ok (.aload_n 0, 1) := by decide +kernel
theorem dX11_echo_86 : decode cX11_echo 86 = .ok (.aload_n 0, 1) := by decide +kernel
theorem dX11_echo_87 : decode cX11_echo 87 = .ok (.getfield 47, 3) := by decide +kernel
theorem dX11_echo_90 : decode cX11_echo 90 = .ok (.iload_n 1, 1) := by decide +kernel
theorem dX11_echo_91 : decode cX11_echo 91 = .ok (.invokevirtual 292, 3) := by decide +kernel
theorem dX11_echo_94 : decode cX11_echo 94 = .ok (.isub, 1) := by decide +kernel
theorem dX11_echo_95 : decode cX11_echo 95 = .ok (.ireturn, 1) := by decide +kernel
theorem s_X11_echo_30 {l1_9 l2_10 : Int} {q : Int × xW} {k : Int → Int → xW → Option (Int × xW)} (hk : ∀ (l3_22 : Int) (l4_23 : Int) (s24 : xW), k l3_22 l4_23 s24 = some q → xG 5 0 0 mX11_echo 70 [vR 121, vI l1_9, vI l2_10, vI l3_22, vI l4_23] [] 155 s24 (xRv (vI q.1) q.2)) : ∀ (f : Nat) (l3_11 : Int) (l4_12 : Int) (s13 : xW), F_X11_echo_30 l1_9 l2_10 f l3_11 l4_12 s13 k = some q → xG 5 0 0 mX11_echo 30 [vR 121, vI l1_9, vI l2_10, vI l3_11, vI l4_12] [] 155 s13 (xRv (vI q.1) q.2) := by
  intro f
  induction f with
  | zero => intro l3_11 l4_12 s13 h; cases h
  | succ f ih =>
    intro l3_11 l4_12 s13 h
    unfold F_X11_echo_30 at h
    refine g_il dX11_echo_30 rfl ?_
    refine g_aln dX11_echo_32 rfl rfl (by decide) ?_
    refine g_getI 3 dX11_echo_33 fl_X11_129 rfl rfl ?_
    refine g_wge dX11_echo_36 (tgt := 70) rfl rfl rfl (fun q14 => ?_) (fun q14 => ?_)
    · replace h := xif_f q14 h
      exact hk l3_11 l4_12 s13 h
    · replace h := xif_t q14 h
      refine g_iln dX11_echo_39 rfl rfl ?_
      refine g_aln dX11_echo_40 rfl rfl (by decide) ?_
      refine g_aln dX11_echo_41 rfl rfl (by decide) ?_
      refine g_getC 127 dX11_echo_42 fl_X11_47 rfl (by decide) ?_
      refine g_il dX11_echo_45 rfl ?_
      obtain ⟨r16, s17, e15, h⟩ := xbd_e h
      refine g_cV2v dX11_echo_47 ml_X11_292 rfl (s_X11_hears e15) (by decide) rfl ?_
      refine g_iln dX11_echo_50 rfl rfl ?_
      obtain ⟨v19, e20, h⟩ := xlt_e h
      have hj21 : xG 5 0 0 mX11_echo 62 [vR 121, vI l1_9, vI l2_10, vX, vI l4_12] [vI v19, vI l3_11] 155 s17 (xRv (vI q.1) q.2) := by
        refine g_ior dX11_echo_62 ?_
        refine g_istn_3 dX11_echo_63 (by decide) rfl ?_
        refine g_inc_4 dX11_echo_64 (by decide) rfl ?_
        refine g_goto dX11_echo_67 (tgt := 30) rfl ?_
        exact ih (xor' l3_11 v19) (l4_12 + 1) s17 h
      refine g_wle dX11_echo_51 (tgt := 61) rfl rfl rfl (fun c18 => ?_) (fun c18 => ?_)
      · skip
        refine g_ic dX11_echo_61 ?_
        refine g_drop_3 ?_
        exact g_vq ((if_neg c18).symm.trans e20) hj21
      · skip
        refine g_ic dX11_echo_54 ?_
        refine g_il dX11_echo_55 rfl ?_
        refine g_ishl dX11_echo_57 ?_
        refine g_goto dX11_echo_58 (tgt := 62) rfl ?_
        refine g_drop_3 ?_
        exact g_vq ((if_pos c18).symm.trans e20) hj21
theorem s_X11_echo {a1 : Int} {s0 : xW} {q : Int × xW} (h : F_X11_echo a1 s0 = some q) : xC 5 0 0 mX11_echo [vR 121, vI a1] 155 s0 (xRv (vI q.1) q.2) := by
  refine xC.of [vR 121, vI a1, vX, vX, vX] (by decide +kernel) (Nat.le_of_ble_eq_true rfl) rfl ?_
  unfold F_X11_echo at h
  refine g_aln dX11_echo_0 rfl rfl (by decide) ?_
  refine g_ic dX11_echo_1 ?_
  obtain ⟨s1, e2, h⟩ := xlt_e h
  refine h_putI 0 dX11_echo_2 fl_X11_3 rfl rfl e2 ?_
  refine g_aln dX11_echo_5 rfl rfl (by decide) ?_
  refine g_iln dX11_echo_6 rfl rfl ?_
  obtain ⟨r4, e3, h⟩ := xbp_e h
  refine g_cV1v dX11_echo_7 ml_X11_315 rfl (s_X11_isHouse e3) (by decide) rfl ?_
  refine g_yne dX11_echo_10 (tgt := 15) rfl rfl (fun q5 => ?_) (fun q5 => ?_)
  · replace h := xif_f q5 h
    refine g_aln dX11_echo_15 rfl rfl (by decide) ?_
    refine g_aln dX11_echo_16 rfl rfl (by decide) ?_
    refine g_getC 127 dX11_echo_17 fl_X11_47 rfl (by decide) ?_
    refine g_iln dX11_echo_20 rfl rfl ?_
    obtain ⟨r7, s8, e6, h⟩ := xbd_e h
    refine g_cV2v dX11_echo_21 ml_X11_323 rfl (s_X11_echoes e6) (by decide) rfl ?_
    refine g_istn_2 dX11_echo_24 (by decide) rfl ?_
    refine g_ic dX11_echo_25 ?_
    refine g_istn_3 dX11_echo_26 (by decide) rfl ?_
    refine g_ic dX11_echo_27 ?_
    refine g_ist_4 dX11_echo_28 (by decide) rfl ?_
    refine s_X11_echo_30 (fun l3_25 l4_26 s27 h => ?_) xN _ _ _ h
    refine g_aln dX11_echo_70 rfl rfl (by decide) ?_
    refine g_ic dX11_echo_71 ?_
    obtain ⟨s28, e29, h⟩ := xlt_e h
    refine h_putI 1 dX11_echo_72 fl_X11_15 rfl rfl e29 ?_
    refine g_aln dX11_echo_75 rfl rfl (by decide) ?_
    refine g_iln dX11_echo_76 rfl rfl ?_
    refine g_wi2l dX11_echo_77 rfl ?_
    obtain ⟨s31, e30, h⟩ := xbp_e h
    refine g_cV10 dX11_echo_78 ml_X11_18 rfl (s_X11_enters e30) (by decide) rfl ?_
    refine g_bi dX11_echo_81 (by decide) ?_
    refine g_iln dX11_echo_83 rfl rfl ?_
    refine g_iadd dX11_echo_84 ?_
    refine g_aln dX11_echo_85 rfl rfl (by decide) ?_
    refine g_aln dX11_echo_86 rfl rfl (by decide) ?_
    refine g_getC 127 dX11_echo_87 fl_X11_47 rfl (by decide) ?_
    refine g_iln dX11_echo_90 rfl rfl ?_
    obtain ⟨r33, s34, e32, h⟩ := xbd_e h
    refine g_cV2v dX11_echo_91 ml_X11_292 rfl (s_X11_hears e32) (by decide) rfl ?_
    refine g_isub dX11_echo_94 ?_
    exact g_rI rfl dX11_echo_95 h
  · replace h := xif_t q5 h
    refine g_ic dX11_echo_13 ?_
    exact g_rI rfl dX11_echo_14 h
theorem dX11_end_0 : decode cX11_end 0 = .ok (.aload_n 0, 1) := by decide +kernel
theorem dX11_end_1 : decode cX11_end 1 = .ok (.iconst 0, 1) := by decide +kernel
theorem dX11_end_2 : decode cX11_end 2 = .ok (.putfield 3, 3) := by decide +kernel
theorem dX11_end_5 : decode cX11_end 5 = .ok (.iload_n 1, 1) := by decide +kernel
theorem dX11_end_6 : decode cX11_end 6 = .ok (.i2l, 1) := by decide +kernel
theorem dX11_end_7 : decode cX11_end 7 = .ok (.lconst 0, 1) := by decide +kernel
theorem dX11_end_8 : decode cX11_end 8 = .ok (.aload_n 0, 1) := by decide +kernel
theorem dX11_end_9 : decode cX11_end 9 = .ok (.getfield 141, 3) := by decide +kernel
theorem dX11_end_12 : decode cX11_end 12 = .ok (.i2l, 1) := by decide +kernel
theorem dX11_end_13 : decode cX11_end 13 = .ok (.invokestatic 132, 3) := by decide +kernel
theorem dX11_end_16 : decode cX11_end 16 = .ok (.ifCond .ne 5, 3) := by decide +kernel
theorem dX11_end_19 : decode cX11_end 19 = .ok (.iconst 0, 1) := by decide +kernel
theorem dX11_end_20 : decode cX11_end 20 = .ok (.ireturn, 1) := by decide +kernel
theorem dX11_end_21 : decode cX11_end 21 = .ok (.aload_n 0, 1) := by decide +kernel
theorem dX11_end_22 : decode cX11_end 22 = .ok (.iload_n 1, 1) := by decide +kernel
theorem dX11_end_23 : decode cX11_end 23 = .ok (.putfield 141, 3) := by decide +kernel
theorem dX11_end_26 : decode cX11_end 26 = .ok (.iconst 1, 1) := by decide +kernel
theorem dX11_end_27 : decode cX11_end 27 = .ok (.ireturn, 1) := by decide +kernel
theorem s_X11_end {a1 : Int} {s0 : xW} {q : Int × xW} (h : F_X11_end a1 s0 = some q) : xC 1 0 0 mX11_end [vR 121, vI a1] 155 s0 (xRv (vI q.1) q.2) := by
  refine xC.of [vR 121, vI a1] (by decide +kernel) (Nat.le_of_ble_eq_true rfl) rfl ?_
  unfold F_X11_end at h
  refine g_aln dX11_end_0 rfl rfl (by decide) ?_
  refine g_ic dX11_end_1 ?_
  obtain ⟨s1, e2, h⟩ := xlt_e h
  refine h_putI 0 dX11_end_2 fl_X11_3 rfl rfl e2 ?_
  refine g_iln dX11_end_5 rfl rfl ?_
  refine g_wi2l dX11_end_6 rfl ?_
  refine g_lc dX11_end_7 (w := 0) rfl ?_
  refine g_aln dX11_end_8 rfl rfl (by decide) ?_
  refine g_getI 15 dX11_end_9 fl_X11_141 rfl rfl ?_
  refine g_wi2l dX11_end_12 rfl ?_
  obtain ⟨r4, e3, h⟩ := xbp_e h
  refine g_cS3v dX11_end_13 ml_X11_132 (s_X11_in e3) (by decide) rfl ?_
  refine g_yne dX11_end_16 (tgt := 21) rfl rfl (fun q5 => ?_) (fun q5 => ?_)
  · replace h := xif_f q5 h
    refine g_aln dX11_end_21 rfl rfl (by decide) ?_
    refine g_iln dX11_end_22 rfl rfl ?_
    obtain ⟨s6, e7, h⟩ := xlt_e h
    refine h_putI 15 dX11_end_23 fl_X11_141 rfl rfl e7 ?_
    refine g_ic dX11_end_26 ?_
    exact g_rZ rfl dX11_end_27 (by decide) h
  · replace h := xif_t q5 h
    refine g_ic dX11_end_19 ?_
    exact g_rZ rfl dX11_end_20 (by decide) h
theorem dX11_laysFoes_0 : decode cX11_laysFoes 0 = .ok (.aload_n 0, 1) := by decide +kernel
theorem dX11_laysFoes_1 : decode cX11_laysFoes 1 = .ok (.aload_n 0, 1) := by decide +kernel
theorem dX11_laysFoes_2 : decode cX11_laysFoes 2 = .ok (.getfield 47, 3) := by decide +kernel
theorem dX11_laysFoes_5 : decode cX11_laysFoes 5 = .ok (.invokevirtual 303, 3) := by decide +kernel
theorem dX11_laysFoes_8 : decode cX11_laysFoes 8 = .ok (.iconst 0, 1) := by decide +kernel
theorem dX11_laysFoes_9 : decode cX11_laysFoes 9 = .ok (.istore_n 1, 1) := by decide +kernel
theorem dX11_laysFoes_10 : decode cX11_laysFoes 10 = .ok (.iload_n 1, 1) := by decide +kernel
theorem dX11_laysFoes_11 : decode cX11_laysFoes 11 = .ok (.aload_n 0, 1) := by decide +kernel
theorem dX11_laysFoes_12 : decode cX11_laysFoes 12 = .ok (.getfield 136, 3) := by decide +kernel
theorem dX11_laysFoes_15 : decode cX11_laysFoes 15 = .ok (.if_icmp .ge 24, 3) := by decide +kernel
theorem dX11_laysFoes_18 : decode cX11_laysFoes 18 = .ok (.aload_n 0, 1) := by decide +kernel
theorem dX11_laysFoes_19 : decode cX11_laysFoes 19 = .ok (.getfield 95, 3) := by decide +kernel
theorem dX11_laysFoes_22 : decode cX11_laysFoes 22 = .ok (.iload_n 1, 1) := by decide +kernel
theorem dX11_laysFoes_23 : decode cX11_laysFoes 23 = .ok (.aload_n 0, 1) := by decide +kernel
theorem dX11_laysFoes_24 : decode cX11_laysFoes 24 = .ok (.aload_n 0, 1) := by decide +kernel
theorem dX11_laysFoes_25 : decode cX11_laysFoes 25 = .ok (.getfield 47, 3) := by decide +kernel
theorem dX11_laysFoes_28 : decode cX11_laysFoes 28 = .ok (.iload_n 1, 1) := by decide +kernel
theorem dX11_laysFoes_29 : decode cX11_laysFoes 29 = .ok (.invokevirtual 307, 3) := by decide +kernel
theorem dX11_laysFoes_32 : decode cX11_laysFoes 32 = .ok (.iastore, 1) := by decide +kernel
theorem dX11_laysFoes_33 : decode cX11_laysFoes 33 = .ok (.iinc 1 1, 3) := by decide +kernel
theorem dX11_laysFoes_36 : decode cX11_laysFoes 36 = .ok (.goto (-26), 3) := by decide +kernel
theorem dX11_laysFoes_39 : decode cX11_laysFoes 39 = .ok (.return_, 1) := by decide +kernel
theorem s_X11_laysFoes_10 {q : xW} {k : Int → xW → Option (xW)} (hk : ∀ (l1_11 : Int) (s12 : xW), k l1_11 s12 = some q → xG 6 0 0 mX11_laysFoes 39 [vR 121, vI l1_11] [] 155 s12 (xR0 q)) : ∀ (f : Nat) (l1_3 : Int) (s4 : xW), F_X11_laysFoes_10  f l1_3 s4 k = some q → xG 6 0 0 mX11_laysFoes 10 [vR 121, vI l1_3] [] 155 s4 (xR0 q) := by
  intro f
  induction f with
  | zero => intro l1_3 s4 h; cases h
  | succ f ih =>
    intro l1_3 s4 h
    unfold F_X11_laysFoes_10 at h
    refine g_iln dX11_laysFoes_10 rfl rfl ?_
    refine g_aln dX11_laysFoes_11 rfl rfl (by decide) ?_
    refine g_getI 4 dX11_laysFoes_12 fl_X11_136 rfl rfl ?_
    refine g_wge dX11_laysFoes_15 (tgt := 39) rfl rfl rfl (fun q5 => ?_) (fun q5 => ?_)
    · replace h := xif_f q5 h
      exact hk l1_3 s4 h
    · replace h := xif_t q5 h
      refine g_aln dX11_laysFoes_18 rfl rfl (by decide) ?_
      refine g_getC 143 dX11_laysFoes_19 fl_X11_95 rfl (by decide) ?_
      refine g_iln dX11_laysFoes_22 rfl rfl ?_
      refine g_aln dX11_laysFoes_23 rfl rfl (by decide) ?_
      refine g_aln dX11_laysFoes_24 rfl rfl (by decide) ?_
      refine g_getC 127 dX11_laysFoes_25 fl_X11_47 rfl (by decide) ?_
      refine g_iln dX11_laysFoes_28 rfl rfl ?_
      obtain ⟨r7, e6, h⟩ := xbp_e h
      refine g_cV2v dX11_laysFoes_29 ml_X11_307 rfl (s_X11_clashing e6) (by decide) rfl ?_
      obtain ⟨hg8, h⟩ := xgd_e h
      obtain ⟨s9, e10, h⟩ := xlt_e h
      refine h_iast 8 dX11_laysFoes_32 rfl hg8 (by decide) e10 ?_
      refine g_inc_1 dX11_laysFoes_33 (by decide) rfl ?_
      refine g_goto dX11_laysFoes_36 (tgt := 10) rfl ?_
      exact ih (l1_3 + 1) s9 h
theorem s_X11_laysFoes {s0 : xW} {q : xW} (h : F_X11_laysFoes  s0 = some q) : xC 6 0 0 mX11_laysFoes [vR 121] 155 s0 (xR0 q) := by
  refine xC.of [vR 121, vX] (by decide +kernel) (Nat.le_of_ble_eq_true rfl) rfl ?_
  unfold F_X11_laysFoes at h
  refine g_aln dX11_laysFoes_0 rfl rfl (by decide) ?_
  refine g_aln dX11_laysFoes_1 rfl rfl (by decide) ?_
  refine g_getC 127 dX11_laysFoes_2 fl_X11_47 rfl (by decide) ?_
  obtain ⟨s2, e1, h⟩ := xbp_e h
  refine g_cV10 dX11_laysFoes_5 ml_X11_303 rfl (s_X11_laysBegins e1) (by decide) rfl ?_
  refine g_ic dX11_laysFoes_8 ?_
  refine g_istn_1 dX11_laysFoes_9 (by decide) rfl ?_
  refine s_X11_laysFoes_10 (fun l1_13 s14 h => ?_) xN _ _ h
  exact g_rV rfl dX11_laysFoes_39 h
theorem dX11_isFewer_0 : decode cX11_isFewer 0 = .ok (.iload_n 1, 1) := by decide +kernel
theorem dX11_isFewer_1 : decode cX11_isFewer 1 = .ok (.ifCond .lt 14, 3) := by decide +kernel
theorem dX11_isFewer_4 : decode cX11_isFewer 4 = .ok (.iload_n 0, 1) := by decide +kernel
theorem dX11_isFewer_5 : decode cX11_isFewer 5 = .ok (.invokestatic 310, 3) := by decide +kernel
theorem dX11_isFewer_8 : decode cX11_isFewer 8 = .ok (.iload_n 1, 1) := by decide +kernel
theorem dX11_isFewer_9 : decode cX11_isFewer 9 = .ok (.invokestatic 310, 3) := by decide +kernel
theorem dX11_isFewer_12 : decode cX11_isFewer 12 = .ok (.if_icmp .ge 7, 3) := by decide +kernel
theorem dX11_isFewer_15 : decode cX11_isFewer 15 = .ok (.iconst 1, 1) := by decide +kernel
theorem dX11_isFewer_16 : decode cX11_isFewer 16 = .ok (.goto 4, 3) := by decide +kernel
theorem dX11_isFewer_19 : decode cX11_isFewer 19 = .ok (.iconst 0, 1) := by decide +kernel
theorem dX11_isFewer_20 : decode cX11_isFewer 20 = .ok (.ireturn, 1) := by decide +kernel
theorem s_X11_isFewer {a0 a1 : Int} {s0 : xW} {q : Int} (h : F_X11_isFewer a0 a1 s0 = some q) : xC 1 0 0 mX11_isFewer [vI a0, vI a1] 155 s0 (xRv (vI q) s0) := by
  refine xC.of [vI a0, vI a1] (by decide +kernel) (Nat.le_of_ble_eq_true rfl) rfl ?_
  unfold F_X11_isFewer at h
  refine g_iln dX11_isFewer_0 rfl rfl ?_
  obtain ⟨j2, ej3, h⟩ := xjn_e h
  have hj4 : ∀ (t1 : Int), j2 t1 = some q → xG 1 0 0 mX11_isFewer 20 [vX, vX] [vI t1] 155 s0 (xRv (vI q) s0) := by
    intro t1 h
    rw [ej3] at h
    obtain ⟨hg5, h⟩ := xgd_e h
    exact g_pZ rfl dX11_isFewer_20 hg5 h
  clear ej3
  obtain ⟨j6, ej7, h⟩ := xjn_e h
  have hj8 : j6  = some q → xG 1 0 0 mX11_isFewer 15 [vX, vX] [] 155 s0 (xRv (vI q) s0) := by
    intro  h
    rw [ej7] at h
    refine g_ic dX11_isFewer_15 ?_
    refine g_goto dX11_isFewer_16 (tgt := 20) rfl ?_
    exact hj4 1 h
  clear ej7
  refine g_ylt dX11_isFewer_1 (tgt := 15) rfl rfl (fun q9 => ?_) (fun q9 => ?_)
  · replace h := xif_f q9 h
    refine g_drop_0 ?_
    refine g_drop_1 ?_
    exact hj8  h
  · replace h := xif_t q9 h
    refine g_iln dX11_isFewer_4 rfl rfl ?_
    refine g_bitc dX11_isFewer_5 bc_X11_310 (by decide) rfl ?_
    refine g_iln dX11_isFewer_8 rfl rfl ?_
    refine g_bitc dX11_isFewer_9 bc_X11_310 (by decide) rfl ?_
    refine g_wge dX11_isFewer_12 (tgt := 19) rfl rfl rfl (fun q10 => ?_) (fun q10 => ?_)
    · replace h := xif_f q10 h
      refine g_ic dX11_isFewer_19 ?_
      refine g_drop_0 ?_
      refine g_drop_1 ?_
      exact hj4 0 h
    · replace h := xif_t q10 h
      refine g_drop_0 ?_
      refine g_drop_1 ?_
      exact hj8  h
theorem dX11_has_0 : decode cX11_has 0 = .ok (.lload_n 0, 1) := by decide +kernel
theorem dX11_has_1 : decode cX11_has 1 = .ok (.iload_n 2, 1) := by decide +kernel
theorem dX11_has_2 : decode cX11_has 2 = .ok (.lshr, 1) := by decide +kernel
theorem dX11_has_3 : decode cX11_has 3 = .ok (.lconst 1, 1) := by decide +kernel
theorem dX11_has_4 : decode cX11_has 4 = .ok (.land, 1) := by decide +kernel
theorem dX11_has_5 : decode cX11_has 5 = .ok (.lconst 1, 1) := by decide +kernel
theorem dX11_has_6 : decode cX11_has 6 = .ok (.lcmp, 1) := by decide +kernel
theorem dX11_has_7 : decode cX11_has 7 = .ok (.ifCond .ne 7, 3) := by decide +kernel
theorem dX11_has_10 : decode cX11_has 10 = .ok (.iconst 1, 1) := by decide +kernel
theorem dX11_has_11 : decode cX11_has 11 = .ok (.goto 4, 3) := by decide +kernel
theorem dX11_has_14 : decode cX11_has 14 = .ok (.iconst 0, 1) := by decide +kernel
theorem dX11_has_15 : decode cX11_has 15 = .ok (.ireturn, 1) := by decide +kernel
theorem s_X11_has {a0 a2 : Int} {s0 : xW} {q : Int} (h : F_X11_has a0 a2 s0 = some q) : xC 0 0 0 mX11_has [vL a0, vI a2] 155 s0 (xRv (vI q) s0) := by
  refine xC.of [vL a0, vX, vI a2] (by decide +kernel) (Nat.le_of_ble_eq_true rfl) rfl ?_
  unfold F_X11_has at h
  refine g_lln dX11_has_0 rfl rfl ?_
  refine g_iln dX11_has_1 rfl rfl ?_
  refine g_lshr dX11_has_2 ?_
  refine g_lc dX11_has_3 (w := 1) rfl ?_
  refine g_land dX11_has_4 ?_
  refine g_lc dX11_has_5 (w := 1) rfl ?_
  refine g_vne dX11_has_6 dX11_has_7 (tgt := 14) rfl rfl (xwl_id (by decide)) (fun q1 => ?_) (fun q1 => ?_)
  · replace h := xif_f q1 h
    refine g_ic dX11_has_14 ?_
    exact g_pZ rfl dX11_has_15 (by decide) h
  · replace h := xif_t q1 h
    refine g_ic dX11_has_10 ?_
    refine g_goto dX11_has_11 (tgt := 15) rfl ?_
    exact g_pZ rfl dX11_has_15 (by decide) h
theorem dX11_isPeace_0 : decode cX11_isPeace 0 = .ok (.iconst 1, 1) := by decide +kernel
theorem dX11_isPeace_1 : decode cX11_isPeace 1 = .ok (.istore_n 2, 1) := by decide +kernel
theorem dX11_isPeace_2 : decode cX11_isPeace 2 = .ok (.iconst 0, 1) := by decide +kernel
theorem dX11_isPeace_3 : decode cX11_isPeace 3 = .ok (.istore_n 3, 1) := by decide +kernel
theorem dX11_isPeace_4 : decode cX11_isPeace 4 = .ok (.iload_n 3, 1) := by decide +kernel
theorem dX11_isPeace_5 : decode cX11_isPeace 5 = .ok (.aload_n 0, 1) := by decide +kernel
theorem dX11_isPeace_6 : decode cX11_isPeace 6 = .ok (.getfield 136, 3) := by decide +kernel
theorem dX11_isPeace_9 : decode cX11_isPeace 9 = .ok (.if_icmp .ge 39, 3) := by decide +kernel
theorem dX11_isPeace_12 : decode cX11_isPeace 12 = .ok (.iload_n 2, 1) := by decide +kernel
theorem dX11_isPeace_13 : decode cX11_isPeace 13 = .ok (.ifCond .eq 27, 3) := by decide +kernel
theorem dX11_isPeace_16 : decode cX11_isPeace 16 = .ok (.iload_n 1, 1) := by decide +kernel
theorem dX11_isPeace_17 : decode cX11_isPeace 17 = .ok (.i2l, 1) := by decide +kernel
theorem dX11_isPeace_18 : decode cX11_isPeace 18 = .ok (.iload_n 3, 1) := by decide +kernel
theorem dX11_isPeace_19 : decode cX11_isPeace 19 = .ok (.invokestatic 403, 3) := by decide +kernel
theorem dX11_isPeace_22 : decode cX11_isPeace 22 = .ok (.ifCond .eq 14, 3) := by decide +kernel
theorem dX11_isPeace_25 : decode cX11_isPeace 25 = .ok (.aload_n 0, 1) := by decide +kernel
theorem dX11_isPeace_26 : decode cX11_isPeace 26 = .ok (.getfield 95, 3) := by decide +kernel
theorem dX11_isPeace_29 : decode cX11_isPeace 29 = .ok (.iload_n 3, 1) := by decide +kernel
theorem dX11_isPeace_30 : decode cX11_isPeace 30 = .ok (.iaload, 1) := by decide +kernel
theorem dX11_isPeace_31 : decode cX11_isPeace 31 = .ok (.iload_n 1, 1) := by decide +kernel
theorem dX11_isPeace_32 : decode cX11_isPeace 32 = .ok (.iand, 1) := by decide +kernel
theorem dX11_isPeace_33 : decode cX11_isPeace 33 = .ok (.ifCond .ne 7, 3) := by decide +kernel
theorem dX11_isPeace_36 : decode cX11_isPeace 36 = .ok (.iconst 1, 1) := by decide +kernel
theorem dX11_isPeace_37 : decode cX11_isPeace 37 = .ok (.goto 4, 3) := by decide +kernel
theorem dX11_isPeace_40 : decode cX11_isPeace 40 = .ok (.iconst 0, 1) := by decide +kernel
theorem dX11_isPeace_41 : decode cX11_isPeace 41 = .ok (.istore_n 2, 1) := by decide +kernel
theorem dX11_isPeace_42 : decode cX11_isPeace 42 = .ok (.iinc 3 1, 3) := by decide +kernel
theorem dX11_isPeace_45 : decode cX11_isPeace 45 = .ok (.goto (-41), 3) := by decide +kernel
theorem dX11_isPeace_48 : decode cX11_isPeace 48 = .ok (.iload_n 2, 1) := by decide +kernel
theorem dX11_isPeace_49 : decode cX11_isPeace 49 = .ok (.ireturn, 1) := by decide +kernel
theorem s_X11_isPeace_4 {s4 : xW} {l1_1 : Int} {q : Int} {k : Int → Int → Option (Int)} (hk : ∀ (l2_22 : Int) (l3_23 : Int), k l2_22 l3_23 = some q → xG 1 0 0 mX11_isPeace 48 [vR 121, vI l1_1, vI l2_22, vI l3_23] [] 155 s4 (xRv (vI q) s4)) : ∀ (f : Nat) (l2_2 : Int) (l3_3 : Int), F_X11_isPeace_4 l1_1 s4 f l2_2 l3_3 k = some q → xG 1 0 0 mX11_isPeace 4 [vR 121, vI l1_1, vI l2_2, vI l3_3] [] 155 s4 (xRv (vI q) s4) := by
  intro f
  induction f with
  | zero => intro l2_2 l3_3 h; cases h
  | succ f ih =>
    intro l2_2 l3_3 h
    unfold F_X11_isPeace_4 at h
    refine g_iln dX11_isPeace_4 rfl rfl ?_
    refine g_aln dX11_isPeace_5 rfl rfl (by decide) ?_
    refine g_getI 4 dX11_isPeace_6 fl_X11_136 rfl rfl ?_
    refine g_wge dX11_isPeace_9 (tgt := 48) rfl rfl rfl (fun q5 => ?_) (fun q5 => ?_)
    · replace h := xif_f q5 h
      exact hk l2_2 l3_3 h
    · replace h := xif_t q5 h
      refine g_iln dX11_isPeace_12 rfl rfl ?_
      obtain ⟨j7, ej8, h⟩ := xjn_e h
      have hj9 : ∀ (t6 : Int), j7 t6 = some q → xG 1 0 0 mX11_isPeace 41 [vR 121, vI l1_1, vX, vI l3_3] [vI t6] 155 s4 (xRv (vI q) s4) := by
        intro t6 h
        rw [ej8] at h
        refine g_istn_2 dX11_isPeace_41 (by decide) rfl ?_
        refine g_inc_3 dX11_isPeace_42 (by decide) rfl ?_
        refine g_goto dX11_isPeace_45 (tgt := 4) rfl ?_
        exact ih t6 (l3_3 + 1) h
      clear ej8
      obtain ⟨j10, ej11, h⟩ := xjn_e h
      have hj12 : j10  = some q → xG 1 0 0 mX11_isPeace 40 [vR 121, vI l1_1, vX, vI l3_3] [] 155 s4 (xRv (vI q) s4) := by
        intro  h
        rw [ej11] at h
        refine g_ic dX11_isPeace_40 ?_
        exact hj9 0 h
      clear ej11
      refine g_yeq dX11_isPeace_13 (tgt := 40) rfl rfl (fun q13 => ?_) (fun q13 => ?_)
      · replace h := xif_f q13 h
        refine g_drop_2 ?_
        exact hj12  h
      · replace h := xif_t q13 h
        refine g_iln dX11_isPeace_16 rfl rfl ?_
        refine g_wi2l dX11_isPeace_17 rfl ?_
        refine g_iln dX11_isPeace_18 rfl rfl ?_
        obtain ⟨r15, e14, h⟩ := xbp_e h
        refine g_cS2v dX11_isPeace_19 ml_X11_403 (s_X11_has e14) (by decide) rfl ?_
        obtain ⟨j16, ej17, h⟩ := xjn_e h
        have hj18 : j16  = some q → xG 1 0 0 mX11_isPeace 36 [vR 121, vI l1_1, vX, vI l3_3] [] 155 s4 (xRv (vI q) s4) := by
          intro  h
          rw [ej17] at h
          refine g_ic dX11_isPeace_36 ?_
          refine g_goto dX11_isPeace_37 (tgt := 41) rfl ?_
          exact hj9 1 h
        clear ej17
        refine g_yeq dX11_isPeace_22 (tgt := 36) rfl rfl (fun q19 => ?_) (fun q19 => ?_)
        · replace h := xif_f q19 h
          refine g_drop_2 ?_
          exact hj18  h
        · replace h := xif_t q19 h
          refine g_aln dX11_isPeace_25 rfl rfl (by decide) ?_
          refine g_getC 143 dX11_isPeace_26 fl_X11_95 rfl (by decide) ?_
          refine g_iln dX11_isPeace_29 rfl rfl ?_
          obtain ⟨hg20, h⟩ := xgd_e h
          refine g_iald 8 dX11_isPeace_30 rfl hg20 (by decide) ?_
          refine g_iln dX11_isPeace_31 rfl rfl ?_
          refine g_iand dX11_isPeace_32 ?_
          refine g_yne dX11_isPeace_33 (tgt := 40) rfl rfl (fun q21 => ?_) (fun q21 => ?_)
          · replace h := xif_f q21 h
            refine g_drop_2 ?_
            exact hj12  h
          · replace h := xif_t q21 h
            refine g_drop_2 ?_
            exact hj18  h
theorem s_X11_isPeace {a1 : Int} {s0 : xW} {q : Int} (h : F_X11_isPeace a1 s0 = some q) : xC 1 0 0 mX11_isPeace [vR 121, vI a1] 155 s0 (xRv (vI q) s0) := by
  refine xC.of [vR 121, vI a1, vX, vX] (by decide +kernel) (Nat.le_of_ble_eq_true rfl) rfl ?_
  unfold F_X11_isPeace at h
  refine g_ic dX11_isPeace_0 ?_
  refine g_istn_2 dX11_isPeace_1 (by decide) rfl ?_
  refine g_ic dX11_isPeace_2 ?_
  refine g_istn_3 dX11_isPeace_3 (by decide) rfl ?_
  refine s_X11_isPeace_4 (fun l2_24 l3_25 h => ?_) xN _ _ h
  refine g_iln dX11_isPeace_48 rfl rfl ?_
  obtain ⟨hg26, h⟩ := xgd_e h
  exact g_pZ rfl dX11_isPeace_49 hg26 h
