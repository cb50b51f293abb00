theorem dX8_clear_0 : decode cX8_clear 0 = .ok (.aload_n 0, 1) := by decide +kernel
theorem dX8_clear_1 : decode cX8_clear 1 = .ok (.iconst 0, 1) := by decide +kernel
theorem dX8_clear_2 : decode cX8_clear 2 = .ok (.putfield 15, 3) := by decide +kernel
theorem dX8_clear_5 : decode cX8_clear 5 = .ok (.return_, 1) := by decide +kernel
theorem dX8_cut_0 : decode cX8_cut 0 = .ok (.iload_n 1, 1) := by decide +kernel
theorem dX8_cut_1 : decode cX8_cut 1 = .ok (.ifCond .lt 11, 3) := by decide +kernel
theorem dX8_cut_4 : decode cX8_cut 4 = .ok (.iload_n 1, 1) := by decide +kernel
theorem dX8_cut_5 : decode cX8_cut 5 = .ok (.aload_n 0, 1) := by decide +kernel
theorem dX8_cut_6 : decode cX8_cut 6 = .ok (.getfield 15, 3) := by decide +kernel
theorem dX8_cut_9 : decode cX8_cut 9 = .ok (.if_icmp .le 5, 3) := by decide +kernel
theorem dX8_cut_12 : decode cX8_cut 12 = .ok (.iconst 0, 1) := by decide +kernel
theorem dX8_cut_13 : decode cX8_cut 13 = .ok (.ireturn, 1) := by decide +kernel
theorem dX8_cut_14 : decode cX8_cut 14 = .ok (.aload_n 0, 1) := by decide +kernel
theorem dX8_cut_15 : decode cX8_cut 15 = .ok (.iload_n 1, 1) := by decide +kernel
theorem dX8_cut_16 : decode cX8_cut 16 = .ok (.putfield 15, 3) := by decide +kernel
theorem dX8_cut_19 : decode cX8_cut 19 = .ok (.iconst 1, 1) := by decide +kernel
theorem dX8_cut_20 : decode cX8_cut 20 = .ok (.ireturn, 1) := by decide +kernel
theorem dX8_at_0 : decode cX8_at 0 = .ok (.iload_n 1, 1) := by decide +kernel
theorem dX8_at_1 : decode cX8_at 1 = .ok (.ifCond .lt 20, 3) := by decide +kernel
theorem dX8_at_4 : decode cX8_at 4 = .ok (.iload_n 1, 1) := by decide +kernel
theorem dX8_at_5 : decode cX8_at 5 = .ok (.aload_n 0, 1) := by decide +kernel
theorem dX8_at_6 : decode cX8_at 6 = .ok (.getfield 15, 3) := by decide +kernel
theorem dX8_at_9 : decode cX8_at 9 = .ok (.if_icmp .ge 12, 3) := by decide +kernel
theorem dX8_at_12 : decode cX8_at 12 = .ok (.aload_n 0, 1) := by decide +kernel
theorem dX8_at_13 : decode cX8_at 13 = .ok (.getfield 11, 3) := by decide +kernel
theorem dX8_at_16 : decode cX8_at 16 = .ok (.iload_n 1, 1) := by decide +kernel
theorem dX8_at_17 : decode cX8_at 17 = .ok (.caload, 1) := by decide +kernel
theorem dX8_at_18 : decode cX8_at 18 = .ok (.goto 4, 3) := by decide +kernel
theorem dX8_at_21 : decode cX8_at 21 = .ok (.iconst 0, 1) := by decide +kernel
theorem dX8_at_22 : decode cX8_at 22 = .ok (.ireturn, 1) := by decide +kernel
theorem dX8_digit_0 : decode cX8_digit 0 = .ok (.aload_n 0, 1) := by decide +kernel
theorem dX8_digit_1 : decode cX8_digit 1 = .ok (.iload_n 1, 1) := by decide +kernel
theorem dX8_digit_2 : decode cX8_digit 2 = .ok (.invokevirtual 19, 3) := by decide +kernel
theorem dX8_digit_5 : decode cX8_digit 5 = .ok (.istore_n 2, 1) := by decide +kernel
theorem dX8_digit_6 : decode cX8_digit 6 = .ok (.iload_n 2, 1) := by decide +kernel
theorem dX8_digit_7 : decode cX8_digit 7 = .ok (.bipush 48, 2) := by decide +kernel
theorem dX8_digit_9 : decode cX8_digit 9 = .ok (.if_icmp .lt 16, 3) := by decide +kernel
theorem dX8_digit_12 : decode cX8_digit 12 = .ok (.iload_n 2, 1) := by decide +kernel
theorem dX8_digit_13 : decode cX8_digit 13 = .ok (.bipush 57, 2) := by decide +kernel
theorem dX8_digit_15 : decode cX8_digit 15 = .ok (.if_icmp .gt 10, 3) := by decide +kernel
theorem dX8_digit_18 : decode cX8_digit 18 = .ok (.iload_n 2, 1) := by decide +kernel
theorem dX8_digit_19 : decode cX8_digit 19 = .ok (.bipush 48, 2) := by decide +kernel
theorem dX8_digit_21 : decode cX8_digit 21 = .ok (.isub, 1) := by decide +kernel
theorem dX8_digit_22 : decode cX8_digit 22 = .ok (.goto 4, 3) := by decide +kernel
theorem dX8_digit_25 : decode cX8_digit 25 = .ok (.iconst (-1), 1) := by decide +kernel
theorem dX8_digit_26 : decode cX8_digit 26 = .ok (.ireturn, 1) := by decide +kernel
theorem dX8_add_0 : decode cX8_add 0 = .ok (.aload_n 0, 1) := by decide +kernel
theorem dX8_add_1 : decode cX8_add 1 = .ok (.getfield 15, 3) := by decide +kernel
theorem dX8_add_4 : decode cX8_add 4 = .ok (.iconst 4, 1) := by decide +kernel
theorem dX8_add_5 : decode cX8_add 5 = .ok (.iadd, 1) := by decide +kernel
theorem dX8_add_6 : decode cX8_add 6 = .ok (.bipush 80, 2) := by decide +kernel
theorem dX8_add_8 : decode cX8_add 8 = .ok (.if_icmp .le 5, 3) := by decide +kernel
theorem dX8_add_11 : decode cX8_add 11 = .ok (.iconst 0, 1) := by decide +kernel
theorem dX8_add_12 : decode cX8_add 12 = .ok (.ireturn, 1) := by decide +kernel
theorem dX8_add_13 : decode cX8_add 13 = .ok (.bipush 24, 2) := by decide +kernel
theorem dX8_add_15 : decode cX8_add 15 = .ok (.istore_n 2, 1) := by decide +kernel
theorem dX8_add_16 : decode cX8_add 16 = .ok (.iload_n 2, 1) := by decide +kernel
theorem dX8_add_17 : decode cX8_add 17 = .ok (.ifCond .lt 36, 3) := by decide +kernel
theorem dX8_add_20 : decode cX8_add 20 = .ok (.aload_n 0, 1) := by decide +kernel
theorem dX8_add_21 : decode cX8_add 21 = .ok (.getfield 11, 3) := by decide +kernel
theorem dX8_add_24 : decode cX8_add 24 = .ok (.aload_n 0, 1) := by decide +kernel
theorem dX8_add_25 : decode cX8_add 25 = .ok (.getfield 15, 3) := by decide +kernel
theorem dX8_add_28 : decode cX8_add 28 = .ok (.iload_n 1, 1) := by decide +kernel
theorem dX8_add_29 : decode cX8_add 29 = .ok (.iload_n 2, 1) := by decide +kernel
theorem dX8_add_30 : decode cX8_add 30 = .ok (.iushr, 1) := by decide +kernel
theorem dX8_add_31 : decode cX8_add 31 = .ok (.sipush 255, 3) := by decide +kernel
theorem dX8_add_34 : decode cX8_add 34 = .ok (.iand, 1) := by decide +kernel
theorem dX8_add_35 : decode cX8_add 35 = .ok (.i2c, 1) := by decide +kernel
theorem dX8_add_36 : decode cX8_add 36 = .ok (.castore, 1) := by decide +kernel
theorem dX8_add_37 : decode cX8_add 37 = .ok (.aload_n 0, 1) := by decide +kernel
theorem dX8_add_38 : decode cX8_add 38 = .ok (.dup, 1) := by decide +kernel
theorem dX8_add_39 : decode cX8_add 39 = .ok (.getfield 15, 3) := by decide +kernel
theorem dX8_add_42 : decode cX8_add 42 = .ok (.iconst 1, 1) := by decide +kernel
theorem dX8_add_43 : decode cX8_add 43 = .ok (.iadd, 1) := by decide +kernel
theorem dX8_add_44 : decode cX8_add 44 = .ok (.putfield 15, 3) := by decide +kernel
theorem dX8_add_47 : decode cX8_add 47 = .ok (.iinc 2 (-8), 3) := by decide +kernel
theorem dX8_add_50 : decode cX8_add 50 = .ok (.goto (-34), 3) := by decide +kernel
theorem dX8_add_53 : decode cX8_add 53 = .ok (.iconst 1, 1) := by decide +kernel
theorem dX8_add_54 : decode cX8_add 54 = .ok (.ireturn, 1) := by decide +kernel
theorem dX6_clear_0 : decode cX6_clear 0 = .ok (.aload_n 0, 1) := by decide +kernel
theorem dX6_clear_1 : decode cX6_clear 1 = .ok (.iconst 0, 1) := by decide +kernel
theorem dX6_clear_2 : decode cX6_clear 2 = .ok (.putfield 13, 3) := by decide +kernel
theorem dX6_clear_5 : decode cX6_clear 5 = .ok (.return_, 1) := by decide +kernel
theorem dX6_add_0 : decode cX6_add 0 = .ok (.aload_n 0, 1) := by decide +kernel
theorem dX6_add_1 : decode cX6_add 1 = .ok (.getfield 13, 3) := by decide +kernel
theorem dX6_add_4 : decode cX6_add 4 = .ok (.bipush 16, 2) := by decide +kernel
theorem dX6_add_6 : decode cX6_add 6 = .ok (.if_icmp .ge 23, 3) := by decide +kernel
theorem dX6_add_9 : decode cX6_add 9 = .ok (.aload_n 0, 1) := by decide +kernel
theorem dX6_add_10 : decode cX6_add 10 = .ok (.getfield 9, 3) := by decide +kernel
theorem dX6_add_13 : decode cX6_add 13 = .ok (.aload_n 0, 1) := by decide +kernel
theorem dX6_add_14 : decode cX6_add 14 = .ok (.getfield 13, 3) := by decide +kernel
theorem dX6_add_17 : decode cX6_add 17 = .ok (.lload_n 1, 1) := by decide +kernel
theorem dX6_add_18 : decode cX6_add 18 = .ok (.lastore, 1) := by decide +kernel
theorem dX6_add_19 : decode cX6_add 19 = .ok (.aload_n 0, 1) := by decide +kernel
theorem dX6_add_20 : decode cX6_add 20 = .ok (.dup, 1) := by decide +kernel
theorem dX6_add_21 : decode cX6_add 21 = .ok (.getfield 13, 3) := by decide +kernel
theorem dX6_add_24 : decode cX6_add 24 = .ok (.iconst 1, 1) := by decide +kernel
theorem dX6_add_25 : decode cX6_add 25 = .ok (.iadd, 1) := by decide +kernel
theorem dX6_add_26 : decode cX6_add 26 = .ok (.putfield 13, 3) := by decide +kernel
theorem dX6_add_29 : decode cX6_add 29 = .ok (.return_, 1) := by decide +kernel
theorem dX6_tell_0 : decode cX6_tell 0 = .ok (.aload_n 0, 1) := by decide +kernel
theorem dX6_tell_1 : decode cX6_tell 1 = .ok (.invokevirtual 17, 3) := by decide +kernel
theorem dX6_tell_4 : decode cX6_tell 4 = .ok (.aload_n 0, 1) := by decide +kernel
theorem dX6_tell_5 : decode cX6_tell 5 = .ok (.lload_n 1, 1) := by decide +kernel
theorem dX6_tell_6 : decode cX6_tell 6 = .ok (.invokevirtual 20, 3) := by decide +kernel
theorem dX6_tell_9 : decode cX6_tell 9 = .ok (.return_, 1) := by decide +kernel
theorem dX6_tell__0 : decode cX6_tell_ 0 = .ok (.aload_n 0, 1) := by decide +kernel
theorem dX6_tell__1 : decode cX6_tell_ 1 = .ok (.lload_n 1, 1) := by decide +kernel
theorem dX6_tell__2 : decode cX6_tell_ 2 = .ok (.invokevirtual 24, 3) := by decide +kernel
theorem dX6_tell__5 : decode cX6_tell_ 5 = .ok (.aload_n 0, 1) := by decide +kernel
theorem dX6_tell__6 : decode cX6_tell_ 6 = .ok (.lload_n 3, 1) := by decide +kernel
theorem dX6_tell__7 : decode cX6_tell_ 7 = .ok (.invokevirtual 20, 3) := by decide +kernel
theorem dX6_tell__10 : decode cX6_tell_ 10 = .ok (.return_, 1) := by decide +kernel
theorem dX6_tell___0 : decode cX6_tell__ 0 = .ok (.aload_n 0, 1) := by decide +kernel
theorem dX6_tell___1 : decode cX6_tell__ 1 = .ok (.lload_n 1, 1) := by decide +kernel
theorem dX6_tell___2 : decode cX6_tell__ 2 = .ok (.lload_n 3, 1) := by decide +kernel
theorem dX6_tell___3 : decode cX6_tell__ 3 = .ok (.invokevirtual 27, 3) := by decide +kernel
theorem dX6_tell___6 : decode cX6_tell__ 6 = .ok (.aload_n 0, 1) := by decide +kernel
theorem dX6_tell___7 : decode cX6_tell__ 7 = .ok (.lload 5, 2) := by decide +kernel
theorem dX6_tell___9 : decode cX6_tell__ 9 = .ok (.invokevirtual 20, 3) := by decide +kernel
theorem dX6_tell___12 : decode cX6_tell__ 12 = .ok (.return_, 1) := by decide +kernel
theorem c_X8_clear {σ : xW} : xC 0 0 0 mX8_clear [vR 1] 155 σ (xR0 (xu σ 1 1 0)) := by
  refine xC.of [vR 1] (by decide +kernel) (Nat.le_of_ble_eq_true rfl) rfl ?_
  refine g_aln dX8_clear_0 rfl rfl (by omega) ?_
  refine g_ic dX8_clear_1 ?_
  refine g_putI 1 dX8_clear_2 fl_X8_15 rfl rfl ?_
  refine g_retV rfl dX8_clear_5 ⟨rfl, rfl, rfl⟩
/-- THE TEXT of the class: its length, its signs -/
def xTx (σ : xW) : Prop := (0 ≤ σ 1 1 ∧ σ 1 1 ≤ 80) ∧ ∀ i, 0 ≤ σ 2 i ∧ σ 2 i ≤ 255
def xat (σ : xW) (p : Int) : Int := if 0 ≤ p ∧ p < σ 1 1 then σ 2 p else 0
theorem c_X8_at {σ : xW} {p : Int} (hT : xTx σ) (hp : I32 p) : xC 0 0 0 mX8_at [vR 1, vI p] 155 σ (xRv (vI (xat σ p)) σ) := by
  refine xC.of [vR 1, vI p] (by decide +kernel) (Nat.le_of_ble_eq_true rfl) rfl ?_
  obtain ⟨h1, h2⟩ := hT
  have h3 := h2 p
  unfold xat
  refine g_iln dX8_at_0 rfl rfl ?_
  refine g_zlt dX8_at_1 (tgt := 21) rfl (by omega) (fun q1 => ?_) (fun q1 => ?_)
  · skip
    refine g_ic dX8_at_21 ?_
    refine g_retC rfl dX8_at_22 (by omega) ⟨by split <;> first | rfl | omega, rfl, rfl⟩
  · skip
    refine g_iln dX8_at_4 rfl rfl ?_
    refine g_aln dX8_at_5 rfl rfl (by omega) ?_
    refine g_getI 1 dX8_at_6 fl_X8_15 rfl rfl ?_
    refine g_cge dX8_at_9 (tgt := 21) rfl (by omega) (by omega) (fun q9 => ?_) (fun q9 => ?_)
    · skip
      refine g_ic dX8_at_21 ?_
      refine g_retC rfl dX8_at_22 (by omega) ⟨by split <;> first | rfl | omega, rfl, rfl⟩
    · skip
      refine g_aln dX8_at_12 rfl rfl (by omega) ?_
      refine g_getC 2 dX8_at_13 fl_X8_11 rfl (by omega) ?_
      refine g_iln dX8_at_16 rfl rfl ?_
      refine g_cald 80 dX8_at_17 rfl (by omega) (by decide) ?_
      refine g_goto dX8_at_18 (tgt := 22) rfl ?_
      refine g_retC rfl dX8_at_22 (by omega) ⟨by split <;> first | rfl | omega, rfl, rfl⟩

def xdg (σ : xW) (p : Int) : Int := if 48 ≤ xat σ p ∧ xat σ p ≤ 57 then xat σ p - 48 else -1
theorem xat_r {σ : xW} (hT : xTx σ) (p : Int) : 0 ≤ xat σ p ∧ xat σ p ≤ 255 := by
  unfold xat
  split
  · exact hT.2 p
  · omega
theorem c_X8_digit {σ : xW} {p : Int} (hT : xTx σ) (hp : I32 p) : xC 1 0 0 mX8_digit [vR 1, vI p] 155 σ (xRv (vI (xdg σ p)) σ) := by
  refine xC.of [vR 1, vI p, vX] (by decide +kernel) (Nat.le_of_ble_eq_true rfl) rfl ?_
  have h3 := xat_r hT p
  unfold xdg
  refine g_aln dX8_digit_0 rfl rfl (by omega) ?_
  refine g_iln dX8_digit_1 rfl rfl ?_
  refine g_cV1v dX8_digit_2 ml_X8_19 rfl (c_X8_at hT hp) (by decide) rfl ?_
  refine g_istn_2 dX8_digit_5 (by decide) rfl ?_
  refine g_iln dX8_digit_6 rfl rfl ?_
  refine g_bi dX8_digit_7 (by decide) ?_
  refine g_clt dX8_digit_9 (tgt := 25) rfl (by omega) (by omega) (fun q9 => ?_) (fun q9 => ?_)
  · skip
    refine g_ic dX8_digit_25 ?_
    refine g_retI rfl dX8_digit_26 ⟨by split <;> first | rfl | omega, rfl, rfl⟩
  · skip
    refine g_iln dX8_digit_12 rfl rfl ?_
    refine g_bi dX8_digit_13 (by decide) ?_
    refine g_cgt dX8_digit_15 (tgt := 25) rfl (by omega) (by omega) (fun q15 => ?_) (fun q15 => ?_)
    · skip
      refine g_ic dX8_digit_25 ?_
      refine g_retI rfl dX8_digit_26 ⟨by split <;> first | rfl | omega, rfl, rfl⟩
    · skip
      refine g_iln dX8_digit_18 rfl rfl ?_
      refine g_bi dX8_digit_19 (by decide) ?_
      refine g_isub dX8_digit_21 ?_
      refine g_goto dX8_digit_22 (tgt := 26) rfl ?_
      refine g_retI rfl dX8_digit_26 ⟨by split <;> first | rfl | omega, rfl, rfl⟩
theorem c_X8_cut {σ : xW} {k : Int} (hT : xTx σ) (hk : I32 k) : xC 0 0 0 mX8_cut [vR 1, vI k] 155 σ (xRv (vI (if 0 ≤ k ∧ k ≤ σ 1 1 then 1 else 0)) (if 0 ≤ k ∧ k ≤ σ 1 1 then xu σ 1 1 k else σ)) := by
  refine xC.of [vR 1, vI k] (by decide +kernel) (Nat.le_of_ble_eq_true rfl) rfl ?_
  obtain ⟨h1, h2⟩ := hT
  refine g_iln dX8_cut_0 rfl rfl ?_
  refine g_zlt dX8_cut_1 (tgt := 12) rfl (by omega) (fun q1 => ?_) (fun q1 => ?_)
  · skip
    refine g_ic dX8_cut_12 ?_
    refine g_retZ rfl dX8_cut_13 (by omega) ⟨by split <;> first | rfl | omega, rfl, by split <;> first | rfl | omega⟩
  · skip
    refine g_iln dX8_cut_4 rfl rfl ?_
    refine g_aln dX8_cut_5 rfl rfl (by omega) ?_
    refine g_getI 1 dX8_cut_6 fl_X8_15 rfl rfl ?_
    refine g_cle dX8_cut_9 (tgt := 14) rfl (by omega) (by omega) (fun q9 => ?_) (fun q9 => ?_)
    · skip
      refine g_aln dX8_cut_14 rfl rfl (by omega) ?_
      refine g_iln dX8_cut_15 rfl rfl ?_
      refine g_putI 1 dX8_cut_16 fl_X8_15 rfl rfl ?_
      refine g_ic dX8_cut_19 ?_
      refine g_retZ rfl dX8_cut_20 (by omega) ⟨by split <;> first | rfl | omega, rfl, by split <;> first | rfl | omega⟩
    · skip
      refine g_ic dX8_cut_12 ?_
      refine g_retZ rfl dX8_cut_13 (by omega) ⟨by split <;> first | rfl | omega, rfl, by split <;> first | rfl | omega⟩
theorem c_X6_clear {σ : xW} : xC 0 0 0 mX6_clear [vR 3] 155 σ (xR0 (xu σ 3 1 0)) := by
  refine xC.of [vR 3] (by decide +kernel) (Nat.le_of_ble_eq_true rfl) rfl ?_
  refine g_aln dX6_clear_0 rfl rfl (by omega) ?_
  refine g_ic dX6_clear_1 ?_
  refine g_putI 1 dX6_clear_2 fl_X6_13 rfl rfl ?_
  refine g_retV rfl dX6_clear_5 ⟨rfl, rfl, rfl⟩
def xadd (σ : xW) (v : Int) : xW := if σ 3 1 < 16 then xu (xu σ 4 (σ 3 1) v) 3 1 (σ 3 1 + 1) else σ
theorem c_X6_add {σ : xW} {v : Int} (h : 0 ≤ σ 3 1 ∧ σ 3 1 ≤ 16) : xC 0 0 0 mX6_add [vR 3, vL v] 155 σ (xR0 (xadd σ v)) := by
  refine xC.of [vR 3, vL v, vX] (by decide +kernel) (Nat.le_of_ble_eq_true rfl) rfl ?_
  unfold xadd
  refine g_aln dX6_add_0 rfl rfl (by omega) ?_
  refine g_getI 1 dX6_add_1 fl_X6_13 rfl rfl ?_
  refine g_bi dX6_add_4 (by decide) ?_
  refine g_cge dX6_add_6 (tgt := 29) rfl (by omega) (by omega) (fun q6 => ?_) (fun q6 => ?_)
  · skip
    refine g_retV rfl dX6_add_29 ⟨rfl, rfl, by first | (rw [if_neg (by omega)]; done) | (rw [if_pos (by omega)]; simp [xu])⟩
  · skip
    refine g_aln dX6_add_9 rfl rfl (by omega) ?_
    refine g_getC 4 dX6_add_10 fl_X6_9 rfl (by omega) ?_
    refine g_aln dX6_add_13 rfl rfl (by omega) ?_
    refine g_getI 1 dX6_add_14 fl_X6_13 rfl rfl ?_
    refine g_lln dX6_add_17 rfl rfl ?_
    refine g_last 16 dX6_add_18 rfl (by omega) (by decide) ?_
    refine g_aln dX6_add_19 rfl rfl (by omega) ?_
    refine g_dup dX6_add_20 rfl ?_
    refine g_getI 1 dX6_add_21 fl_X6_13 rfl rfl ?_
    refine g_ic dX6_add_24 ?_
    refine g_iadd dX6_add_25 ?_
    refine g_putI 1 dX6_add_26 fl_X6_13 rfl rfl ?_
    refine g_retV rfl dX6_add_29 ⟨rfl, rfl, by first | (rw [if_neg (by omega)]; done) | (rw [if_pos (by omega)]; simp [xu])⟩
def xt1 (σ : xW) (a : Int) : xW := xu (xu σ 4 0 a) 3 1 1
def xt2 (σ : xW) (a b : Int) : xW := xu (xu (xu σ 4 0 a) 4 1 b) 3 1 2
def xt3 (σ : xW) (a b c : Int) : xW := xu (xu (xu (xu σ 4 0 a) 4 1 b) 4 2 c) 3 1 3
theorem c_X6_tell {σ : xW} {a : Int} : xC 1 0 0 mX6_tell [vR 3, vL a] 155 σ (xR0 (xt1 σ a)) := by
  refine xC.of [vR 3, vL a, vX] (by decide +kernel) (Nat.le_of_ble_eq_true rfl) rfl ?_
  refine g_aln dX6_tell_0 rfl rfl (by omega) ?_
  refine g_cV00 dX6_tell_1 ml_X6_17 rfl (c_X6_clear) (by decide) rfl ?_
  refine g_aln dX6_tell_4 rfl rfl (by omega) ?_
  refine g_lln dX6_tell_5 rfl rfl ?_
  refine g_cV10 dX6_tell_6 ml_X6_20 rfl (c_X6_add (by simp [xu])) (by decide) rfl ?_
  refine g_retV rfl dX6_tell_9 ⟨rfl, rfl, by unfold xadd xt1; funext c k; grind [xu]⟩
theorem c_X6_tell_ {σ : xW} {a b : Int} : xC 2 0 0 mX6_tell_ [vR 3, vL a, vL b] 155 σ (xR0 (xt2 σ a b)) := by
  refine xC.of [vR 3, vL a, vX, vL b, vX] (by decide +kernel) (Nat.le_of_ble_eq_true rfl) rfl ?_
  refine g_aln dX6_tell__0 rfl rfl (by omega) ?_
  refine g_lln dX6_tell__1 rfl rfl ?_
  refine g_cV10 dX6_tell__2 ml_X6_24 rfl (c_X6_tell) (by decide) rfl ?_
  refine g_aln dX6_tell__5 rfl rfl (by omega) ?_
  refine g_lln dX6_tell__6 rfl rfl ?_
  refine g_cV10 dX6_tell__7 ml_X6_20 rfl (c_X6_add (by simp [xu, xt1])) (by decide) rfl ?_
  refine g_retV rfl dX6_tell__10 ⟨rfl, rfl, by unfold xadd xt1 xt2; funext c k; grind [xu]⟩
theorem c_X6_tell__ {σ : xW} {a b c : Int} : xC 3 0 0 mX6_tell__ [vR 3, vL a, vL b, vL c] 155 σ (xR0 (xt3 σ a b c)) := by
  refine xC.of [vR 3, vL a, vX, vL b, vX, vL c, vX] (by decide +kernel) (Nat.le_of_ble_eq_true rfl) rfl ?_
  refine g_aln dX6_tell___0 rfl rfl (by omega) ?_
  refine g_lln dX6_tell___1 rfl rfl ?_
  refine g_lln dX6_tell___2 rfl rfl ?_
  refine g_cV20 dX6_tell___3 ml_X6_27 rfl (c_X6_tell_) (by decide) rfl ?_
  refine g_aln dX6_tell___6 rfl rfl (by omega) ?_
  refine g_ll dX6_tell___7 rfl ?_
  refine g_cV10 dX6_tell___9 ml_X6_20 rfl (c_X6_add (by simp [xu, xt2])) (by decide) rfl ?_
  refine g_retV rfl dX6_tell___12 ⟨rfl, rfl, by unfold xadd xt2 xt3; funext c k; grind [xu]⟩
