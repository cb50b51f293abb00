/-! sign -/
theorem bv_byte (x : BitVec 32) (k : Nat) (h : k ≤ 24) : (x.sshiftRight k) &&& 255#32 = (x >>> k) &&& 255#32 := by
  apply BitVec.eq_of_getLsbD_eq
  intro i hi
  rw [BitVec.getLsbD_and, BitVec.getLsbD_and]
  by_cases z : i < 8
  · rw [BitVec.getLsbD_sshiftRight, BitVec.getLsbD_ushiftRight]
    simp only [show ¬ 32 ≤ i by omega, show k + i < 32 by omega, if_true, decide_false, Bool.not_false, Bool.true_and]
  · have : (255#32).getLsbD i = false := by
      rw [BitVec.getLsbD_ofNat, show (255 : Nat) = 2 ^ 8 - 1 from rfl, Nat.testBit_two_pow_sub_one]
      simp [z]
    rw [this, Bool.and_false, Bool.and_false]
theorem bv_255 (x : BitVec 32) : (x &&& 255#32).toNat ≤ 255 := by
  rw [BitVec.toNat_and]
  exact Nat.and_le_right
theorem xand_255 (a : Int) : 0 ≤ xand a 255 ∧ xand a 255 ≤ 255 := by
  have h := bv_255 (Int32.ofInt a).toBitVec
  have e : xand a 255 = (((Int32.ofInt a).toBitVec &&& 255#32).toNat : Int) := by
    show ((Int32.ofInt a).toBitVec &&& 255#32).toInt = _
    rw [BitVec.toInt_eq_toNat_cond, if_pos (by omega)]
  rw [e]
  omega
theorem xi2c_sm {v : Int} (h : 0 ≤ v ∧ v ≤ 255) : xi2c v = v := by
  obtain ⟨n, rfl⟩ : ∃ n : Nat, v = n := ⟨v.toNat, by omega⟩
  have : ∀ m : Fin 256, xi2c (m.val : Int) = (m.val : Int) := by decide +kernel
  exact this ⟨n, by omega⟩
theorem xbyte_s (u : Int32) (k : Nat) (hk : k = 0 ∨ k = 8 ∨ k = 16 ∨ k = 24) : (u >>> (Int32.ofInt k &&& 31)).toBitVec = u.toBitVec.sshiftRight k := by
  rcases hk with rfl | rfl | rfl | rfl <;> rfl
theorem xbyte_u (u : Int32) (k : Nat) (hk : k = 0 ∨ k = 8 ∨ k = 16 ∨ k = 24) : ((u.toUInt32 >>> ((Int32.ofInt k).toUInt32 &&& Int32.toUInt32 31)).toInt32).toBitVec = u.toBitVec >>> k := by
  rcases hk with rfl | rfl | rfl | rfl <;> rfl
theorem xbyte (a : Int) (k : Nat) (hk : k = 0 ∨ k = 8 ∨ k = 16 ∨ k = 24) : xand (xushr a k) 255 = xand (xshr a k) 255 := by
  have h := bv_byte (Int32.ofInt a).toBitVec k (by omega)
  rw [← xbyte_s _ k hk, ← xbyte_u _ k hk] at h
  unfold xand xushr xshr
  rw [Int32.ofInt_toInt, Int32.ofInt_toInt]
  exact congrArg BitVec.toInt h.symm
theorem sign_loopC {a m : Int} {s0 : xW} {K : Int → xW → Option (Int × xW)} (hm : 0 ≤ m ∧ m ≤ 76) :
    ∀ (j i : Nat) (s : xW) (fu : Nat), i + j = 4 → j < fu → s 1 1 = m + i → (∀ x : Int, s 2 x = if m ≤ x ∧ x < m + i then xand (xshr a (24 - 8 * (x - m))) 255 else s0 2 x) → ∃ s' v, F_X8_add_16 a fu (24 - 8 * (i : Int)) s K = K v s' ∧ s' 1 1 = m + 4 ∧ (∀ x : Int, s' 2 x = if m ≤ x ∧ x < m + 4 then xand (xshr a (24 - 8 * (x - m))) 255 else s0 2 x) := by
  intro j
  induction j with
  | zero =>
    intro i s fu hi hf hs ha
    obtain ⟨fu, rfl⟩ : ∃ g, fu = g + 1 := ⟨fu - 1, by omega⟩
    have h4 : (i : Int) = 4 := by omega
    rw [h4] at hs ha
    refine ⟨s, 24 - 8 * (i : Int), ?_, hs, ha⟩
    unfold F_X8_add_16
    rw [xw_sm (by omega) (by omega), if_neg (by omega)]
  | succ j ih =>
    intro i s fu hi hf hs ha
    obtain ⟨fu, rfl⟩ : ∃ g, fu = g + 1 := ⟨fu - 1, by omega⟩
    have hb : xi2c (xand (xushr a (24 - 8 * (i : Int))) 255) = xand (xshr a (24 - 8 * (i : Int))) 255 := by
      rw [show (24 - 8 * (i : Int)) = ((24 - 8 * i : Nat) : Int) by omega, xbyte a _ (by omega)]
      exact xi2c_sm (xand_255 _)
    have hv := xand_255 (xshr a (24 - 8 * (i : Int)))
    unfold F_X8_add_16
    simp only [xbp_s, xbd_s, xls, xli, xlt, xjn]
    rw [xw_sm (x := 24 - 8 * (i : Int)) (by omega) (by omega), if_pos (by omega), hs, xgd_t (by omega), hb, xgd_t (by omega), xu_row s _ _ (show (1 : Int) ≠ 2 by decide), hs, show (24 - 8 * (i : Int) + -8) = 24 - 8 * ((i + 1 : Nat) : Int) by omega]
    refine ih (i + 1) _ fu (by omega) (by omega) ?_ (fun x => ?_)
    · rw [xu_same]; omega
    · rw [xu_row _ _ _ (show (2 : Int) ≠ 1 by decide)]
      by_cases z : x = m + i
      · rw [z, xu_same, if_pos (by omega), show 24 - 8 * (m + (i : Int) - m) = 24 - 8 * (i : Int) by omega]
      · rw [xu_slot _ _ _ z, ha x]
        by_cases z2 : m ≤ x ∧ x < m + i
        · rw [if_pos z2, if_pos (by omega)]
        · rw [if_neg z2, if_neg (by omega)]
theorem sign_loopM {a m : Int} {s0 : xW} {K : Int → xW → Option (Int × xW)} (hm : 0 ≤ m ∧ m ≤ 76) :
    ∀ (j i : Nat) (s : xW) (fu : Nat), i + j = 4 → j < fu → s 121 15 = m → (∀ x : Int, s 129 x = if m ≤ x ∧ x < m + i then xand (xshr a (24 - 8 * (x - m))) 255 else s0 129 x) → ∃ s' v, F_X11_sign_18 a fu (i : Int) s K = K v s' ∧ s' 121 15 = m ∧ (∀ x : Int, s' 129 x = if m ≤ x ∧ x < m + 4 then xand (xshr a (24 - 8 * (x - m))) 255 else s0 129 x) := by
  intro j
  induction j with
  | zero =>
    intro i s fu hi hf hs ha
    obtain ⟨fu, rfl⟩ : ∃ g, fu = g + 1 := ⟨fu - 1, by omega⟩
    have h4 : (i : Int) = 4 := by omega
    rw [h4] at ha
    refine ⟨s, (i : Int), ?_, hs, ha⟩
    unfold F_X11_sign_18
    rw [xw_sm (by omega) (by omega), if_neg (by omega)]
  | succ j ih =>
    intro i s fu hi hf hs ha
    obtain ⟨fu, rfl⟩ : ∃ g, fu = g + 1 := ⟨fu - 1, by omega⟩
    unfold F_X11_sign_18
    simp only [xbp_s, xbd_s, xls, xli, xlt, xjn]
    rw [xw_sm (x := (i : Int)) (by omega) (by omega), if_pos (by omega), hs, xgd_t (by omega), show ((i : Int) + 1) = ((i + 1 : Nat) : Int) by omega]
    refine ih (i + 1) _ fu (by omega) (by omega) ?_ (fun x => ?_)
    · rw [xu_row _ _ _ (show (121 : Int) ≠ 129 by decide)]; exact hs
    · by_cases z : x = m + i
      · rw [z, xu_same, if_pos (by omega), show 24 - 8 * (m + (i : Int) - m) = 24 - 8 * (i : Int) by omega]
      · rw [xu_slot _ _ _ z, ha x]
        by_cases z2 : m ≤ x ∧ x < m + i
        · rw [if_pos z2, if_pos (by omega)]
        · rw [if_neg z2, if_neg (by omega)]
theorem op_sign {a : Int} : XO (F_X10_sign a) (F_X11_sign a) := by
  intro B σ τ hB hB1 hR
  obtain ⟨h1, h2, h3, h4, h5, h6, h7, h8, h9, h10⟩ := id hR
  obtain ⟨t1, t2, t3, t4⟩ := id h1
  have hn : (xu τ 121 0 0) 121 15 = σ 1 1 := t3
  have hxN := xN_ge
  by_cases q : σ 1 1 ≤ 76
  · obtain ⟨sC, v, b1, b2, b3⟩ := sign_loopC (a := a) (m := σ 1 1) (s0 := σ) (K := fun (l2 : Int) (s15 : xW) => some (1, s15)) (by omega) 4 0 σ xN (by omega) (by omega) (by omega) (fun x => by rw [if_neg (by omega)])
    obtain ⟨sM, v', d1, d2, d3⟩ := sign_loopM (a := a) (m := σ 1 1) (s0 := xu τ 121 0 0) (K := fun (l2 : Int) (s14 : xW) => some ((xu s14 121 15 (s14 121 15 + 4)) 121 15, xu s14 121 15 (s14 121 15 + 4))) (by omega) 4 0 (xu τ 121 0 0) xN (by omega) (by omega) hn (fun x => by rw [if_neg (by omega)])
    have e1 : F_X8_add a σ = some (1, sC) := by
      unfold F_X8_add
      rw [xw_sm (by omega) (by omega), if_neg (by omega)]
      exact b1
    have eC : F_X10_sign a σ = some (σ 1 1 + 4, sC) := by
      unfold F_X10_sign
      rw [e1]
      simp only [xbp_s, xbd_s, xls, xli, xlt, xjn]
      rw [if_pos (show xw 1 ≠ 0 by decide), b2]
    have eM : F_X11_sign a τ = some (σ 1 1 + 4, xu sM 121 15 (σ 1 1 + 4)) := by
      unfold F_X11_sign
      simp only [xbp_s, xbd_s, xls, xli, xlt, xjn]
      rw [hn, xw_sm (by omega) (by omega), if_neg (by omega)]
      refine Eq.trans d1 ?_
      rw [xu_same, d2]
    refine ⟨_, _, _, eC, eM, ?_⟩
    have hfC := fr_X10_sign eC
    have hfM := fr_X11_sign eM
    refine XR_mono (show _ ≤ B + 300 by omega) ⟨?_, Xrow_cW hfC (by decide +kernel) (Xrow_mW hfM (by decide +kernel) h2), Xsky_cW hfC (by decide +kernel) (Xsky_mW hfM (by decide +kernel) h3), Xrule_cW hfC (by decide +kernel) (Xrule_mW hfM (by decide +kernel) h4), Xplan_cW hfC (by decide +kernel) (Xplan_mW hfM (by decide +kernel) h5), Xtown_cW hfC (by decide +kernel) (Xtown_mW hfM (by decide +kernel) h6), Xpast_cW hfC (by decide +kernel) (Xpast_mW hfM (by decide +kernel) h7), Xkept_cW hfC (by decide +kernel) (Xkept_mW hfM (by decide +kernel) h8), Xrep_cW hfC (by decide +kernel) (Xrep_mW hfM (by decide +kernel) h9), Xforts_cW hfC (by decide +kernel) h10⟩
    refine ⟨?_, fun i => ?_, ?_, fun i x y => ?_⟩
    · show 0 ≤ sC 1 1 ∧ sC 1 1 ≤ 80
      rw [b2]; omega
    · show 0 ≤ sC 2 i ∧ sC 2 i ≤ 255
      rw [b3 i]
      split
      · exact xand_255 _
      · exact t2 i
    · show xu sM 121 15 (σ 1 1 + 4) 121 15 = sC 1 1
      rw [xu_same, b2]
    · have y' : i < sC 1 1 := y
      rw [b2] at y'
      show xu sM 121 15 (σ 1 1 + 4) 129 i = sC 2 i
      rw [xu_row _ _ _ (show (129 : Int) ≠ 121 by decide), d3 i, b3 i]
      by_cases z : σ 1 1 ≤ i ∧ i < σ 1 1 + 4
      · rw [if_pos z, if_pos z]
      · rw [if_neg z, if_neg z, xu_row _ _ _ (show (129 : Int) ≠ 121 by decide)]
        exact t4 i x (by omega)
  · refine ⟨-1, σ, xu τ 121 0 0, ?_, ?_, XR_mono (by omega) (XR_thr hR)⟩
    · have e1 : F_X8_add a σ = some (0, σ) := by
        unfold F_X8_add
        rw [xw_sm (by omega) (by omega), if_pos (by omega)]
      unfold F_X10_sign
      rw [e1]
      simp only [xbp_s, xbd_s, xls, xli, xlt, xjn]
      rw [if_neg (show ¬ xw 0 ≠ 0 by decide)]
    · unfold F_X11_sign
      simp only [xbp_s, xbd_s, xls, xli, xlt, xjn]
      rw [hn, xw_sm (by omega) (by omega), if_pos (by omega)]
