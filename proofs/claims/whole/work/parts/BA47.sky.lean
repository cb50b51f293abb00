/-! winds, damps -/
theorem xfm_n1 (σ : xW) : xfm [(1, 1)] σ (xu σ 1 1 0) := by
  intro c k h1 h2
  unfold xu
  rw [if_neg (fun w => h1 (by rw [w.1, w.2]; exact List.mem_singleton_self _))]
theorem reads_m {n c : Int} {f : Int → Int} {τ : xW} (hn : 0 ≤ n ∧ n ≤ 80) (hc : 0 ≤ c ∧ c ≤ n ∧ c ≤ 20) (hf : ∀ x : Int, 0 ≤ x → x < n → 0 ≤ f x ∧ f x ≤ 255) (hd : ∀ x : Int, 0 ≤ x → x < c → 48 ≤ f x ∧ f x ≤ 57) (he : c = n ∨ c = 20 ∨ ¬ (48 ≤ f c ∧ f c ≤ 57)) (e15 : τ 121 15 = n) (e129 : ∀ x : Int, 0 ≤ x → x < n → τ 129 x = f x) : ∃ s', F_X11_readsDigits τ = some (if c = 0 ∨ c < n then -1 - c else c, s') ∧ s' 121 15 = 0 ∧ (∀ x : Int, 0 ≤ x → x < c → s' 130 x = f x - 48) := by
  have hN := xN_ge
  obtain ⟨s', w1, w2, w3, w4, w5⟩ := digits_loopM (k := fun (l1_18 : Int) (s19 : xW) => some ((if (xw l1_18) ≠ 0 then if (xw (s19 121 16)) < (xw (s19 121 17)) then ((-1) - (s19 121 16)) else l1_18 else ((-1) - (s19 121 16))), s19)) hn hc hf hd he c.toNat 0 xN (xu (xu (xu (xu τ 121 15 0) 121 16 0) 121 18 0) 121 17 n) (by omega) (by omega) (by simp [xu]) (by simp [xu]) (fun x x1 x2 => by rw [← e129 x x1 x2]; simp [xu]) (fun x x1 x2 => by omega)
  refine ⟨s', ?_, by rw [w2]; simp [xu], w5⟩
  unfold F_X11_readsDigits F_X11_begins
  simp only [xbp_s, xbd_s, xls, xli, xlt, xjn]
  rw [e15, xw_sm (x := n) (by omega) (by omega), show xw 80 = 80 by decide, Int.min_eq_left hn.2]
  refine Eq.trans w1 ?_
  rw [w3, w4, xw_sm (x := c) (by omega) (by omega), xw_sm (x := n) (by omega) (by omega)]
  by_cases z : c = 0
  · rw [if_neg (fun w => w z), if_pos (Or.inl z)]
  · rw [if_pos (show c ≠ 0 from z)]
    by_cases z2 : c < n
    · rw [if_pos z2, if_pos (Or.inr z2)]
    · rw [if_neg z2, if_neg (by omega)]
theorem copy_winds {r : Int} {s0 : xW} {k : Int → xW → Option (Int × xW)} (hr : 0 ≤ r ∧ r ≤ 20) :
    ∀ (j i fu : Nat) (s : xW), (i : Int) + j = r → j < fu → (∀ c : Int, c ≠ 123 → s c = s0 c) → (∀ x : Int, 0 ≤ x → x < i → s 123 x = s0 130 x) → ∃ s', F_X11_winds_23 r fu (i : Int) s k = k r s' ∧ (∀ c : Int, c ≠ 123 → s' c = s0 c) ∧ (∀ x : Int, 0 ≤ x → x < r → s' 123 x = s0 130 x) := by
  intro j
  induction j with
  | zero =>
    intro i fu s hi hfu hc hx
    obtain ⟨fu, rfl⟩ : ∃ g, fu = g + 1 := ⟨fu - 1, by omega⟩
    have ei : (i : Int) = r := by omega
    rw [ei] at hx
    refine ⟨s, ?_, hc, hx⟩
    rw [ei, F_X11_winds_23, if_neg (Int.lt_irrefl _)]
  | succ j ih =>
    intro i fu s hi hfu hc hx
    obtain ⟨fu, rfl⟩ : ∃ g, fu = g + 1 := ⟨fu - 1, by omega⟩
    rw [F_X11_winds_23, xw_sm (x := (i : Int)) (by omega) (by omega), xw_sm (x := r) (by omega) (by omega), if_pos (by omega), xgd_t (by omega), xgd_t (by omega), xls, hc 130 (by decide), show ((i : Int) + 1) = ((i + 1 : Nat) : Int) by omega]
    refine ih (i + 1) fu _ (by omega) (by omega) (fun c z => by rw [xu_row _ _ _ z]; exact hc c z) (fun x x1 x2 => ?_)
    by_cases z : x = i
    · rw [z, xu_same]
    · rw [xu_slot _ _ _ z]
      exact hx x x1 (by omega)
theorem op_winds : XO F_X10_winds F_X11_winds := by
  intro B σ τ hB hB1 hR
  have hN := xN_ge
  obtain ⟨c, hc, hd, he⟩ := lead (σ 2) (n := σ 1 1) hR.1.1.1
  obtain ⟨sM, m1, m2, m3⟩ := reads_m (τ := xu τ 121 0 0) (n := σ 1 1) (f := σ 2) hR.1.1 hc (fun x _ _ => hR.1.2.1 x) hd he (by rw [xu_slot _ _ _ (show (15 : Int) ≠ 0 by decide)]; exact hR.1.2.2.1) (fun x x1 x2 => by rw [xu_row _ _ _ (show (129 : Int) ≠ 121 by decide)]; exact hR.1.2.2.2 x x1 x2)
  by_cases z : c = 0 ∨ c < σ 1 1
  · rw [if_pos z] at m1
    have eC : F_X10_winds σ = some (-1 - c, xu σ 1 1 0) := by
      unfold F_X10_winds
      rw [read_bad (Or.inl rfl) hR.1.1 hR.1.2.1 hc hd he (by omega)]
      simp only [xbp_s, xbd_s, xls, xli, xlt, xjn]
    have eM : F_X11_winds τ = some (-1 - c, sM) := by
      unfold F_X11_winds
      simp only [xbp_s, xbd_s, xls, xli, xlt, xjn]
      rw [m1]
      simp only [xbp_s, xbd_s, xls, xli, xlt, xjn]
      rw [xw_sm (x := -1 - c) (by omega) (by omega), if_pos (by omega)]
    refine ⟨_, _, _, eC, eM, ?_⟩
    have hfC := xfm_n1 σ
    have hfM := fr_X11_readsDigits m1
    obtain ⟨h1, h2, h3, h4, h5, h6, h7, h8, h9, h10⟩ := XR_thr hR
    refine XR_mono (show _ ≤ B + 300 by omega) ⟨?_, Xrow_cW hfC (by decide +kernel) (Xrow_mW hfM (by decide +kernel) h2), Xsky_cW hfC (by decide +kernel) (Xsky_mW hfM (by decide +kernel) h3), Xrule_cW hfC (by decide +kernel) (Xrule_mW hfM (by decide +kernel) h4), Xplan_cW hfC (by decide +kernel) (Xplan_mW hfM (by decide +kernel) h5), Xtown_cW hfC (by decide +kernel) (Xtown_mW hfM (by decide +kernel) h6), Xpast_cW hfC (by decide +kernel) (Xpast_mW hfM (by decide +kernel) h7), Xkept_cW hfC (by decide +kernel) (Xkept_mW hfM (by decide +kernel) h8), Xrep_cW hfC (by decide +kernel) (Xrep_mW hfM (by decide +kernel) h9), Xforts_cW hfC (by decide +kernel) h10⟩
    refine ⟨?_, fun i => ?_, ?_, fun i x y => ?_⟩
    · rw [xu_same]; omega
    · rw [xu_row _ _ _ (show (2 : Int) ≠ 1 by decide)]
      exact hR.1.2.1 i
    · rw [xu_same]; exact m2
    · rw [xu_same] at y; omega
  · have hcn : c = σ 1 1 := by omega
    rw [if_neg z, hcn] at m1
    rw [hcn] at m3
    obtain ⟨sC, g1, g2, g3, g4, g5⟩ := read_good (l := 5) (Or.inl rfl) hR.1.1 hR.1.2.1 (by omega) (by rw [← hcn]; exact hd) (by omega)
    obtain ⟨t', w1, w2, w3⟩ := copy_winds (r := σ 1 1) (s0 := xu sM 121 6 (σ 1 1)) (k := fun (l2_19 : Int) (s20 : xW) => some (σ 1 1, s20)) (by omega) (σ 1 1).toNat 0 xN (xu sM 121 6 (σ 1 1)) (by omega) (by omega) (fun _ _ => rfl) (fun x x1 x2 => by omega)
    have eC : F_X10_winds σ = some (σ 1 1, sC) := by
      unfold F_X10_winds
      rw [g1]
      simp only [xbp_s, xbd_s, xls, xli, xlt, xjn]
    have eM : F_X11_winds τ = some (σ 1 1, t') := by
      unfold F_X11_winds
      simp only [xbp_s, xbd_s, xls, xli, xlt, xjn]
      rw [m1]
      simp only [xbp_s, xbd_s, xls, xli, xlt, xjn]
      rw [xw_sm (x := σ 1 1) (by omega) (by omega), if_neg (by omega)]
      exact w1
    refine ⟨_, _, _, eC, eM, ?_⟩
    have hfC := fr_X10_winds eC
    have hfM := fr_X11_winds eM
    have a1 : t' 121 = xu sM 121 6 (σ 1 1) 121 := w2 121 (by decide)
    have a2 : ∀ x : Int, 0 ≤ x → x < σ 1 1 → t' 123 x = σ 2 x - 48 := fun x x1 x2 => by
      rw [w3 x x1 x2, xu_row _ _ _ (show (130 : Int) ≠ 121 by decide)]
      exact m3 x x1 x2
    obtain ⟨h1, h2, h3, h4, h5, h6, h7, h8, h9, h10⟩ := id hR
    refine XR_mono (show _ ≤ B + 300 by omega) ⟨?_, Xrow_cW hfC (by decide +kernel) (Xrow_mW hfM (by decide +kernel) h2), ?_, Xrule_cW hfC (by decide +kernel) (Xrule_mW hfM (by decide +kernel) h4), Xplan_cW hfC (by decide +kernel) (Xplan_mW hfM (by decide +kernel) h5), Xtown_cW hfC (by decide +kernel) (Xtown_mW hfM (by decide +kernel) h6), Xpast_cW hfC (by decide +kernel) (Xpast_mW hfM (by decide +kernel) h7), Xkept_cW hfC (by decide +kernel) (Xkept_mW hfM (by decide +kernel) h8), Xrep_cW hfC (by decide +kernel) (Xrep_mW hfM (by decide +kernel) h9), Xforts_cW hfC (by decide +kernel) h10⟩
    · refine ⟨?_, fun i => ?_, ?_, fun i x y => ?_⟩
      · show 0 ≤ sC 1 1 ∧ sC 1 1 ≤ 80
        rw [g2]; omega
      · show 0 ≤ sC 2 i ∧ sC 2 i ≤ 255
        rw [g3]
        exact h1.2.1 i
      · show t' 121 15 = sC 1 1
        rw [g2, a1, xu_slot _ _ _ (show (15 : Int) ≠ 6 by decide)]
        exact m2
      · have y' : i < sC 1 1 := y
        rw [g2] at y'
        omega
    · obtain ⟨⟨b1, b2, b3, b4⟩, d1⟩ := id h3
      have o1 : sC 7 = σ 7 := xfm_cell hfC (by decide +kernel)
      have o2 : sC 8 = σ 8 := xfm_cell hfC (by decide +kernel)
      have o3 : t' 121 7 = τ 121 7 := xfm_slot hfM (by decide +kernel)
      have o4 : t' 124 = τ 124 := xfm_cell hfM (by decide +kernel)
      refine ⟨⟨?_, fun i => ?_, ?_, fun i x y => ?_⟩, ?_⟩
      · show 1 ≤ sC 5 1 ∧ sC 5 1 ≤ 20
        rw [g4]; omega
      · show 0 ≤ sC 6 i ∧ sC 6 i ≤ 9
        rw [show (6 : Int) = 5 + 1 by rfl, g5 i]
        by_cases w : 0 ≤ i ∧ i < σ 1 1
        · have := hd i w.1 (by omega)
          rw [if_pos w]; omega
        · rw [if_neg w]; exact b2 i
      · show t' 121 6 = sC 5 1
        rw [g4, a1, xu_same]
      · have y' : i < sC 5 1 := y
        rw [g4] at y'
        show t' 123 i = sC 6 i
        rw [a2 i x y', show (6 : Int) = 5 + 1 by rfl, g5 i, if_pos ⟨x, y'⟩]
      · show Xdig (sC 7 1) (sC 8) (t' 121 7) (t' 124)
        rw [o1, o2, o3, o4]
        exact d1
theorem copy_damps {r : Int} {s0 : xW} {k : Int → xW → Option (Int × xW)} (hr : 0 ≤ r ∧ r ≤ 20) :
    ∀ (j i fu : Nat) (s : xW), (i : Int) + j = r → j < fu → (∀ c : Int, c ≠ 124 → s c = s0 c) → (∀ x : Int, 0 ≤ x → x < i → s 124 x = s0 130 x) → ∃ s', F_X11_damps_23 r fu (i : Int) s k = k r s' ∧ (∀ c : Int, c ≠ 124 → s' c = s0 c) ∧ (∀ x : Int, 0 ≤ x → x < r → s' 124 x = s0 130 x) := by
  intro j
  induction j with
  | zero =>
    intro i fu s hi hfu hc hx
    obtain ⟨fu, rfl⟩ : ∃ g, fu = g + 1 := ⟨fu - 1, by omega⟩
    have ei : (i : Int) = r := by omega
    rw [ei] at hx
    refine ⟨s, ?_, hc, hx⟩
    rw [ei, F_X11_damps_23, if_neg (Int.lt_irrefl _)]
  | succ j ih =>
    intro i fu s hi hfu hc hx
    obtain ⟨fu, rfl⟩ : ∃ g, fu = g + 1 := ⟨fu - 1, by omega⟩
    rw [F_X11_damps_23, xw_sm (x := (i : Int)) (by omega) (by omega), xw_sm (x := r) (by omega) (by omega), if_pos (by omega), xgd_t (by omega), xgd_t (by omega), xls, hc 130 (by decide), show ((i : Int) + 1) = ((i + 1 : Nat) : Int) by omega]
    refine ih (i + 1) fu _ (by omega) (by omega) (fun c z => by rw [xu_row _ _ _ z]; exact hc c z) (fun x x1 x2 => ?_)
    by_cases z : x = i
    · rw [z, xu_same]
    · rw [xu_slot _ _ _ z]
      exact hx x x1 (by omega)
theorem op_damps : XO F_X10_damps F_X11_damps := by
  intro B σ τ hB hB1 hR
  have hN := xN_ge
  obtain ⟨c, hc, hd, he⟩ := lead (σ 2) (n := σ 1 1) hR.1.1.1
  obtain ⟨sM, m1, m2, m3⟩ := reads_m (τ := xu τ 121 0 0) (n := σ 1 1) (f := σ 2) hR.1.1 hc (fun x _ _ => hR.1.2.1 x) hd he (by rw [xu_slot _ _ _ (show (15 : Int) ≠ 0 by decide)]; exact hR.1.2.2.1) (fun x x1 x2 => by rw [xu_row _ _ _ (show (129 : Int) ≠ 121 by decide)]; exact hR.1.2.2.2 x x1 x2)
  by_cases z : c = 0 ∨ c < σ 1 1
  · rw [if_pos z] at m1
    have eC : F_X10_damps σ = some (-1 - c, xu σ 1 1 0) := by
      unfold F_X10_damps
      rw [read_bad (Or.inr rfl) hR.1.1 hR.1.2.1 hc hd he (by omega)]
      simp only [xbp_s, xbd_s, xls, xli, xlt, xjn]
    have eM : F_X11_damps τ = some (-1 - c, sM) := by
      unfold F_X11_damps
      simp only [xbp_s, xbd_s, xls, xli, xlt, xjn]
      rw [m1]
      simp only [xbp_s, xbd_s, xls, xli, xlt, xjn]
      rw [xw_sm (x := -1 - c) (by omega) (by omega), if_pos (by omega)]
    refine ⟨_, _, _, eC, eM, ?_⟩
    have hfC := xfm_n1 σ
    have hfM := fr_X11_readsDigits m1
    obtain ⟨h1, h2, h3, h4, h5, h6, h7, h8, h9, h10⟩ := XR_thr hR
    refine XR_mono (show _ ≤ B + 300 by omega) ⟨?_, Xrow_cW hfC (by decide +kernel) (Xrow_mW hfM (by decide +kernel) h2), Xsky_cW hfC (by decide +kernel) (Xsky_mW hfM (by decide +kernel) h3), Xrule_cW hfC (by decide +kernel) (Xrule_mW hfM (by decide +kernel) h4), Xplan_cW hfC (by decide +kernel) (Xplan_mW hfM (by decide +kernel) h5), Xtown_cW hfC (by decide +kernel) (Xtown_mW hfM (by decide +kernel) h6), Xpast_cW hfC (by decide +kernel) (Xpast_mW hfM (by decide +kernel) h7), Xkept_cW hfC (by decide +kernel) (Xkept_mW hfM (by decide +kernel) h8), Xrep_cW hfC (by decide +kernel) (Xrep_mW hfM (by decide +kernel) h9), Xforts_cW hfC (by decide +kernel) h10⟩
    refine ⟨?_, fun i => ?_, ?_, fun i x y => ?_⟩
    · rw [xu_same]; omega
    · rw [xu_row _ _ _ (show (2 : Int) ≠ 1 by decide)]
      exact hR.1.2.1 i
    · rw [xu_same]; exact m2
    · rw [xu_same] at y; omega
  · have hcn : c = σ 1 1 := by omega
    rw [if_neg z, hcn] at m1
    rw [hcn] at m3
    obtain ⟨sC, g1, g2, g3, g4, g5⟩ := read_good (l := 7) (Or.inr rfl) hR.1.1 hR.1.2.1 (by omega) (by rw [← hcn]; exact hd) (by omega)
    obtain ⟨t', w1, w2, w3⟩ := copy_damps (r := σ 1 1) (s0 := xu sM 121 7 (σ 1 1)) (k := fun (l2_19 : Int) (s20 : xW) => some (σ 1 1, s20)) (by omega) (σ 1 1).toNat 0 xN (xu sM 121 7 (σ 1 1)) (by omega) (by omega) (fun _ _ => rfl) (fun x x1 x2 => by omega)
    have eC : F_X10_damps σ = some (σ 1 1, sC) := by
      unfold F_X10_damps
      rw [g1]
      simp only [xbp_s, xbd_s, xls, xli, xlt, xjn]
    have eM : F_X11_damps τ = some (σ 1 1, t') := by
      unfold F_X11_damps
      simp only [xbp_s, xbd_s, xls, xli, xlt, xjn]
      rw [m1]
      simp only [xbp_s, xbd_s, xls, xli, xlt, xjn]
      rw [xw_sm (x := σ 1 1) (by omega) (by omega), if_neg (by omega)]
      exact w1
    refine ⟨_, _, _, eC, eM, ?_⟩
    have hfC := fr_X10_damps eC
    have hfM := fr_X11_damps eM
    have a1 : t' 121 = xu sM 121 7 (σ 1 1) 121 := w2 121 (by decide)
    have a2 : ∀ x : Int, 0 ≤ x → x < σ 1 1 → t' 124 x = σ 2 x - 48 := fun x x1 x2 => by
      rw [w3 x x1 x2, xu_row _ _ _ (show (130 : Int) ≠ 121 by decide)]
      exact m3 x x1 x2
    obtain ⟨h1, h2, h3, h4, h5, h6, h7, h8, h9, h10⟩ := id hR
    refine XR_mono (show _ ≤ B + 300 by omega) ⟨?_, Xrow_cW hfC (by decide +kernel) (Xrow_mW hfM (by decide +kernel) h2), ?_, Xrule_cW hfC (by decide +kernel) (Xrule_mW hfM (by decide +kernel) h4), Xplan_cW hfC (by decide +kernel) (Xplan_mW hfM (by decide +kernel) h5), Xtown_cW hfC (by decide +kernel) (Xtown_mW hfM (by decide +kernel) h6), Xpast_cW hfC (by decide +kernel) (Xpast_mW hfM (by decide +kernel) h7), Xkept_cW hfC (by decide +kernel) (Xkept_mW hfM (by decide +kernel) h8), Xrep_cW hfC (by decide +kernel) (Xrep_mW hfM (by decide +kernel) h9), Xforts_cW hfC (by decide +kernel) h10⟩
    · refine ⟨?_, fun i => ?_, ?_, fun i x y => ?_⟩
      · show 0 ≤ sC 1 1 ∧ sC 1 1 ≤ 80
        rw [g2]; omega
      · show 0 ≤ sC 2 i ∧ sC 2 i ≤ 255
        rw [g3]
        exact h1.2.1 i
      · show t' 121 15 = sC 1 1
        rw [g2, a1, xu_slot _ _ _ (show (15 : Int) ≠ 7 by decide)]
        exact m2
      · have y' : i < sC 1 1 := y
        rw [g2] at y'
        omega
    · obtain ⟨d1, ⟨b1, b2, b3, b4⟩⟩ := id h3
      have o1 : sC 5 = σ 5 := xfm_cell hfC (by decide +kernel)
      have o2 : sC 6 = σ 6 := xfm_cell hfC (by decide +kernel)
      have o3 : t' 121 6 = τ 121 6 := xfm_slot hfM (by decide +kernel)
      have o4 : t' 123 = τ 123 := xfm_cell hfM (by decide +kernel)
      refine ⟨?_, ⟨?_, fun i => ?_, ?_, fun i x y => ?_⟩⟩
      · show Xdig (sC 5 1) (sC 6) (t' 121 6) (t' 123)
        rw [o1, o2, o3, o4]
        exact d1
      · show 1 ≤ sC 7 1 ∧ sC 7 1 ≤ 20
        rw [g4]; omega
      · show 0 ≤ sC 8 i ∧ sC 8 i ≤ 9
        rw [show (8 : Int) = 7 + 1 by rfl, g5 i]
        by_cases w : 0 ≤ i ∧ i < σ 1 1
        · have := hd i w.1 (by omega)
          rw [if_pos w]; omega
        · rw [if_neg w]; exact b2 i
      · show t' 121 7 = sC 7 1
        rw [g4, a1, xu_same]
      · have y' : i < sC 7 1 := y
        rw [g4] at y'
        show t' 124 i = sC 8 i
        rw [a2 i x y', show (8 : Int) = 7 + 1 by rfl, g5 i, if_pos ⟨x, y'⟩]
