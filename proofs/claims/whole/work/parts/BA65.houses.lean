/-! houses -/
theorem readHouses_c {nh c : Int} {σ : xW} (h : 0 ≤ σ 1 1 ∧ σ 1 1 ≤ 80) (hb : ∀ i : Int, 0 ≤ σ 2 i ∧ σ 2 i ≤ 255) (e0 : σ 0 14 = nh) (hn : 0 ≤ nh ∧ nh ≤ 8) (hc : 0 ≤ c ∧ c ≤ σ 1 1 ∧ c ≤ 23) (hf : ∀ i : Int, 0 ≤ i → i < c → xhfit nh (σ 2) i) (he : c = σ 1 1 ∨ c = 23 ∨ ¬ xhfit nh (σ 2) c) : ∃ s', F_X10_readHouses σ = some (if c = σ 1 1 ∧ (σ 1 1 = 0 ∨ σ 1 1 % 3 = 2) then (σ 1 1 + 1) / 3 else -1 - c, s') ∧ Xhp σ s' nh c := by
  have hN := xN_ge
  obtain ⟨s', g1, g2⟩ := houses_loopC (k := fun (l1_15 : Int) (s16 : xW) =>
    xjn (fun (t17 : Int) =>
      xjn (fun (t21 : Int) =>
        some (t21, s16)
      ) fun j22 =>
      if (xw t17) ≠ 0 then
        j22 (Int.tdiv (xw ((s16 1 1) + 1)) 3)
      else
        j22 ((-1) - (s16 1 1))
    ) fun j18 =>
    xjn (
      j18 1
    ) fun j26 =>
    if (xw (s16 1 1)) ≠ 0 then
      if (xw (Int.tmod (xw (s16 1 1)) 3)) = 2 then
        j26
      else
        j18 0
    else
      j26) h hb e0 hn hc hf he c.toNat 0 xN σ (by omega) (by omega) ⟨fun _ _ _ => rfl, fun x => by unfold xhp; rw [if_neg (by omega), if_neg (by omega)], fun x => by unfold xhw; rw [if_neg (by omega)]⟩
  refine ⟨s', ?_, g2⟩
  have e1 : s' 1 = σ 1 := g2.1 1 (by decide) (by decide)
  unfold F_X10_readHouses
  refine Eq.trans g1 ?_
  by_cases z : c < σ 1 1
  · rw [if_pos z, if_neg (by omega)]
  · rw [if_neg z, e1, xw_sm (x := σ 1 1) (by omega) (by omega), xw_sm (x := σ 1 1 + 1) (by omega) (by omega), Int.tmod_eq_emod_of_nonneg h.1, Int.tdiv_eq_ediv_of_nonneg (by omega), xw_sm (x := σ 1 1 % 3) (by omega) (by omega)]
    simp only [xjn]
    rw [if_pos (show xw 1 ≠ 0 by decide), if_neg (show ¬ xw 0 ≠ 0 by decide)]
    by_cases z1 : σ 1 1 = 0
    · rw [if_neg (fun w => w z1), if_pos (by omega)]
    · rw [if_pos z1]
      by_cases z2 : σ 1 1 % 3 = 2
      · rw [if_pos z2, if_pos (by omega)]
      · rw [if_neg z2, if_neg (by omega), show c = σ 1 1 by omega]
theorem xhp_r {σ : xW} {nh c : Int} (hp : ∀ h : Int, 0 ≤ h → h < 8 → 0 ≤ σ 18 h ∧ σ 18 h ≤ 99) (hf : ∀ i : Int, 0 ≤ i → i < c → xhfit nh (σ 2) i) {h : Int} (h1 : 0 ≤ h) (h2 : h < 8) : 0 ≤ xhp σ nh c h ∧ xhp σ nh c h ≤ 99 := by
  unfold xhp
  by_cases z : nh ≤ h ∧ 3 * (h - nh) + 1 < c
  · rw [if_pos z]
    have q1 := hf (3 * (h - nh)) (by omega) (by omega)
    have q2 := hf (3 * (h - nh) + 1) (by omega) (by omega)
    unfold xhfit at q1 q2
    omega
  · rw [if_neg z]
    by_cases z2 : nh ≤ h ∧ 3 * (h - nh) < c
    · rw [if_pos z2]
      have q1 := hf (3 * (h - nh)) (by omega) (by omega)
      unfold xhfit at q1
      omega
    · rw [if_neg z2]
      exact hp h h1 h2
theorem xfm_hb {σ s : xW} {nh c : Int} (h : Xhp σ s nh c) : xfm [(1, 1), (18, -1), (19, -1)] σ (xu s 1 1 0) := by
  intro x k h1 h2
  have z18 : x ≠ 18 := fun w => h2 (by rw [w]; decide)
  have z19 : x ≠ 19 := fun w => h2 (by rw [w]; decide)
  unfold xu
  rw [if_neg (fun w => h1 (by rw [w.1, w.2]; decide)), h.1 x z18 z19]
theorem op_houses : XO F_X10_houses F_X11_houses := by
  intro B σ τ hB hB1 hR
  have hN := xN_ge
  obtain ⟨h1, h2, h3, h4, h5, h6, h7, h8, h9, h10⟩ := id hR
  obtain ⟨t1, t2, t3, t4⟩ := id h1
  have hn := h5.1
  obtain ⟨c, hc, hf, he⟩ := hand_ex (P := fun i => ¬ xhfit (σ 0 14) (σ 2) i) (m := min (σ 1 1) 23) (by omega)
  have hf' : ∀ i : Int, 0 ≤ i → i < c → xhfit (σ 0 14) (σ 2) i := fun i i1 i2 => Decidable.not_not.1 (hf i i1 i2)
  obtain ⟨s3, f1, f2⟩ := readHouses_c (c := c) t1 t2 rfl hn (by omega) hf' (by rcases he with u | u; omega; exact Or.inr (Or.inr u))
  obtain ⟨t5, g1, g2, g3, g4⟩ := rlines_h (t := xu τ 121 0 0) (f := σ 2) (n := σ 1 1) (nh := σ 0 14) (c := c) t1 hn (by rw [xu_slot _ _ _ (show (15 : Int) ≠ 0 by decide)]; exact t3) (by rw [xu_slot _ _ _ (show (3 : Int) ≠ 0 by decide)]; exact h5.2.1) (fun x x1 x2 => ⟨by rw [xu_row _ _ _ (show (129 : Int) ≠ 121 by decide)]; exact t4 x x1 x2, t2 x⟩) hc hf' he
  have hfl := fr_X11_readsLines g1
  by_cases z : c = σ 1 1 ∧ (σ 1 1 = 0 ∨ σ 1 1 % 3 = 2)
  · rw [if_pos z] at f1 g1
    obtain ⟨k20, k130⟩ := g4 z
    have e3 : t5 121 3 = σ 0 14 := by rw [g3 3 (by decide) (by decide) (by decide) (by decide) (by decide), xu_slot _ _ _ (show (3 : Int) ≠ 0 by decide)]; exact h5.2.1
    have hL : 0 ≤ (σ 1 1 + 1) / 3 ∧ σ 0 14 + (σ 1 1 + 1) / 3 ≤ 8 := by
      by_cases w : σ 1 1 = 0
      · omega
      · have := hf' (σ 1 1 - 2) (by omega) (by omega)
        unfold xhfit at this
        omega
    obtain ⟨t6, c1, c2, c3, c4, c5⟩ := hcopy (nh := σ 0 14) (L := (σ 1 1 + 1) / 3) (t0 := t5) (k := fun (l2_25 : Int) (s26 : xW) => xbd (F_X11_isNew s26) fun r28 s29 => some (r28, s29)) ⟨hn.1, hL.1, hL.2⟩ k20 e3 ((σ 1 1 + 1) / 3).toNat 0 xN t5 (by omega) (by omega) (fun _ _ _ => rfl) (fun _ _ => rfl) (by rw [e3]; omega) (fun x => by rw [if_neg (by omega), if_neg (by omega), if_neg (by omega)])
    have e20 : t6 121 20 = (σ 1 1 + 1) / 3 := by rw [c3 20 (by decide)]; exact k20
    by_cases w : σ 1 1 = 0
    · -- nothing is told
      have eL : (σ 1 1 + 1) / 3 = 0 := by omega
      have eC : F_X10_houses σ = some (0, xu s3 1 1 0) := by
        unfold F_X10_houses F_X8_clear
        rw [f1, eL]
        simp only [xbp_s, xbd_s, xls, xli, xlt, xjn]
        rw [if_neg (by decide)]
      have eM : F_X11_houses τ = some (0, xu (xu t6 121 28 (t6 121 28)) 121 5 (t6 121 5)) := by
        unfold F_X11_houses
        simp only [xls, xlt]
        rw [g1]
        simp only [xbd_n]
        rw [if_neg (by decide)]
        refine Eq.trans c1 ?_
        unfold F_X11_isNew
        simp only [xbp_s, xbd_s, xls, xli, xlt, xjn]
        rw [e20, eL, if_neg (show ¬ 0 < xw 0 by decide)]
        have q20 : (xu t6 121 28 (t6 121 28)) 121 20 = 0 := by rw [xu_slot _ _ _ (show (20 : Int) ≠ 28 by decide), e20, eL]
        rw [q20, if_neg (show ¬ 0 < xw 0 by decide), show F_X11_flag 0 (xu t6 121 28 (t6 121 28)) = some 0 from rfl]
        simp only [xbp_s, xbd_s, xls, xli, xlt, xjn]
        rw [Int.add_zero, xu_slot _ _ _ (show (5 : Int) ≠ 28 by decide), xu_slot _ _ _ (show (20 : Int) ≠ 5 by decide), q20]
      refine ⟨_, _, _, eC, eM, ?_⟩
      have hid : xu (xu t6 121 28 (t6 121 28)) 121 5 (t6 121 5) = t6 := by
        funext x y
        unfold xu
        by_cases v1 : x = 121 ∧ y = 5
        · rw [if_pos v1, v1.1, v1.2]
        · rw [if_neg v1]
          by_cases v2 : x = 121 ∧ y = 28
          · rw [if_pos v2, v2.1, v2.2]
          · rw [if_neg v2]
      rw [hid]
      have ht6 : t6 = t5 := by
        funext x y
        by_cases v1 : x = 121
        · rw [v1]
          by_cases v2 : y = 3
          · rw [v2, c4, e3]; omega
          · exact c3 y v2
        · by_cases v2 : x = 127
          · rw [v2, c5 y, if_neg (by omega), if_neg (by omega), if_neg (by omega)]
          · rw [c2 x v1 v2]
      rw [ht6]
      have hc0 : c = 0 := by omega
      have hfC := xfm_hb f2
      have hfM := hfl
      obtain ⟨h1, h2, h3, h4, h5, h6, h7, h8, h9, h10⟩ := XR_thr hR
      refine XR_mono (show _ ≤ B + 300 by omega) ⟨?_, Xrow_cW hfC (by decide +kernel) (Xrow_mW hfM (by decide +kernel) h2), Xsky_cW hfC (by decide +kernel) (Xsky_mW hfM (by decide +kernel) h3), Xrule_cW hfC (by decide +kernel) (Xrule_mW hfM (by decide +kernel) h4), Xplan_cW hfC (by decide +kernel) (Xplan_mW hfM (by decide +kernel) h5), ?_, Xpast_cW hfC (by decide +kernel) (Xpast_mW hfM (by decide +kernel) h7), Xkept_cW hfC (by decide +kernel) (Xkept_mW hfM (by decide +kernel) h8), Xrep_cW hfC (by decide +kernel) (Xrep_mW hfM (by decide +kernel) h9), Xforts_cW hfC (by decide +kernel) h10⟩
      · refine ⟨?_, fun i => ?_, ?_, fun i x y => ?_⟩
        · rw [xu_same]; omega
        · rw [xu_row _ _ _ (show (2 : Int) ≠ 1 by decide), f2.1 2 (by decide) (by decide)]
          exact t2 i
        · rw [xu_same]; exact g2
        · rw [xu_same] at y; omega
      · have p18 : xu s3 1 1 0 18 = σ 18 := by
          rw [xu_row _ _ _ (show (18 : Int) ≠ 1 by decide)]
          funext x
          rw [f2.2.1 x]
          unfold xhp
          rw [if_neg (by omega), if_neg (by omega)]
        have p19 : xu s3 1 1 0 19 = σ 19 := by
          rw [xu_row _ _ _ (show (19 : Int) ≠ 1 by decide)]
          funext x
          rw [f2.2.2 x]
          unfold xhw
          rw [if_neg (by omega)]
        unfold Xtown
        rw [p18, p19, xfm_cell hfC (show xnw [(1, 1), (18, -1), (19, -1)] 17 = true by decide), xfm_cell hfC (show xnw [(1, 1), (18, -1), (19, -1)] 20 = true by decide), xfm_cell hfC (show xnw [(1, 1), (18, -1), (19, -1)] 0 = true by decide), xfm_cell hfC (show xnw [(1, 1), (18, -1), (19, -1)] 92 = true by decide), show t5 127 = (xu τ 121 0 0) 127 from xfm_cell hfM (by decide +kernel)]
        exact h6
    · -- houses are told
      have hLp : 0 < (σ 1 1 + 1) / 3 := by omega
      obtain ⟨L, hLd⟩ : ∃ L, L = (σ 1 1 + 1) / 3 := ⟨_, rfl⟩
      rw [← hLd] at hL hLp f1 k20 k130 c4 c5 e20
      have eC : F_X10_houses σ = some (L, xu (xu (xu (xu (xu (xu s3 0 14 (σ 0 14 + L)) 21 2 0) 88 0 0) 88 1 0) 88 2 0) 1 1 0) := by
        unfold F_X10_houses F_X8_clear
        rw [f1]
        simp only [xbp_s, xbd_s, xls, xli, xlt, xjn]
        rw [xw_sm (x := L) (by omega) (by omega), if_pos hLp, forget_c, f2.1 0 (by decide) (by decide)]
        rfl
      have q20 : (xu t6 121 28 0) 121 20 = L := by rw [xu_slot _ _ _ (show (20 : Int) ≠ 28 by decide), e20]
      have eM : F_X11_houses τ = some (L, xu (xu t6 121 28 0) 121 5 (t6 121 5 + 1)) := by
        unfold F_X11_houses
        simp only [xls, xlt]
        rw [g1]
        simp only [xbd_n]
        rw [if_neg (by decide)]
        refine Eq.trans c1 ?_
        unfold F_X11_isNew
        simp only [xbp_s, xbd_s, xls, xli, xlt, xjn]
        rw [e20, xw_sm (x := L) (by omega) (by omega), if_pos hLp, q20, xw_sm (x := L) (by omega) (by omega), if_pos hLp, show F_X11_flag 1 (xu t6 121 28 0) = some 1 from rfl]
        simp only [xbp_s, xbd_s, xls, xli, xlt, xjn]
        rw [xu_slot _ _ _ (show (5 : Int) ≠ 28 by decide), xu_slot _ _ _ (show (20 : Int) ≠ 5 by decide), q20]
      refine ⟨_, _, _, eC, eM, ?_⟩
      have hfC := fr_X10_houses eC
      have hfM := fr_X11_houses eM
      obtain ⟨σ1, hσ1⟩ : ∃ σ1, σ1 = xu (xu (xu (xu (xu (xu s3 0 14 (σ 0 14 + L)) 21 2 0) 88 0 0) 88 1 0) 88 2 0) 1 1 0 := ⟨_, rfl⟩
      obtain ⟨τ1, hτ1⟩ : ∃ τ1, τ1 = xu (xu t6 121 28 0) 121 5 (t6 121 5 + 1) := ⟨_, rfl⟩
      rw [← hσ1] at hfC ⊢
      rw [← hτ1] at hfM ⊢
      have k0 : σ1 0 14 = σ 0 14 + L := by rw [hσ1]; simp [xu]
      have k11 : σ1 1 1 = 0 := by rw [hσ1, xu_same]
      have k2 : σ1 2 = σ 2 := xfm_cell hfC (by decide +kernel)
      have k17 : σ1 17 = σ 17 := xfm_cell hfC (by decide +kernel)
      have k20' : σ1 20 = σ 20 := xfm_cell hfC (by decide +kernel)
      have k92 : σ1 92 = σ 92 := xfm_cell hfC (by decide +kernel)
      have k93 : σ1 93 = σ 93 := xfm_cell hfC (by decide +kernel)
      have k94 : σ1 94 = σ 94 := xfm_cell hfC (by decide +kernel)
      have k18 : ∀ x : Int, σ1 18 x = xhp σ (σ 0 14) c x := fun x => by
        rw [hσ1, xu_row _ _ _ (show (18 : Int) ≠ 1 by decide), xu_row _ _ _ (show (18 : Int) ≠ 88 by decide), xu_row _ _ _ (show (18 : Int) ≠ 88 by decide), xu_row _ _ _ (show (18 : Int) ≠ 88 by decide), xu_row _ _ _ (show (18 : Int) ≠ 21 by decide), xu_row _ _ _ (show (18 : Int) ≠ 0 by decide)]
        exact f2.2.1 x
      have k19 : ∀ x : Int, σ1 19 x = xhw σ (σ 0 14) c x := fun x => by
        rw [hσ1, xu_row _ _ _ (show (19 : Int) ≠ 1 by decide), xu_row _ _ _ (show (19 : Int) ≠ 88 by decide), xu_row _ _ _ (show (19 : Int) ≠ 88 by decide), xu_row _ _ _ (show (19 : Int) ≠ 88 by decide), xu_row _ _ _ (show (19 : Int) ≠ 21 by decide), xu_row _ _ _ (show (19 : Int) ≠ 0 by decide)]
        exact f2.2.2 x
      have k21 : σ1 21 1 = σ 21 1 := xfm_slot hfC (by decide +kernel)
      have k21' : σ1 21 2 = 0 := by rw [hσ1]; simp [xu]
      have k88 : ∀ i : Int, 0 ≤ i → i < 3 → σ1 88 i = 0 := fun i i1 i2 => by
        rcases (by omega : i = 0 ∨ i = 1 ∨ i = 2) with rfl | rfl | rfl <;> rw [hσ1] <;> simp [xu]
      have m3 : τ1 121 3 = σ 0 14 + L := by rw [hτ1, xu_slot _ _ _ (show (3 : Int) ≠ 5 by decide), xu_slot _ _ _ (show (3 : Int) ≠ 28 by decide)]; exact c4
      have m4 : τ1 121 4 = τ 121 4 := xfm_slot hfM (by decide +kernel)
      have m15 : τ1 121 15 = 0 := by rw [hτ1, xu_slot _ _ _ (show (15 : Int) ≠ 5 by decide), xu_slot _ _ _ (show (15 : Int) ≠ 28 by decide), c3 15 (by decide)]; exact g2
      have m28 : τ1 121 28 = 0 := by rw [hτ1, xu_slot _ _ _ (show (28 : Int) ≠ 5 by decide), xu_same]
      have m5 : τ1 121 5 = τ 121 5 + 1 := by rw [hτ1, xu_same, c3 5 (by decide), g3 5 (by decide) (by decide) (by decide) (by decide) (by decide), xu_slot _ _ _ (show (5 : Int) ≠ 0 by decide)]
      have m127 : ∀ x : Int, τ1 127 x = if σ 0 14 ≤ x ∧ x < σ 0 14 + L then t5 130 (2 * (x - σ 0 14)) else if σ 0 14 + 8 ≤ x ∧ x < σ 0 14 + 8 + L then t5 130 (2 * (x - σ 0 14 - 8) + 1) else if σ 0 14 + 16 ≤ x ∧ x < σ 0 14 + 16 + L then 0 else τ 127 x := fun x => by
        rw [hτ1, xu_row _ _ _ (show (127 : Int) ≠ 121 by decide), xu_row _ _ _ (show (127 : Int) ≠ 121 by decide), c5 x, show t5 127 = (xu τ 121 0 0) 127 from xfm_cell hfl (by decide +kernel), xu_row _ _ _ (show (127 : Int) ≠ 121 by decide)]
      obtain ⟨h1, h2, h3, h4, h5, h6, h7, h8', h9, h10⟩ := XR_mono (show B ≤ B + 1 by omega) hR
      have h8'' := hR.2.2.2.2.2.2.2.1
      refine XR_mono (show B + 1 ≤ B + 300 by omega) ?_
      refine ⟨?_, Xrow_cW hfC (by decide +kernel) (Xrow_mW hfM (by decide +kernel) h2), Xsky_cW hfC (by decide +kernel) (Xsky_mW hfM (by decide +kernel) h3), Xrule_cW hfC (by decide +kernel) (Xrule_mW hfM (by decide +kernel) h4), ?_, ?_, ?_, ?_, ?_, Xforts_cW hfC (by decide +kernel) h10⟩
      · refine ⟨by omega, fun i => ?_, by rw [m15, k11], fun i x y => by omega⟩
        rw [k2]; exact t2 i
      · refine ⟨by omega, by rw [m3, k0], by rw [k92]; exact h5.2.2.1, by rw [m4, k92]; exact h5.2.2.2.1, fun d x y => ?_⟩
        rw [k92] at y
        have q := h5.2.2.2.2 d x y
        rw [k93, k94, k0, show τ1 125 = τ 125 from xfm_cell hfM (by decide +kernel), show τ1 126 = τ 126 from xfm_cell hfM (by decide +kernel)]
        exact ⟨by omega, q.2.1, q.2.2.1, q.2.2.2⟩
      · obtain ⟨⟨u1, u2, u3, u4⟩, u5, u6, u7⟩ := id h6
        have hb : ∀ x : Int, 24 ≤ x → x < 40 → τ1 127 x = τ 127 x := fun x x1 x2 => by rw [m127 x, if_neg (by omega), if_neg (by omega), if_neg (by omega)]
        refine ⟨⟨by rw [k17]; exact u1, fun x x1 x2 => by rw [k18 x]; exact xhp_r u2 hf' x1 x2, fun x x1 x2 => ?_, by rw [k20']; exact u4⟩, ?_, fun x x1 x2 => ?_, fun d x y => ?_⟩
        · rw [k19 x]
          unfold xhw
          by_cases v : σ 0 14 ≤ x ∧ 3 * (x - σ 0 14) < c
          · rw [if_pos v]; omega
          · rw [if_neg v]; exact u3 x x1 x2
        · rw [k17, hb 32 (by decide) (by decide), hb 33 (by decide) (by decide), hb 34 (by decide) (by decide), hb 35 (by decide) (by decide), hb 36 (by decide) (by decide), hb 37 (by decide) (by decide), hb 38 (by decide) (by decide), hb 39 (by decide) (by decide)]
          exact u5
        · rw [k0] at x2
          rw [k18 x, k19 x]
          unfold xhp xhw
          by_cases v : σ 0 14 ≤ x
          · have q := k130 (x - σ 0 14) (by omega) (by omega)
            have d1 := hf' (3 * (x - σ 0 14)) (by omega) (by omega)
            have d2 := hf' (3 * (x - σ 0 14) + 1) (by omega) (by omega)
            unfold xhfit at d1 d2
            rw [if_pos (by omega), if_pos (by omega), m127 x, if_pos (by omega), m127 (8 + x), if_neg (by omega), if_pos (by omega), m127 (16 + x), if_neg (by omega), if_neg (by omega), if_pos (by omega), show 8 + x - σ 0 14 - 8 = x - σ 0 14 by omega, q.1, q.2]
            omega
          · have q := u6 x x1 (by omega)
            rw [if_neg (by omega), if_neg (by omega), if_neg (by omega), m127 x, if_neg (by omega), if_neg (by omega), if_neg (by omega), m127 (8 + x), if_neg (by omega), if_neg (by omega), if_neg (by omega), m127 (16 + x), if_neg (by omega), if_neg (by omega), if_neg (by omega)]
            exact q
        · rw [k92] at y
          have hnd := h5.2.2.1
          rw [k20', hb (24 + d) (by omega) (by omega)]
          exact u7 d x y
      · exact Xpast_new (by rw [k21]; exact h7.1) k21' m28
      · exact Xkept_new h8'' k88 m5 (xfm_cell hfM (by decide +kernel)) (xfm_cell hfM (by decide +kernel))
      · obtain ⟨r1, r2, r3⟩ := id h9
        have j100 : σ1 100 = σ 100 := xfm_cell hfC (by decide +kernel)
        refine ⟨by rw [j100]; exact r1, by rw [show τ1 121 42 = τ 121 42 from xfm_slot hfM (by decide +kernel), j100]; exact r2, fun i i1 i2 => ?_⟩
        rw [j100] at i2
        have q := r3 i i1 i2
        rw [show σ1 101 = σ 101 from xfm_cell hfC (by decide +kernel), show σ1 102 = σ 102 from xfm_cell hfC (by decide +kernel), show τ1 146 = τ 146 from xfm_cell hfM (by decide +kernel), show τ1 147 = τ 147 from xfm_cell hfM (by decide +kernel), k0]
        exact ⟨by omega, q.2⟩
  · rw [if_neg z] at f1 g1
    have eC : F_X10_houses σ = some (-1 - c, xu s3 1 1 0) := by
      unfold F_X10_houses F_X8_clear
      rw [f1]
      simp only [xbp_s, xbd_s, xls, xli, xlt, xjn]
      rw [xw_sm (x := -1 - c) (by omega) (by omega), if_neg (by omega)]
    have eM : F_X11_houses τ = some (-1 - c, t5) := by
      unfold F_X11_houses
      simp only [xls, xlt]
      rw [g1]
      simp only [xbd_n]
      rw [xw_sm (x := -1 - c) (by omega) (by omega), if_pos (by omega)]
    refine ⟨_, _, _, eC, eM, ?_⟩
    have hfC := xfm_hb f2
    have hfM := hfl
    obtain ⟨h1, h2, h3, h4, h5, h6, h7, h8, h9, h10⟩ := XR_thr hR
    refine XR_mono (show _ ≤ B + 300 by omega) ⟨?_, Xrow_cW hfC (by decide +kernel) (Xrow_mW hfM (by decide +kernel) h2), Xsky_cW hfC (by decide +kernel) (Xsky_mW hfM (by decide +kernel) h3), Xrule_cW hfC (by decide +kernel) (Xrule_mW hfM (by decide +kernel) h4), Xplan_cW hfC (by decide +kernel) (Xplan_mW hfM (by decide +kernel) h5), ?_, Xpast_cW hfC (by decide +kernel) (Xpast_mW hfM (by decide +kernel) h7), Xkept_cW hfC (by decide +kernel) (Xkept_mW hfM (by decide +kernel) h8), Xrep_cW hfC (by decide +kernel) (Xrep_mW hfM (by decide +kernel) h9), Xforts_cW hfC (by decide +kernel) h10⟩
    · refine ⟨?_, fun i => ?_, ?_, fun i x y => ?_⟩
      · rw [xu_same]; omega
      · rw [xu_row _ _ _ (show (2 : Int) ≠ 1 by decide), f2.1 2 (by decide) (by decide)]
        exact t2 i
      · rw [xu_same]; exact g2
      · rw [xu_same] at y; omega
    · obtain ⟨⟨u1, u2, u3, u4⟩, u5, u6, u7⟩ := id h6
      unfold Xtown
      rw [xu_row s3 _ _ (show (18 : Int) ≠ 1 by decide), xu_row s3 _ _ (show (19 : Int) ≠ 1 by decide), xfm_cell hfC (show xnw [(1, 1), (18, -1), (19, -1)] 17 = true by decide), xfm_cell hfC (show xnw [(1, 1), (18, -1), (19, -1)] 20 = true by decide), xfm_cell hfC (show xnw [(1, 1), (18, -1), (19, -1)] 0 = true by decide), xfm_cell hfC (show xnw [(1, 1), (18, -1), (19, -1)] 92 = true by decide), show t5 127 = (xu τ 121 0 0) 127 from xfm_cell hfM (by decide +kernel)]
      refine ⟨⟨u1, fun x x1 x2 => by rw [f2.2.1 x]; exact xhp_r u2 hf' x1 x2, fun x x1 x2 => ?_, u4⟩, u5, fun x x1 x2 => ?_, u7⟩
      · rw [f2.2.2 x]
        unfold xhw
        by_cases v : σ 0 14 ≤ x ∧ 3 * (x - σ 0 14) < c
        · rw [if_pos v]; omega
        · rw [if_neg v]; exact u3 x x1 x2
      · rw [f2.2.1 x, f2.2.2 x]
        unfold xhp xhw
        rw [if_neg (by omega), if_neg (by omega), if_neg (by omega)]
        exact u6 x x1 x2
