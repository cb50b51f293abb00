/-! deeds -/
theorem xfm_db {σ s : xW} {nd : Int} (h : Xdw σ s nd) : xfm [(1, 1), (20, -1), (93, -1), (94, -1)] σ (xu s 1 1 0) := by
  intro x k h1 h2
  have z20 : x ≠ 20 := fun w => h2 (by rw [w]; decide)
  have z93 : x ≠ 93 := fun w => h2 (by rw [w]; decide)
  have z94 : x ≠ 94 := fun w => h2 (by rw [w]; decide)
  unfold xu
  rw [if_neg (fun w => h1 (by rw [w.1, w.2]; decide)), h.1 x z20 z93 z94]
theorem XR_db {B : Int} {σ τ s3 t5 : xW} (hR : XR B σ (xu τ 121 0 0)) (hw : Xdw σ s3 (σ 92 0)) (hfM : xfm W_X11_readsLines (xu τ 121 0 0) t5) (e15 : t5 121 15 = 0) : XR (B + 300) (xu s3 1 1 0) t5 := by
  have hfC := xfm_db hw
  obtain ⟨h1, h2, h3, h4, h5, h6, h7, h8, h9, h10⟩ := id hR
  have k20 : ∀ d : Int, xu s3 1 1 0 20 d = s3 20 d := fun d => by rw [xu_row _ _ _ (show (20 : Int) ≠ 1 by decide)]
  have k93 : ∀ d : Int, xu s3 1 1 0 93 d = s3 93 d := fun d => by rw [xu_row _ _ _ (show (93 : Int) ≠ 1 by decide)]
  have k94 : ∀ d : Int, xu s3 1 1 0 94 d = s3 94 d := fun d => by rw [xu_row _ _ _ (show (94 : Int) ≠ 1 by decide)]
  have k0 : xu s3 1 1 0 0 = σ 0 := xfm_cell hfC (by decide)
  have k92 : xu s3 1 1 0 92 = σ 92 := xfm_cell hfC (by decide)
  refine XR_mono (show _ ≤ B + 300 by omega) ⟨?_, Xrow_cW hfC (by decide +kernel) (Xrow_mW hfM (by decide +kernel) h2), Xsky_cW hfC (by decide +kernel) (Xsky_mW hfM (by decide +kernel) h3), Xrule_cW hfC (by decide +kernel) (Xrule_mW hfM (by decide +kernel) h4), ?_, ?_, Xpast_cW hfC (by decide +kernel) (Xpast_mW hfM (by decide +kernel) h7), Xkept_cW hfC (by decide +kernel) (Xkept_mW hfM (by decide +kernel) h8), Xrep_cW hfC (by decide +kernel) (Xrep_mW hfM (by decide +kernel) h9), Xforts_cW hfC (by decide +kernel) h10⟩
  · refine ⟨?_, fun i => ?_, ?_, fun i x y => ?_⟩
    · rw [xu_same]; omega
    · rw [xu_row _ _ _ (show (2 : Int) ≠ 1 by decide), hw.1 2 (by decide) (by decide) (by decide)]
      exact h1.2.1 i
    · rw [xu_same]; exact e15
    · rw [xu_same] at y; omega
  · unfold Xplan
    rw [k0, k92, show t5 121 3 = (xu τ 121 0 0) 121 3 from xfm_slot hfM (by decide +kernel), show t5 121 4 = (xu τ 121 0 0) 121 4 from xfm_slot hfM (by decide +kernel), show t5 125 = (xu τ 121 0 0) 125 from xfm_cell hfM (by decide +kernel), show t5 126 = (xu τ 121 0 0) 126 from xfm_cell hfM (by decide +kernel)]
    refine ⟨h5.1, h5.2.1, h5.2.2.1, h5.2.2.2.1, fun d x y => ?_⟩
    rw [k93, k94, (hw.2.1 d y).2.1, (hw.2.1 d y).2.2]
    exact h5.2.2.2.2 d x y
  · obtain ⟨⟨u1, u2, u3, u4⟩, u5, u6, u7⟩ := id h6
    unfold Xtown
    rw [k0, k92, xfm_cell hfC (show xnw [(1, 1), (20, -1), (93, -1), (94, -1)] 17 = true by decide), xfm_cell hfC (show xnw [(1, 1), (20, -1), (93, -1), (94, -1)] 18 = true by decide), xfm_cell hfC (show xnw [(1, 1), (20, -1), (93, -1), (94, -1)] 19 = true by decide), show t5 127 = (xu τ 121 0 0) 127 from xfm_cell hfM (by decide +kernel)]
    refine ⟨⟨u1, u2, u3, fun d x y => by rw [k20]; exact hw.2.2 d x y⟩, u5, u6, fun d x y => ?_⟩
    rw [k20, (hw.2.1 d y).1]
    exact u7 d x y
theorem op_deeds : XO F_X10_deeds F_X11_deeds := by
  intro B σ τ hB hB1 hR
  have hN := xN_ge
  obtain ⟨h1, h2, h3, h4, h5, h6, h7, h8, h9, h10⟩ := id hR
  obtain ⟨t1, t2, t3, t4⟩ := id h1
  have hn := h5.1
  have hnd := h5.2.2.1
  obtain ⟨E, hE⟩ : ∃ E : Nat, (E : Int) = min (σ 1 1) 55 := ⟨(min (σ 1 1) 55).toNat, by omega⟩
  obtain ⟨t5, c', st', v, g1, g2, g3, g4, g5, g6, g7, g8⟩ := rlines_d (t := xu τ 121 0 0) (f := σ 2) (n := σ 1 1) (nh := σ 0 14) (nd := σ 92 0) (E := E) t1 hn hnd (by rw [xu_slot _ _ _ (show (15 : Int) ≠ 0 by decide)]; exact t3) (by rw [xu_slot _ _ _ (show (3 : Int) ≠ 0 by decide)]; exact h5.2.1) (by rw [xu_slot _ _ _ (show (4 : Int) ≠ 0 by decide)]; exact h5.2.2.2.1) (fun x x1 x2 => ⟨by rw [xu_row _ _ _ (show (129 : Int) ≠ 121 by decide)]; exact t4 x x1 x2, t2 x⟩) hE
  have hfl := fr_X11_readsLines g1
  have e4 : t5 121 4 = σ 92 0 := by rw [g6 4 (by decide) (by decide) (by decide) (by decide) (by decide), xu_slot _ _ _ (show (4 : Int) ≠ 0 by decide)]; exact h5.2.2.2.1
  by_cases w : σ 1 1 = 0
  · obtain ⟨gv, g20⟩ := g7 w
    have eC : F_X10_deeds σ = some (0, xu σ 1 1 0) := by
      unfold F_X10_deeds F_X8_clear
      simp only [xbp_s, xbd_s, xls, xli, xlt, xjn]
      rw [w, if_pos (by decide), if_neg (show ¬ 0 < xw 0 by decide)]
    have eM : F_X11_deeds τ = some (0, t5) := by
      obtain ⟨g, hg, _⟩ := xN_s
      unfold F_X11_deeds
      simp only [xls, xlt]
      rw [g1, gv]
      simp only [xbd_n]
      rw [if_neg (by decide), hg, F_X11_deeds_21, g20, if_neg (by decide)]
      unfold F_X11_isNew
      simp only [xbp_s, xbd_s, xls, xli, xlt, xjn]
      rw [g20, if_neg (show ¬ 0 < xw 0 by decide)]
      have q20 : (xu t5 121 28 (t5 121 28)) 121 20 = 0 := by rw [xu_slot _ _ _ (show (20 : Int) ≠ 28 by decide), g20]
      rw [q20, if_neg (show ¬ 0 < xw 0 by decide), show F_X11_flag 0 (xu t5 121 28 (t5 121 28)) = some 0 from rfl]
      simp only [xbp_s, xbd_s, xls, xli, xlt, xjn]
      rw [Int.add_zero, xu_slot _ _ _ (show (5 : Int) ≠ 28 by decide), xu_slot _ _ _ (show (20 : Int) ≠ 5 by decide), q20]
      have hid : xu (xu t5 121 28 (t5 121 28)) 121 5 (t5 121 5) = t5 := by
        funext x y
        unfold xu
        by_cases v1 : x = 121 ∧ y = 5
        · rw [if_pos v1, v1.1, v1.2]
        · rw [if_neg v1]
          by_cases v2 : x = 121 ∧ y = 28
          · rw [if_pos v2, v2.1, v2.2]
          · rw [if_neg v2]
      rw [hid]
    exact ⟨_, _, _, eC, eM, XR_db (XR_thr hR) ⟨fun _ _ _ _ => rfl, fun _ _ => ⟨rfl, rfl, rfl⟩, h6.1.2.2.2⟩ hfl g5⟩
  · obtain ⟨gv, gr⟩ := g8 (by omega)
    obtain ⟨c, st, s3, f1, f2, f3, f4, f5, f6⟩ := readDeeds_c (nh := σ 0 14) (nd := σ 92 0) t1 t2 ⟨rfl, hn⟩ ⟨rfl, hnd⟩ hE h6.1.2.2.2
    obtain ⟨ec, es⟩ := xdd_u f2 f3 g3 g4 f1 g2
    rw [← ec] at gv gr g3
    rw [← es] at gv gr
    have hX := Xds_i hnd c st f2
    obtain ⟨x1, x2, x3, x4, x5, x6, x7, x8, x9, x10⟩ := id hX
    by_cases z : (c : Int) = σ 1 1 ∧ 2 < st.2.1
    · rw [if_pos z] at f4 gv
      obtain ⟨w1, w2, w3, w4⟩ := f6 z.1
      obtain ⟨g20, g130⟩ := gr z.2
      obtain ⟨L, hL⟩ : ∃ L, L = st.1 + 1 := ⟨_, rfl⟩
      have hLb : σ 92 0 + L ≤ 8 := by have := x4 (by omega); omega
      rw [← hL] at f4 g20
      have hT : ∀ j : Int, 0 ≤ j → j < L → ((0 ≤ xdt (σ 0 14) (σ 92 0) (σ 2) c (3 * j) ∧ xdt (σ 0 14) (σ 92 0) (σ 2) c (3 * j) < σ 0 14) ∧ (1 ≤ xdt (σ 0 14) (σ 92 0) (σ 2) c (3 * j + 1) ∧ xdt (σ 0 14) (σ 92 0) (σ 2) c (3 * j + 1) ≤ 9) ∧ (1 ≤ xdt (σ 0 14) (σ 92 0) (σ 2) c (3 * j + 2) ∧ xdt (σ 0 14) (σ 92 0) (σ 2) c (3 * j + 2) ≤ 15)) ∧ (s3 93 (σ 92 0 + j) = xdt (σ 0 14) (σ 92 0) (σ 2) c (3 * j) ∧ s3 20 (σ 92 0 + j) = xdt (σ 0 14) (σ 92 0) (σ 2) c (3 * j + 1) ∧ s3 94 (σ 92 0 + j) = xdt (σ 0 14) (σ 92 0) (σ 2) c (3 * j + 2)) := fun j j1 j2 => by
        by_cases y : j = st.1
        · rw [y]
          have q1 := x9 (by omega)
          have q2 := x10 (by omega)
          have q3 := w3 (by omega)
          have q4 := w4 (by omega)
          have q7 := x7 z.2
          refine ⟨⟨⟨q1.1, q1.2.1⟩, q2, by rw [q1.2.2]; omega⟩, q3.1, q4, by rw [q3.2, q1.2.2]⟩
        · exact ⟨x8 j j1 (by omega), w2 j j1 (by omega)⟩
      obtain ⟨t6, c1, c2, c3, c4, c5, c6, c7⟩ := dcopy (nd := σ 92 0) (L := L) (t0 := t5) (k := fun (l2_26 : Int) (s27 : xW) => xbd (F_X11_isNew s27) fun r29 s30 => some (r29, s30)) ⟨hnd.1, by omega, hLb⟩ g20 e4 L.toNat 0 xN t5 (by omega) (by omega) (fun _ _ _ _ _ => rfl) (fun _ _ => rfl) (by rw [e4]; omega) (fun x => by rw [if_neg (by omega)]) (fun x => by rw [if_neg (by omega)]) (fun x => by rw [if_neg (by omega)])
      have e20 : t6 121 20 = L := by rw [c3 20 (by decide)]; exact g20
      have hLp : 0 < L := by omega
      have eC : F_X10_deeds σ = some (L, xu (xu (xu (xu (xu (xu s3 92 0 (σ 92 0 + L)) 21 2 0) 88 0 0) 88 1 0) 88 2 0) 1 1 0) := by
        unfold F_X10_deeds F_X8_clear
        simp only [xjn]
        rw [xw_sm (x := σ 1 1) (by omega) (by omega), if_neg w, f4]
        simp only [xbp_s, xbd_s, xls, xli, xlt, xjn]
        rw [xw_sm (x := L) (by omega) (by omega), if_pos hLp, forget_c, w1.1 92 (by decide) (by decide) (by decide)]
        rfl
      have q20 : (xu t6 121 28 0) 121 20 = L := by rw [xu_slot _ _ _ (show (20 : Int) ≠ 28 by decide), e20]
      have eM : F_X11_deeds τ = some (L, xu (xu t6 121 28 0) 121 5 (t6 121 5 + 1)) := by
        unfold F_X11_deeds
        simp only [xls, xlt]
        rw [g1, gv]
        simp only [xbd_n]
        rw [if_neg (by decide)]
        refine Eq.trans c1 ?_
        unfold F_X11_isNew
        simp only [xbp_s, xbd_s, xls, xli, xlt, xjn]
        rw [e20, xw_sm (x := L) (by omega) (by omega), if_pos hLp, q20, xw_sm (x := L) (by omega) (by omega), if_pos hLp, show F_X11_flag 1 (xu t6 121 28 0) = some 1 from rfl]
        simp only [xbp_s, xbd_s, xls, xli, xlt, xjn]
        rw [xu_slot _ _ _ (show (5 : Int) ≠ 28 by decide), xu_slot _ _ _ (show (20 : Int) ≠ 5 by decide), q20]
      refine ⟨_, _, _, eC, eM, ?_⟩
      have hfC := fr_X10_deeds eC
      have hfM := fr_X11_deeds eM
      obtain ⟨σ1, hσ1⟩ : ∃ σ1, σ1 = xu (xu (xu (xu (xu (xu s3 92 0 (σ 92 0 + L)) 21 2 0) 88 0 0) 88 1 0) 88 2 0) 1 1 0 := ⟨_, rfl⟩
      obtain ⟨τ1, hτ1⟩ : ∃ τ1, τ1 = xu (xu t6 121 28 0) 121 5 (t6 121 5 + 1) := ⟨_, rfl⟩
      rw [← hσ1] at hfC ⊢
      rw [← hτ1] at hfM ⊢
      have k92 : σ1 92 0 = σ 92 0 + L := by rw [hσ1]; simp [xu]
      have k11 : σ1 1 1 = 0 := by rw [hσ1, xu_same]
      have k2 : σ1 2 = σ 2 := xfm_cell hfC (by decide +kernel)
      have k17 : σ1 17 = σ 17 := xfm_cell hfC (by decide +kernel)
      have k18 : σ1 18 = σ 18 := xfm_cell hfC (by decide +kernel)
      have k19 : σ1 19 = σ 19 := xfm_cell hfC (by decide +kernel)
      have k0 : σ1 0 = σ 0 := xfm_cell hfC (by decide +kernel)
      have kc : ∀ y : Int, y ≠ 1 → y ≠ 88 → y ≠ 21 → y ≠ 92 → σ1 y = s3 y := fun y y1 y2 y3 y4 => by
        rw [hσ1, xu_row _ _ _ y1, xu_row _ _ _ y2, xu_row _ _ _ y2, xu_row _ _ _ y2, xu_row _ _ _ y3, xu_row _ _ _ y4]
      have k20 : σ1 20 = s3 20 := kc 20 (by decide) (by decide) (by decide) (by decide)
      have k93 : σ1 93 = s3 93 := kc 93 (by decide) (by decide) (by decide) (by decide)
      have k94 : σ1 94 = s3 94 := kc 94 (by decide) (by decide) (by decide) (by decide)
      have k21 : σ1 21 1 = σ 21 1 := xfm_slot hfC (by decide +kernel)
      have k21' : σ1 21 2 = 0 := by rw [hσ1]; simp [xu]
      have k88 : ∀ i : Int, 0 ≤ i → i < 3 → σ1 88 i = 0 := fun i i1 i2 => by
        rcases (by omega : i = 0 ∨ i = 1 ∨ i = 2) with rfl | rfl | rfl <;> rw [hσ1] <;> simp [xu]
      have m4 : τ1 121 4 = σ 92 0 + L := by rw [hτ1, xu_slot _ _ _ (show (4 : Int) ≠ 5 by decide), xu_slot _ _ _ (show (4 : Int) ≠ 28 by decide)]; exact c4
      have m3 : τ1 121 3 = τ 121 3 := xfm_slot hfM (by decide +kernel)
      have m15 : τ1 121 15 = 0 := by rw [hτ1, xu_slot _ _ _ (show (15 : Int) ≠ 5 by decide), xu_slot _ _ _ (show (15 : Int) ≠ 28 by decide), c3 15 (by decide)]; exact g5
      have m28 : τ1 121 28 = 0 := by rw [hτ1, xu_slot _ _ _ (show (28 : Int) ≠ 5 by decide), xu_same]
      have m5 : τ1 121 5 = τ 121 5 + 1 := by rw [hτ1, xu_same, c3 5 (by decide), g6 5 (by decide) (by decide) (by decide) (by decide) (by decide), xu_slot _ _ _ (show (5 : Int) ≠ 0 by decide)]
      have mc : ∀ y : Int, y ≠ 121 → τ1 y = t6 y := fun y y1 => by rw [hτ1, xu_row _ _ _ y1, xu_row _ _ _ y1]
      have m125 : ∀ x : Int, τ1 125 x = if σ 92 0 ≤ x ∧ x < σ 92 0 + L then t5 130 (3 * (x - σ 92 0)) else τ 125 x := fun x => by
        rw [mc 125 (by decide), c5 x, show t5 125 = (xu τ 121 0 0) 125 from xfm_cell hfl (by decide +kernel), xu_row _ _ _ (show (125 : Int) ≠ 121 by decide)]
      have m126 : ∀ x : Int, τ1 126 x = if σ 92 0 ≤ x ∧ x < σ 92 0 + L then t5 130 (3 * (x - σ 92 0) + 2) else τ 126 x := fun x => by
        rw [mc 126 (by decide), c6 x, show t5 126 = (xu τ 121 0 0) 126 from xfm_cell hfl (by decide +kernel), xu_row _ _ _ (show (126 : Int) ≠ 121 by decide)]
      have m127 : ∀ x : Int, τ1 127 x = if σ 92 0 + 24 ≤ x ∧ x < σ 92 0 + 24 + L then t5 130 (3 * (x - σ 92 0 - 24) + 1) else τ 127 x := fun x => by
        rw [mc 127 (by decide), c7 x, show t5 127 = (xu τ 121 0 0) 127 from xfm_cell hfl (by decide +kernel), xu_row _ _ _ (show (127 : Int) ≠ 121 by decide)]
      obtain ⟨h1, h2, h3, h4, h5, h6, h7, h8', h9, h10⟩ := XR_mono (show B ≤ B + 1 by omega) hR
      have h8'' := hR.2.2.2.2.2.2.2.1
      refine XR_mono (show B + 1 ≤ B + 300 by omega) ?_
      refine ⟨?_, Xrow_cW hfC (by decide +kernel) (Xrow_mW hfM (by decide +kernel) h2), Xsky_cW hfC (by decide +kernel) (Xsky_mW hfM (by decide +kernel) h3), Xrule_cW hfC (by decide +kernel) (Xrule_mW hfM (by decide +kernel) h4), ?_, ?_, ?_, ?_, Xrep_cW hfC (by decide +kernel) (Xrep_mW hfM (by decide +kernel) h9), Xforts_cW hfC (by decide +kernel) h10⟩
      · refine ⟨by omega, fun i => ?_, by rw [m15, k11], fun i x y => by omega⟩
        rw [k2]; exact t2 i
      · refine ⟨by rw [k0]; exact h5.1, by rw [m3, k0]; exact h5.2.1, by omega, by rw [m4, k92], fun d x y => ?_⟩
        rw [k92] at y
        rw [k93, k94, k0, m125 d, m126 d]
        by_cases u : d < σ 92 0
        · rw [if_neg (by omega), if_neg (by omega), (w1.2.1 d u).2.1, (w1.2.1 d u).2.2]
          exact h5.2.2.2.2 d x u
        · have q := hT (d - σ 92 0) (by omega) (by omega)
          rw [show σ 92 0 + (d - σ 92 0) = d by omega] at q
          rw [if_pos (by omega), if_pos (by omega), g130 (3 * (d - σ 92 0)) (by omega) (by omega), g130 (3 * (d - σ 92 0) + 2) (by omega) (by omega), q.2.1, q.2.2.2]
          exact ⟨q.1.1, rfl, q.1.2.2, rfl⟩
      · obtain ⟨⟨u1, u2, u3, u4⟩, u5, u6, u7⟩ := id h6
        have hb : ∀ x : Int, x < 24 ∨ 32 ≤ x → τ1 127 x = τ 127 x := fun x x1 => by rw [m127 x, if_neg (by omega)]
        refine ⟨⟨by rw [k17]; exact u1, by rw [k18]; exact u2, by rw [k19]; exact u3, by rw [k20]; exact w1.2.2⟩, ?_, fun x x1 x2 => ?_, fun d x y => ?_⟩
        · rw [k17, hb 32 (by decide), hb 33 (by decide), hb 34 (by decide), hb 35 (by decide), hb 36 (by decide), hb 37 (by decide), hb 38 (by decide), hb 39 (by decide)]
          exact u5
        · rw [k0] at x2
          have hn8 := h5.1.2
          rw [k18, k19, hb x (by omega), hb (8 + x) (by omega), hb (16 + x) (by omega)]
          exact u6 x x1 x2
        · rw [k92] at y
          rw [k20, m127 (24 + d)]
          by_cases u : d < σ 92 0
          · rw [if_neg (by omega), (w1.2.1 d u).1]
            exact u7 d x u
          · have q := hT (d - σ 92 0) (by omega) (by omega)
            rw [show σ 92 0 + (d - σ 92 0) = d by omega] at q
            rw [if_pos (by omega), show 24 + d - σ 92 0 - 24 = d - σ 92 0 by omega, g130 (3 * (d - σ 92 0) + 1) (by omega) (by omega), q.2.2.1]
            exact ⟨rfl, q.1.2.1.1⟩
      · exact Xpast_new (by rw [k21]; exact h7.1) k21' m28
      · exact Xkept_new h8'' k88 m5 (xfm_cell hfM (by decide +kernel)) (xfm_cell hfM (by decide +kernel))
    · rw [if_neg z] at f4 gv
      have hc0 := xdd_p c st f2
      have eC : F_X10_deeds σ = some (-1 - (c : Int), xu s3 1 1 0) := by
        unfold F_X10_deeds F_X8_clear
        simp only [xjn]
        rw [xw_sm (x := σ 1 1) (by omega) (by omega), if_neg w, f4]
        simp only [xbp_s, xbd_s, xls, xli, xlt, xjn]
        rw [xw_sm (x := -1 - (c : Int)) (by omega) (by omega), if_neg (by omega)]
      have eM : F_X11_deeds τ = some (-1 - (c : Int), t5) := by
        unfold F_X11_deeds
        simp only [xls, xlt]
        rw [g1, gv]
        simp only [xbd_n]
        rw [xw_sm (x := -1 - (c : Int)) (by omega) (by omega), if_pos (by omega)]
      exact ⟨_, _, _, eC, eM, XR_db (XR_thr hR) f5 hfl g5⟩
