theorem move_c {h x y : Int} {s : xW} (hh : I32 h) (hx : I32 x) (hy : I32 y) (hn : 0 ≤ s 0 14 ∧ s 0 14 ≤ 8) (hp : ∀ h, 0 ≤ h → h < 8 → 0 ≤ s 18 h ∧ s 18 h ≤ 99) : F_X10_move h x y s = if ((0 ≤ x ∧ x ≤ 9) ∧ (0 ≤ y ∧ y ≤ 9)) ∧ (0 ≤ h ∧ h < s 0 14) then some (if xfa (s 18 h) (10 * x + y) = 0 then -2 else xfa (s 18 h) (10 * x + y), xu s 18 h (10 * x + y)) else some (-1, s) := by
  unfold F_X10_move
  rw [placeOf_c hx hy]
  simp only [xbp_s, xbd_s, xls, xli, xlt, xjn]
  by_cases q : (0 ≤ x ∧ x ≤ 9) ∧ (0 ≤ y ∧ y ≤ 9)
  · rw [if_pos q, xw_sm (by omega) (by omega), if_pos (by omega), isHouse_c hh hn]
    simp only [xbp_s, xbd_s, xls, xli, xlt, xjn, xif01]
    by_cases q2 : 0 ≤ h ∧ h < s 0 14
    · have hb := hp h q2.1 (by omega)
      have := xfa_r (a := s 18 h) (b := 10 * x + y) hb (by omega)
      rw [if_pos q2, if_neg (by decide), xgd_t (by omega), far_c hb (by omega), if_pos ⟨q, q2⟩]
      simp only [xbp_s, xbd_s, xls, xli, xlt, xjn]
      rw [xgd_t (by omega), xw_sm (by omega) (by omega)]
    · rw [if_neg q2, if_pos rfl, if_neg (fun z => q2 z.2)]
  · rw [if_neg q, if_neg (by decide), if_neg (fun z => q z.1)]
theorem movesTo_m {r h x y nh : Int} {s : xW} (hh : I32 h) (hx : I32 x) (hy : I32 y) (hr : r = 127 ∨ r = 128) (hn : 0 ≤ nh ∧ nh ≤ 8) (e0 : s 121 3 = nh) (hu : ∀ h, 0 ≤ h → h < nh → (0 ≤ s r h ∧ s r h ≤ 9) ∧ (0 ≤ s r (8 + h) ∧ s r (8 + h) ≤ 9)) : F_X11_movesTo r h x y s = if ((0 ≤ x ∧ x ≤ 9) ∧ (0 ≤ y ∧ y ≤ 9)) ∧ (0 ≤ h ∧ h < nh) then some (if xfa (10 * s r h + s r (8 + h)) (10 * x + y) = 0 then -2 else xfa (10 * s r h + s r (8 + h)) (10 * x + y), xu (xu s r h x) r (8 + h) y) else some (-1, s) := by
  unfold F_X11_movesTo
  rw [xgd_t (by rcases hr with rfl | rfl <;> decide), isHouse_m hh (by rw [e0]; exact hn), e0, isPlace_m hx hy]
  simp only [xbp_s, xbd_s, xls, xli, xlt, xjn, xif01]
  by_cases q2 : 0 ≤ h ∧ h < nh
  · rw [if_pos q2, if_pos (by decide)]
    by_cases q : (0 ≤ x ∧ x ≤ 9) ∧ (0 ≤ y ∧ y ≤ 9)
    · have hb := hu h q2.1 q2.2
      have := xfa_r (a := 10 * s r h + s r (8 + h)) (b := 10 * x + y) (by omega) (by omega)
      rw [if_pos q, if_pos (by decide), puts_m hr (by omega) (by omega) hb q, if_pos ⟨q, q2⟩]
      simp only [xbp_s, xbd_s, xls, xli, xlt, xjn]
      rw [xw_sm (by omega) (by omega)]
    · rw [if_neg q, if_neg (by decide), if_neg (show ¬ xw (-1) = 0 by decide), if_neg (fun z => q z.1)]
  · rw [if_neg q2, if_neg (by decide), if_neg (show ¬ xw (-1) = 0 by decide), if_neg (fun z => q2 z.2)]
theorem XA_move {h x y : Int} (hh : I32 h) (hx : I32 x) (hy : I32 y) : XA (F_X10_move h x y) (F_X11_movesTo 127 h x y) := by
  intro B σ τ hB hB1 hR
  obtain ⟨h1, h2, h3, h4, h5, h6, h7, h8, h9, h10⟩ := id hR
  have hnh := h5.1
  have hnd := h5.2.2.1
  have hrr := XR_mr hB1 hR
  have eC := move_c (s := σ) hh hx hy hnh h6.1.2.1
  have eM := movesTo_m (s := τ) hh hx hy (Or.inl rfl) hnh h5.2.1 hrr.1.2.2.2.2.2
  by_cases q : ((0 ≤ x ∧ x ≤ 9) ∧ (0 ≤ y ∧ y ≤ 9)) ∧ (0 ≤ h ∧ h < σ 0 14)
  · rw [if_pos q] at eC eM
    rw [hrr.2.2.2.1 h q.2.1 q.2.2] at eM
    have hr := xfa_r (a := σ 18 h) (b := 10 * x + y) (h6.1.2.1 h q.2.1 (by omega)) (by omega)
    have hfC := fr_X10_move eC
    have hfM := fr_X11_movesTo eM
    refine ⟨_, _, _, eC, eM, by split <;> omega, ?_, fun c c1 c2 => xu_row _ _ _ (by omega), rfl, rfl, by rw [xu_row _ _ _ (by decide), xu_row _ _ _ (by decide)]⟩
    refine XR_mono (show _ ≤ B + 300 by omega) ⟨Xtext_cW hfC (by decide +kernel) (Xtext_mW hfM (by decide +kernel) h1), Xrow_cW hfC (by decide +kernel) (Xrow_mW hfM (by decide +kernel) h2), Xsky_cW hfC (by decide +kernel) (Xsky_mW hfM (by decide +kernel) h3), Xrule_cW hfC (by decide +kernel) (Xrule_mW hfM (by decide +kernel) h4), Xplan_cW hfC (by decide +kernel) (Xplan_mW hfM (by decide +kernel) h5), ?_, Xpast_cW hfC (by decide +kernel) (Xpast_mW hfM (by decide +kernel) h7), Xkept_cW hfC (by decide +kernel) (Xkept_mW hfM (by decide +kernel) h8), Xrep_cW hfC (by decide +kernel) (Xrep_mW hfM (by decide +kernel) h9), Xforts_cW hfC (by decide +kernel) h10⟩
    obtain ⟨⟨t1, t2, t2b, t2c⟩, t3, t4, t5⟩ := id h6
    refine ⟨⟨?_, ?_, ?_, ?_⟩, ?_, ?_, ?_⟩
    · rw [xu_row _ _ _ (by decide)]; exact t1
    · intro u u1 u2
      by_cases hu : u = h
      · rw [hu, xu_same]; omega
      · rw [xu_slot _ _ _ hu]; exact t2 u u1 u2
    · rw [xu_row _ _ _ (by decide)]; exact t2b
    · rw [xu_row _ _ _ (by decide)]; exact t2c
    · simp only [xu]
      simp
      repeat rw [if_neg (by omega)]
      exact t3
    · intro u v z
      have z' : u < σ 0 14 := z
      have hq := t4 u v z'
      by_cases hu : u = h
      · subst hu
        simp [xu]
        repeat rw [if_neg (by omega)]
        omega
      · simp [xu, hu]
        repeat rw [if_neg (by omega)]
        exact hq
    · intro u v z
      have z' : u < σ 92 0 := z
      simp [xu]
      repeat rw [if_neg (by omega)]
      exact t5 u v z'
  · rw [if_neg q] at eC eM
    exact XA_no (r := -1) hR eC eM (by decide)
theorem op_moves {h x y : Int} (hh : I32 h) (hx : I32 x) (hy : I32 y) : XO (F_X10_moves h x y) (F_X11_moves h x y) := act_O (XA_move hh hx hy)
theorem XA_take {d v : Int} (hd : I32 d) (hv : I32 v) : XA (F_X10_lengthen d v) (F_X11_takesSome d v) := by
  intro B σ τ hB hB1 hR
  obtain ⟨h1, h2, h3, h4, h5, h6, h7, h8, h9, h10⟩ := id hR
  have hnh := h5.1
  have hnd := h5.2.2.1
  have e4 := h5.2.2.2.1
  by_cases q : (0 ≤ d ∧ d < σ 92 0) ∧ (1 ≤ v ∧ v ≤ 9)
  · have hl := h6.2.2.2 d q.1.1 q.1.2
    have hl2 := h6.1.2.2.2 d q.1.1 (by omega)
    have eC : F_X10_lengthen d v σ = some (if σ 20 d = v then -2 else σ 20 d, xu σ 20 d v) := by
      unfold F_X10_lengthen
      rw [isDeed_c hd hnd]
      simp only [xbp_s, xbd_s, xls, xli, xlt, xjn, xif01]
      rw [if_pos q.1, if_pos (by decide), xw_id hv, if_pos q.2.1, if_neg (by omega), xgd_t (by omega), xgd_t (by omega), xw_sm (by omega) (by omega)]
    have eM : F_X11_takesSome d v τ = some (if σ 20 d = v then -2 else σ 20 d, xu τ 127 (24 + d) v) := by
      unfold F_X11_takesSome
      rw [isDeed_m hd (by rw [e4]; exact hnd), e4, xw_id hv, in_eq (by omega) (by omega) (by omega)]
      simp only [xbp_s, xbd_s, xls, xli, xlt, xjn, xif01]
      rw [if_pos q.1, if_pos (by decide), if_pos q.2, if_neg (by decide), xgd_t (by omega), xgd_t (by omega), ← hl.1, xw_sm (by omega) (by omega)]
    have hfC := fr_X10_lengthen eC
    have hfM := fr_X11_takesSome eM
    refine ⟨_, _, _, eC, eM, by split <;> omega, ?_, fun c c1 c2 => xu_row _ _ _ (by omega), rfl, rfl, xu_row _ _ _ (by decide)⟩
    refine XR_mono (show _ ≤ B + 300 by omega) ⟨Xtext_cW hfC (by decide +kernel) (Xtext_mW hfM (by decide +kernel) h1), Xrow_cW hfC (by decide +kernel) (Xrow_mW hfM (by decide +kernel) h2), Xsky_cW hfC (by decide +kernel) (Xsky_mW hfM (by decide +kernel) h3), Xrule_cW hfC (by decide +kernel) (Xrule_mW hfM (by decide +kernel) h4), Xplan_cW hfC (by decide +kernel) (Xplan_mW hfM (by decide +kernel) h5), ?_, Xpast_cW hfC (by decide +kernel) (Xpast_mW hfM (by decide +kernel) h7), Xkept_cW hfC (by decide +kernel) (Xkept_mW hfM (by decide +kernel) h8), Xrep_cW hfC (by decide +kernel) (Xrep_mW hfM (by decide +kernel) h9), Xforts_cW hfC (by decide +kernel) h10⟩
    obtain ⟨⟨t1, t2, t2b, t2c⟩, t3, t4, t5⟩ := id h6
    refine ⟨⟨?_, ?_, ?_, ?_⟩, ?_, ?_, ?_⟩
    · rw [xu_row _ _ _ (by decide)]; exact t1
    · rw [xu_row _ _ _ (by decide)]; exact t2
    · rw [xu_row _ _ _ (by decide)]; exact t2b
    · intro u u1 u2
      by_cases hu : u = d
      · rw [hu, xu_same]; omega
      · rw [xu_slot _ _ _ hu]; exact t2c u u1 u2
    · simp only [xu]
      simp
      repeat rw [if_neg (by omega)]
      exact t3
    · intro u a b
      have z' : u < σ 0 14 := b
      have hq := t4 u a z'
      simp [xu]
      repeat rw [if_neg (by omega)]
      exact hq
    · intro u a b
      have z' : u < σ 92 0 := b
      by_cases hu : u = d
      · subst hu
        simp [xu]
        omega
      · simp [xu, hu]
        repeat rw [if_neg (by omega)]
        exact t5 u a z'
  · refine XA_no (r := -1) hR ?_ ?_ (by decide)
    · unfold F_X10_lengthen
      rw [isDeed_c hd hnd]
      simp only [xbp_s, xbd_s, xls, xli, xlt, xjn, xif01]
      rw [xw_id hv]
      by_cases q1 : 0 ≤ d ∧ d < σ 92 0
      · rw [if_pos q1, if_pos (by decide)]
        by_cases q2 : 1 ≤ v
        · rw [if_pos q2, if_pos (by omega)]
        · rw [if_neg q2]
      · rw [if_neg q1, if_neg (by decide)]
    · unfold F_X11_takesSome
      rw [isDeed_m hd (by rw [e4]; exact hnd), e4, xw_id hv, in_eq (by omega) (by omega) (by omega)]
      simp only [xbp_s, xbd_s, xls, xli, xlt, xjn, xif01]
      by_cases q1 : 0 ≤ d ∧ d < σ 92 0
      · rw [if_pos q1, if_pos (by decide), if_neg (show ¬ (1 ≤ v ∧ v ≤ 9) by omega), if_pos rfl]
      · rw [if_neg q1, if_neg (by decide)]
theorem op_takes {d v : Int} (hd : I32 d) (hv : I32 v) : XO (F_X10_takes d v) (F_X11_takes d v) := act_O (XA_take hd hv)
theorem op_hill {x y : Int} (hx : I32 x) (hy : I32 y) : XO (F_X10_hill x y) (F_X11_hill x y) := by
  intro B σ τ hB hB1 hR
  by_cases q : (0 ≤ x ∧ x ≤ 9) ∧ (0 ≤ y ∧ y ≤ 9)
  · obtain ⟨σ1, τ1, a1, a2, a3, a4, a5, a6⟩ := note_d (XR_thr hR)
    obtain ⟨h1, h2, h3, h4, h5, h6, h7, h8, h9, h10⟩ := id a3
    have hg := h6.1.1.2.1
    have hgr := h6.2.1.2.1
    have hnh := h5.1
    have hnd := h5.2.2.1
    have hr := xfa_r (a := σ1 17 1) (b := 10 * x + y) hg (by omega)
    have eC : F_X10_setHill x y σ1 = some (xfa (σ1 17 1) (10 * x + y), xu σ1 17 1 (10 * x + y)) := by
      unfold F_X10_setHill
      rw [placeOf_c hx hy]
      simp only [xbp_s, xbd_s, xls, xli, xlt, xjn]
      rw [if_pos q, xw_sm (by omega) (by omega), if_neg (by omega), far_c hg (by omega)]
      rfl
    have eM : F_X11_puts 127 34 35 x y τ1 = some (xfa (σ1 17 1) (10 * x + y), xu (xu τ1 127 34 x) 127 35 y) := by
      rw [puts_m (Or.inl rfl) (by decide) (by decide) (by omega) q, ← hgr.1]
    have hx2 : XR (B + 300) (xu σ1 17 1 (10 * x + y)) (xu (xu τ1 127 34 x) 127 35 y) := by
      have hfC := fr_X10_setHill eC
      have hfM := fr_X11_puts eM
      refine XR_mono (show _ ≤ B + 300 by omega) ⟨Xtext_cW hfC (by decide +kernel) (Xtext_mW hfM (by decide +kernel) h1), Xrow_cW hfC (by decide +kernel) (Xrow_mW hfM (by decide +kernel) h2), Xsky_cW hfC (by decide +kernel) (Xsky_mW hfM (by decide +kernel) h3), Xrule_cW hfC (by decide +kernel) (Xrule_mW hfM (by decide +kernel) h4), Xplan_cW hfC (by decide +kernel) (Xplan_mW hfM (by decide +kernel) h5), ?_, Xpast_cW hfC (by decide +kernel) (Xpast_mW hfM (by decide +kernel) h7), Xkept_cW hfC (by decide +kernel) (Xkept_mW hfM (by decide +kernel) h8), Xrep_cW hfC (by decide +kernel) (Xrep_mW hfM (by decide +kernel) h9), Xforts_cW hfC (by decide +kernel) h10⟩
      obtain ⟨⟨t1, t2⟩, t3, t4, t5⟩ := id h6
      refine ⟨⟨?_, ?_⟩, ?_, ?_, ?_⟩
      · simp [xu]; omega
      · rw [xu_row _ _ _ (by decide), xu_row _ _ _ (by decide), xu_row _ _ _ (by decide)]; exact t2
      · simp [xu]; omega
      · intro u v z
        have z' : u < σ1 0 14 := z
        simp [xu]
        repeat rw [if_neg (by omega)]
        exact t4 u v z'
      · intro u v z
        have z' : u < σ1 92 0 := z
        simp [xu]
        repeat rw [if_neg (by omega)]
        exact t5 u v z'
    have hn := Xnote_keep (show B ≤ B + 300 by omega) hx2 a4 (fun c c1 c2 => xu_row _ _ _ (by omega)) rfl rfl (by rw [xu_row _ _ _ (by decide), xu_row _ _ _ (by decide)])
    obtain ⟨σ3, τ3, c1, c2, c3⟩ := add_d (v := xfa (σ1 17 1) (10 * x + y)) hx2 hn
    refine ⟨xfa (σ1 17 1) (10 * x + y), σ3, τ3, ?_, ?_, c3⟩
    · unfold F_X10_hill F_X10_noted
      rw [a1]
      simp only [xbp_s, xbd_s, xls, xli, xlt, xjn]
      rw [eC]
      simp only [xbp_s, xbd_s, xls, xli, xlt, xjn]
      rw [xw_sm (by omega) (by omega), if_pos (by omega), c1]
      rfl
    · unfold F_X11_hill
      simp only [xbp_s, xbd_s, xls, xli, xlt, xjn]
      rw [isPlace_m hx hy, if_pos q]
      simp only [xbp_s, xbd_s, xls, xli, xlt, xjn]
      rw [if_neg (by decide), a2]
      simp only [xbp_s, xbd_s, xls, xli, xlt, xjn]
      rw [eM]
      simp only [xbp_s, xbd_s, xls, xli, xlt, xjn]
      rw [c2]
      rfl
  · obtain ⟨σ1, τ1, a1, a2, a3, a4, a5, a6⟩ := note_d hR
    refine ⟨-1, σ1, xu τ 121 0 0, ?_, ?_, ?_⟩
    · unfold F_X10_hill F_X10_noted F_X10_setHill
      rw [a1]
      simp only [xbp_s, xbd_s, xls, xli, xlt, xjn]
      rw [placeOf_c hx hy]
      simp only [xbp_s, xbd_s, xls, xli, xlt, xjn]
      rw [if_neg q, if_pos (by decide)]
      rfl
    · unfold F_X11_hill
      simp only [xbp_s, xbd_s, xls, xli, xlt, xjn]
      rw [isPlace_m hx hy, if_neg q]
      rfl
    · -- the class has noted, the reference has not
      obtain ⟨h1, h2, h3, h4, h5, h6, h7, h8, h9, h10⟩ := id hR
      have p := note_c h7.1
      rw [a1] at p
      have hR1 : XR B σ1 τ := by
        have e1 := a5
        refine ⟨?_, ?_, ?_, ?_, ?_, ?_, ?_, ?_, ?_, ?_⟩
        · exact Xtext_c (by rw [e1 1 (by omega)]) (e1 2 (by omega)) h1
        · exact Xrow_c (by rw [e1 3 (by omega)]) (e1 4 (by omega)) h2
        · exact Xsky_c (by rw [e1 5 (by omega)]) (e1 6 (by omega)) (by rw [e1 7 (by omega)]) (e1 8 (by omega)) h3
        · exact Xrule_c (by rw [e1 0 (by omega)]) (by rw [e1 0 (by omega)]) (fun _ => ⟨by rw [e1 9 (by omega)], e1 10 (by omega)⟩) (fun _ => ⟨by rw [e1 13 (by omega)], e1 14 (by omega)⟩) h4
        · exact Xplan_c (by rw [e1 0 (by omega)]) (by rw [e1 92 (by omega)]) (e1 93 (by omega)) (e1 94 (by omega)) h5
        · exact Xtown_c (by rw [e1 0 (by omega)]) (by rw [e1 92 (by omega)]) (e1 17 (by omega)) (e1 18 (by omega)) (e1 19 (by omega)) (e1 20 (by omega)) h6
        · obtain ⟨p1, p2, p3, p4⟩ := id h7
          unfold Xpast
          rw [e1 21 (by omega), e1 0 (by omega), e1 92 (by omega)]
          refine ⟨p1, p2, p3, fun j j1 j2 => ?_⟩
          have ex : xpt σ1 j = xpt σ j := by unfold xpt; rw [e1 21 (by omega)]
          have hne := xpt_ne p1 (show 1 ≤ j ∧ j ≤ 15 by omega)
          rw [ex, Option.some.inj p, xtc_far (by omega), xtc_far (by omega), xtc_far (by omega), xtc_far (by omega)]
          exact p4 j j1 j2
        · exact Xkept_c (e1 88 (by omega)) (fun c c1 c2 => e1 c (by omega)) (by rw [e1 0 (by omega)]) (by rw [e1 92 (by omega)]) h8
        · exact Xrep_c (by rw [e1 100 (by omega)]) (e1 101 (by omega)) (e1 102 (by omega)) (by rw [e1 0 (by omega)]) h9
        · exact Xforts_c (by rw [e1 105 (by omega)]) (e1 106 (by omega)) h10
      exact XR_mono (by omega) (XR_thr hR1)
