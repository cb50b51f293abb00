theorem undo_loop {s0 : xW} {u : Int} {k : Int → xW → Option (Int × xW)} (e0 : s0 121 28 = u) (hu : 0 ≤ u ∧ u ≤ 15) :
    ∀ (j i : Nat) (arr : Int → Int) (f : Nat), i + j = 40 → j < f → (∀ x : Int, 0 ≤ x → x < i → arr x = s0 136 (40 * u + x)) → ∃ arr', (∀ x : Int, 0 ≤ x → x < 40 → arr' x = s0 136 (40 * u + x)) ∧ F_X11_undo_26 f i (xrow s0 127 arr) k = k 40 (xrow s0 127 arr') := by
  intro j
  induction j with
  | zero =>
    intro i arr f hi hf ha
    obtain ⟨f, rfl⟩ : ∃ f', f = f' + 1 := ⟨f - 1, by omega⟩
    refine ⟨arr, fun x a b => ha x a (by omega), ?_⟩
    unfold F_X11_undo_26
    rw [xw_sm (by omega) (by omega), if_neg (by omega), show (i : Int) = 40 by omega]
  | succ j ih =>
    intro i arr f hi hf ha
    obtain ⟨f, rfl⟩ : ∃ f', f = f' + 1 := ⟨f - 1, by omega⟩
    unfold F_X11_undo_26
    simp only [xbp_s, xbd_s, xls, xli, xlt, xjn]
    rw [xw_sm (by omega) (by omega), if_pos (by omega), xrow_o (show (121 : Int) ≠ 127 by decide), e0, xgd_t (by omega), xgd_t (by omega), xrow_u, xrow_o (show (136 : Int) ≠ 127 by decide), show ((i : Int) + 1) = ((i + 1 : Nat) : Int) by omega]
    refine ih (i + 1) _ f (by omega) (by omega) (fun x a b => ?_)
    by_cases hx : x = i
    · rw [if_pos hx, hx]
    · rw [if_neg hx]
      exact ha x a (by omega)
theorem op_undo : XO F_X10_undo F_X11_undo := by
  intro B σ τ hB hB1 h
  have hth := XR_thr h
  obtain ⟨h1, h2, h3, h4, h5, h6, h7, h8, h9, h10⟩ := id h
  obtain ⟨p1, p2, p3, p4⟩ := id h7
  have hnh := h5.1
  have hnd := h5.2.2.1
  by_cases q : σ 21 2 = 0
  · refine ⟨-1, σ, xu τ 121 0 0, ?_, ?_, XR_mono (by omega) hth⟩
    · unfold F_X10_undo F_X3_bringBack
      rw [q, if_pos (by decide)]
      rfl
    · unfold F_X11_undo
      simp only [xbp_s, xbd_s, xls, xli, xlt, xjn]
      rw [xu_slot _ _ _ (by decide), p3, q, if_pos (by decide)]
  · generalize hs4 : xu (xu σ 21 1 ((σ 21 1 + 15) % 16)) 21 2 (σ 21 2 - 1) = s4
    have e1 : s4 21 1 = (σ 21 1 + 15) % 16 := by rw [← hs4]; simp [xu]
    have e2 : s4 21 2 = σ 21 2 - 1 := by rw [← hs4]; simp [xu]
    have e3 : ∀ c, c ≠ 21 → s4 c = σ c := fun c hc => by rw [← hs4, xu_row _ _ _ hc, xu_row _ _ _ hc]
    have htb := takeBack_c (σ := s4) (by rw [e1]; omega)
    have ex : 23 + 4 * s4 21 1 = xpt σ 1 := by unfold xpt; rw [e1]; omega
    rw [ex] at htb
    have hxr := xpt_r σ 1
    have eC : F_X10_undo σ = some (σ 21 2 - 1, xtc s4 17 (xpt σ 1)) := by
      unfold F_X10_undo F_X3_bringBack
      simp only [xbp_s, xbd_s, xls, xli, xlt, xjn]
      rw [xw_sm (by omega) (by omega), if_neg q, xw_sm (by omega) (by omega), Int.tmod_eq_emod_of_nonneg (by omega), xu_slot _ _ _ (show (2 : Int) ≠ 1 by decide), hs4, htb]
      simp only [xbp_s, xbd_s, xls, xli, xlt, xjn]
      rw [if_pos (by decide), xtc_far (by omega), e2]
    generalize ht4 : xu (xu τ 121 0 0) 121 28 (σ 21 2 - 1) = t4
    have f1 : t4 121 28 = σ 21 2 - 1 := by rw [← ht4]; simp [xu]
    have f2 : ∀ k, k ≠ 28 → k ≠ 0 → t4 121 k = τ 121 k := fun k a b => by rw [← ht4, xu_slot _ _ _ a, xu_slot _ _ _ b]
    have f3 : ∀ c, c ≠ 121 → t4 c = τ c := fun c hc => by rw [← ht4, xu_row _ _ _ hc, xu_row _ _ _ hc]
    obtain ⟨arr, a1, a2⟩ := undo_loop (s0 := t4) (k := fun (l1_15 : Int) (s16 : xW) => some ((s16 121 28), s16)) f1 (by omega) 40 0 (t4 127) xN (by omega) (by have := xN_ge; omega) (fun x a b => by omega)
    rw [xrow_i] at a2
    have eM : F_X11_undo τ = some (σ 21 2 - 1, xrow t4 127 arr) := by
      unfold F_X11_undo
      simp only [xbp_s, xbd_s, xls, xli, xlt, xjn]
      rw [xu_slot _ _ _ (show (28 : Int) ≠ 0 by decide), p3, xw_sm (by omega) (by omega), if_neg q, ht4]
      refine Eq.trans a2 ?_
      rw [xrow_o (by decide), f1]
    have hfC := fr_X10_undo eC
    have hfM := fr_X11_undo eM
    have hp1 := p4 1 (by omega) (by omega)
    refine ⟨_, _, _, eC, eM, ?_⟩
    refine XR_mono (show _ ≤ B + 300 by omega) ⟨Xtext_cW hfC (by decide +kernel) (Xtext_mW hfM (by decide +kernel) h1), Xrow_cW hfC (by decide +kernel) (Xrow_mW hfM (by decide +kernel) h2), Xsky_cW hfC (by decide +kernel) (Xsky_mW hfM (by decide +kernel) h3), Xrule_cW hfC (by decide +kernel) (Xrule_mW hfM (by decide +kernel) h4), Xplan_cW hfC (by decide +kernel) (Xplan_mW hfM (by decide +kernel) h5), ?_, ?_, Xkept_cW hfC (by decide +kernel) (Xkept_mW hfM (by decide +kernel) h8), Xrep_cW hfC (by decide +kernel) (Xrep_mW hfM (by decide +kernel) h9), Xforts_cW hfC (by decide +kernel) h10⟩
    · unfold Xtown
      rw [xtc_far (c := 0) (by omega), xtc_far (c := 92) (by omega), e3 0 (by decide), e3 92 (by decide), xrow_s]
      have g1 : Xti B (s4 (xpt σ 1)) (s4 (xpt σ 1 + 1)) (s4 (xpt σ 1 + 2)) (s4 (xpt σ 1 + 3)) := by
        rw [e3 _ (by omega), e3 _ (by omega), e3 _ (by omega), e3 _ (by omega)]; exact hp1.1
      have g2 : Xtr (σ 0 14) (σ 92 0) (s4 (xpt σ 1)) (s4 (xpt σ 1 + 1)) (s4 (xpt σ 1 + 2)) (s4 (xpt σ 1 + 3)) arr := by
        rw [e3 _ (by omega), e3 _ (by omega), e3 _ (by omega), e3 _ (by omega)]
        refine Xtr_row hnh.2 hnd.2 hp1.2 (fun k k1 k2 => ?_)
        rw [a1 k k1 k2, f3 136 (by decide)]
      exact ⟨Xti_tc (t := 17) g1, Xtr_tc (t := 17) hnh.2 hnd.2 g2⟩
    · unfold Xpast
      rw [xtc_far (c := 21) (by omega), xtc_far (c := 0) (by omega), xtc_far (c := 92) (by omega), e1, e2, e3 0 (by decide), e3 92 (by decide), xrow_o (show (121 : Int) ≠ 127 by decide), f1, xrow_o (show (136 : Int) ≠ 127 by decide), f3 136 (by decide)]
      refine ⟨by omega, by omega, rfl, fun j j1 j2 => ?_⟩
      have ex2 : xpt (xtc s4 17 (xpt σ 1)) j = xpt σ (j + 1) := by unfold xpt; rw [xtc_far (c := 21) (by omega), e1]; omega
      have hxr2 := xpt_r σ (j + 1)
      rw [ex2, xtc_far (by omega), xtc_far (by omega), xtc_far (by omega), xtc_far (by omega), e3 _ (by omega), e3 _ (by omega), e3 _ (by omega), e3 _ (by omega)]
      have hp := p4 (j + 1) (by omega) (by omega)
      rw [show σ 21 2 - 1 - j = σ 21 2 - (j + 1) by omega]
      exact hp
theorem keep_loop {s0 : xW} {u : Int} {k : Int → xW → Option (Int × xW)} (hu : 0 ≤ u ∧ u < 3) :
    ∀ (j i : Nat) (arr : Int → Int) (f : Nat), i + j = 40 → j < f → (∀ x : Int, 0 ≤ x → x < i → arr (40 * u + x) = s0 127 x) → (∀ y : Int, y < 40 * u ∨ 40 * u + 40 ≤ y → arr y = s0 153 y) → ∃ arr', (∀ x : Int, 0 ≤ x → x < 40 → arr' (40 * u + x) = s0 127 x) ∧ (∀ y : Int, y < 40 * u ∨ 40 * u + 40 ≤ y → arr' y = s0 153 y) ∧ F_X11_keep_38 u f i (xrow s0 153 arr) k = k 40 (xrow s0 153 arr') := by
  intro j
  induction j with
  | zero =>
    intro i arr f hi hf ha hb
    obtain ⟨f, rfl⟩ : ∃ f', f = f' + 1 := ⟨f - 1, by omega⟩
    refine ⟨arr, fun x a b => ha x a (by omega), hb, ?_⟩
    unfold F_X11_keep_38
    rw [xw_sm (by omega) (by omega), if_neg (by omega), show (i : Int) = 40 by omega]
  | succ j ih =>
    intro i arr f hi hf ha hb
    obtain ⟨f, rfl⟩ : ∃ f', f = f' + 1 := ⟨f - 1, by omega⟩
    unfold F_X11_keep_38
    simp only [xbp_s, xbd_s, xls, xli, xlt, xjn]
    rw [xw_sm (by omega) (by omega), if_pos (by omega), xgd_t (by omega), xgd_t (by omega), xrow_u, xrow_o (show (127 : Int) ≠ 153 by decide), show ((i : Int) + 1) = ((i + 1 : Nat) : Int) by omega]
    refine ih (i + 1) _ f (by omega) (by omega) (fun x a b => ?_) (fun y hy => ?_)
    · by_cases hx : x = i
      · rw [if_pos (by omega), hx]
      · rw [if_neg (by omega)]
        exact ha x a (by omega)
    · rw [if_neg (by omega)]
      exact hb y hy
theorem op_keep {a : Int} (ha : I32 a) : XO (F_X10_keep a) (F_X11_keep a) := by
  intro B σ τ hB hB1 h
  have hth := XR_thr h
  obtain ⟨h1, h2, h3, h4, h5, h6, h7, h8, h9, h10⟩ := id h
  have hnh := h5.1
  have hnd := h5.2.2.1
  by_cases q : 0 ≤ a ∧ a < 3
  · have eC : F_X10_keep a σ = some (1, xu (xtc σ (109 + 4 * a) 17) 88 a 1) := by
      unfold F_X10_keep
      simp only [xbp_s, xbd_s, xls, xli, xlt, xjn]
      rw [xw_id ha, if_pos q.1, if_neg (by omega), xgd_t q, xgd_t (towns_kept q), copy_c (towns_kept q) towns_17 (by omega)]
      simp only [xbp_s, xbd_s, xls, xli, xlt, xjn]
      rw [xgd_t q]
    generalize ht : xu (xu (xu τ 121 0 0) 151 a 1) 152 a (τ 121 5) = t
    have f1 : ∀ c, c ≠ 121 → c ≠ 151 → c ≠ 152 → t c = τ c := fun c c1 c2 c3 => by rw [← ht, xu_row _ _ _ c3, xu_row _ _ _ c2, xu_row _ _ _ c1]
    have f2 : ∀ k, k ≠ 0 → t 121 k = τ 121 k := fun k hk => by rw [← ht, xu_row _ _ _ (by decide), xu_row _ _ _ (by decide), xu_slot _ _ _ hk]
    have f3 : ∀ i, t 151 i = if i = a then 1 else τ 151 i := fun i => by rw [← ht]; simp [xu]
    have f4 : ∀ i, t 152 i = if i = a then τ 121 5 else τ 152 i := fun i => by rw [← ht]; simp [xu]
    obtain ⟨arr, a1, a2, a3⟩ := keep_loop (s0 := t) (k := fun (l2_22 : Int) (s23 : xW) => some (1, s23)) q 40 0 (t 153) xN (by omega) (by have := xN_ge; omega) (fun x a b => by omega) (fun y _ => rfl)
    rw [xrow_i] at a3
    have eM : F_X11_keep a τ = some (1, xrow t 153 arr) := by
      unfold F_X11_keep
      simp only [xbp_s, xbd_s, xls, xli, xlt, xjn]
      rw [xw_id ha, in_eq (by omega) (by omega) (by omega), if_pos (by omega)]
      simp only [xbp_s, xbd_s, xls, xli, xlt, xjn]
      rw [if_neg (by decide), xgd_t q, xgd_t q, xu_row _ _ _ (show (121 : Int) ≠ 151 by decide), xu_slot _ _ _ (show (5 : Int) ≠ 0 by decide), ht]
      exact a3
    have hfM := fr_X11_keep eM
    have e1 : ∀ c, c ≠ 88 → (c < 109 ∨ 120 < c) → xu (xtc σ (109 + 4 * a) 17) 88 a 1 c = σ c := fun c c1 c2 => by rw [xu_row _ _ _ c1, xtc_far (by omega)]
    refine ⟨_, _, _, eC, eM, XR_mono (show B ≤ B + 300 by omega) ⟨?_, ?_, ?_, ?_, ?_, ?_, ?_, ?_, ?_, ?_⟩⟩
    · exact Xtext_c (by rw [e1 1 (by decide) (by omega)]) (e1 2 (by decide) (by omega)) (Xtext_mW hfM (by decide +kernel) h1)
    · exact Xrow_c (by rw [e1 3 (by decide) (by omega)]) (e1 4 (by decide) (by omega)) (Xrow_mW hfM (by decide +kernel) h2)
    · exact Xsky_c (by rw [e1 5 (by decide) (by omega)]) (e1 6 (by decide) (by omega)) (by rw [e1 7 (by decide) (by omega)]) (e1 8 (by decide) (by omega)) (Xsky_mW hfM (by decide +kernel) h3)
    · exact Xrule_c (by rw [e1 0 (by decide) (by omega)]) (by rw [e1 0 (by decide) (by omega)]) (fun _ => ⟨by rw [e1 9 (by decide) (by omega)], e1 10 (by decide) (by omega)⟩) (fun _ => ⟨by rw [e1 13 (by decide) (by omega)], e1 14 (by decide) (by omega)⟩) (Xrule_mW hfM (by decide +kernel) h4)
    · exact Xplan_c (by rw [e1 0 (by decide) (by omega)]) (by rw [e1 92 (by decide) (by omega)]) (e1 93 (by decide) (by omega)) (e1 94 (by decide) (by omega)) (Xplan_mW hfM (by decide +kernel) h5)
    · exact Xtown_c (by rw [e1 0 (by decide) (by omega)]) (by rw [e1 92 (by decide) (by omega)]) (e1 17 (by decide) (by omega)) (e1 18 (by decide) (by omega)) (e1 19 (by decide) (by omega)) (e1 20 (by decide) (by omega)) (Xtown_mW hfM (by decide +kernel) h6)
    · exact Xpast_c (by rw [e1 21 (by decide) (by omega)]) (by rw [e1 21 (by decide) (by omega)]) (fun c c1 c2 => e1 c (by omega) (by omega)) (by rw [e1 0 (by decide) (by omega)]) (by rw [e1 92 (by decide) (by omega)]) (Xpast_mW hfM (by decide +kernel) h7)
    · unfold Xkept
      rw [e1 0 (by decide) (by omega), e1 92 (by decide) (by omega), xrow_o (show (121 : Int) ≠ 153 by decide), f2 5 (by decide), xrow_o (show (151 : Int) ≠ 153 by decide), xrow_o (show (152 : Int) ≠ 153 by decide), xrow_s]
      refine ⟨h8.1, fun i i1 i2 => ?_⟩
      rw [f3, f4]
      by_cases hi : i = a
      · subst hi
        rw [if_pos rfl, if_pos rfl, xu_same]
        refine ⟨Or.inr rfl, Or.inr rfl, fun _ => by have := h8.1; omega, ⟨fun _ => ⟨rfl, rfl⟩, fun _ => rfl⟩, fun _ => ?_⟩
        rw [xu_row _ _ _ (by omega), xu_row _ _ _ (by omega), xu_row _ _ _ (by omega), xu_row _ _ _ (by omega)]
        refine ⟨Xti_tc (t := 109 + 4 * i) (u := 17) h6.1, Xtr_row hnh.2 hnd.2 (Xtr_tc (t := 109 + 4 * i) (u := 17) hnh.2 hnd.2 h6.2) (fun k k1 k2 => ?_)⟩
        rw [a1 k k1 k2, f1 127 (by decide) (by decide) (by decide)]
      · rw [if_neg hi, if_neg hi, xu_slot _ _ _ hi, xtc_far (by omega)]
        obtain ⟨k1, k2, k3, k4, k5⟩ := h8.2 i i1 i2
        refine ⟨k1, k2, k3, k4, fun hk => ?_⟩
        rw [xu_row _ _ _ (by omega), xu_row _ _ _ (by omega), xu_row _ _ _ (by omega), xu_row _ _ _ (by omega), xtc_far (by omega), xtc_far (by omega), xtc_far (by omega), xtc_far (by omega)]
        refine ⟨(k5 hk).1, Xtr_row hnh.2 hnd.2 (k5 hk).2 (fun k x y => ?_)⟩
        rw [a2 _ (by omega), f1 153 (by decide) (by decide) (by decide)]
    · exact Xrep_c (by rw [e1 100 (by decide) (by omega)]) (e1 101 (by decide) (by omega)) (e1 102 (by decide) (by omega)) (by rw [e1 0 (by decide) (by omega)]) (Xrep_mW hfM (by decide +kernel) h9)
    · exact Xforts_c (by rw [e1 105 (by decide) (by omega)]) (e1 106 (by decide) (by omega)) h10
  · refine ⟨0, σ, xu τ 121 0 0, ?_, ?_, XR_mono (by omega) hth⟩
    · unfold F_X10_keep
      simp only [xbp_s, xbd_s, xls, xli, xlt, xjn]
      rw [xw_id ha]
      by_cases q1 : 0 ≤ a
      · rw [if_pos q1, if_pos (by omega)]
      · rw [if_neg q1]
    · unfold F_X11_keep
      simp only [xbp_s, xbd_s, xls, xli, xlt, xjn]
      rw [xw_id ha, in_eq (by omega) (by omega) (by omega), if_neg (by omega)]
      rfl
theorem again_loop {s0 : xW} {u : Int} {k : Int → xW → Option (Int × xW)} (hu : 0 ≤ u ∧ u < 3) :
    ∀ (j i : Nat) (arr : Int → Int) (f : Nat), i + j = 40 → j < f → (∀ x : Int, 0 ≤ x → x < i → arr x = s0 153 (40 * u + x)) → ∃ arr', (∀ x : Int, 0 ≤ x → x < 40 → arr' x = s0 153 (40 * u + x)) ∧ F_X11_again_43 u f i (xrow s0 127 arr) k = k 40 (xrow s0 127 arr') := by
  intro j
  induction j with
  | zero =>
    intro i arr f hi hf ha
    obtain ⟨f, rfl⟩ : ∃ f', f = f' + 1 := ⟨f - 1, by omega⟩
    refine ⟨arr, fun x a b => ha x a (by omega), ?_⟩
    unfold F_X11_again_43
    rw [xw_sm (by omega) (by omega), if_neg (by omega), show (i : Int) = 40 by omega]
  | succ j ih =>
    intro i arr f hi hf ha
    obtain ⟨f, rfl⟩ : ∃ f', f = f' + 1 := ⟨f - 1, by omega⟩
    unfold F_X11_again_43
    simp only [xbp_s, xbd_s, xls, xli, xlt, xjn]
    rw [xw_sm (by omega) (by omega), if_pos (by omega), xgd_t (by omega), xgd_t (by omega), xrow_u, xrow_o (show (153 : Int) ≠ 127 by decide), show ((i : Int) + 1) = ((i + 1 : Nat) : Int) by omega]
    refine ih (i + 1) _ f (by omega) (by omega) (fun x a b => ?_)
    by_cases hx : x = i
    · rw [if_pos hx, hx]
    · rw [if_neg hx]
      exact ha x a (by omega)
theorem op_again {a : Int} (ha : I32 a) : XO (F_X10_again a) (F_X11_again a) := by
  intro B σ τ hB hB1 h
  have hth := XR_thr h
  obtain ⟨h1, h2, h3, h4, h5, h6, h7, h8, h9, h10⟩ := id h
  have hnh := h5.1
  have hnd := h5.2.2.1
  have m1 : ∀ c, c ≠ 121 → xu τ 121 0 0 c = τ c := fun c hc => xu_row _ _ _ hc
  have m2 : ∀ k, k ≠ 0 → xu τ 121 0 0 121 k = τ 121 k := fun k hk => xu_slot _ _ _ hk
  by_cases q : 0 ≤ a ∧ a < 3
  · obtain ⟨k1, k2, k3, k4, k5⟩ := h8.2 a q.1 q.2
    by_cases q2 : σ 88 a = 1
    · obtain ⟨k6, k7⟩ := k4.mp q2
      obtain ⟨g1, g2⟩ := k5 q2
      have hch := h8.1
      have eC : F_X10_again a σ = some (1, xu (xtc σ 17 (109 + 4 * a)) 21 2 0) := by
        unfold F_X10_again F_X3_drop
        simp only [xbp_s, xbd_s, xls, xli, xlt, xjn]
        rw [xw_id ha, if_pos q.1, if_pos q.2, xgd_t q, q2, if_neg (by decide), xgd_t q, xgd_t (towns_kept q), copy_c towns_17 (towns_kept q) (by omega)]
        rfl
      obtain ⟨arr, a1, a2⟩ := again_loop (s0 := xu τ 121 0 0) (k := fun (l2_23 : Int) (s24 : xW) => xls (xu s24 121 28 0) fun s25 => some (1, s25)) q 40 0 ((xu τ 121 0 0) 127) xN (by omega) (by have := xN_ge; omega) (fun x a b => by omega)
      rw [xrow_i] at a2
      have eM : F_X11_again a τ = some (1, xu (xrow (xu τ 121 0 0) 127 arr) 121 28 0) := by
        unfold F_X11_again
        simp only [xbp_s, xbd_s, xls, xli, xlt, xjn]
        rw [xw_id ha, in_eq (by omega) (by omega) (by omega), if_pos (by omega)]
        simp only [xbp_s, xbd_s, xls, xli, xlt, xjn]
        rw [if_pos (by decide), xgd_t q, m1 151 (by decide), k6, if_pos (by decide), xgd_t q, m1 152 (by decide), m2 5 (by decide), k7, if_neg (by simp)]
        exact a2
      have hfC := fr_X10_again eC
      have hfM := fr_X11_again eM
      refine ⟨_, _, _, eC, eM, ?_⟩
      refine XR_mono (show _ ≤ B + 300 by omega) ⟨Xtext_cW hfC (by decide +kernel) (Xtext_mW hfM (by decide +kernel) h1), Xrow_cW hfC (by decide +kernel) (Xrow_mW hfM (by decide +kernel) h2), Xsky_cW hfC (by decide +kernel) (Xsky_mW hfM (by decide +kernel) h3), Xrule_cW hfC (by decide +kernel) (Xrule_mW hfM (by decide +kernel) h4), Xplan_cW hfC (by decide +kernel) (Xplan_mW hfM (by decide +kernel) h5), ?_, ?_, Xkept_cW hfC (by decide +kernel) (Xkept_mW hfM (by decide +kernel) h8), Xrep_cW hfC (by decide +kernel) (Xrep_mW hfM (by decide +kernel) h9), Xforts_cW hfC (by decide +kernel) h10⟩
      · unfold Xtown
        rw [xu_row _ _ _ (by decide), xu_row _ _ _ (by decide), xu_row _ _ _ (by decide), xu_row _ _ _ (by decide), xu_row _ _ _ (by decide), xu_row _ _ _ (by decide), xtc_far (c := 0) (by omega), xtc_far (c := 92) (by omega), xu_row _ _ _ (by decide), xrow_s]
        refine ⟨Xti_tc (t := 17) g1, Xtr_tc (t := 17) hnh.2 hnd.2 (Xtr_row hnh.2 hnd.2 g2 (fun k x y => ?_))⟩
        rw [a1 k x y, m1 153 (by decide)]
      · unfold Xpast
        have z : xu (xtc σ 17 (109 + 4 * a)) 21 2 0 21 1 = σ 21 1 := by rw [xu_slot _ _ _ (by decide), xtc_far (by omega)]
        have z2 : xu (xtc σ 17 (109 + 4 * a)) 21 2 0 21 2 = 0 := xu_same _ _ _ _
        rw [z, z2, xu_same]
        exact ⟨h7.1, by decide, rfl, fun j j1 j2 => by omega⟩
    · have q3 : σ 88 a = 0 := by omega
      refine ⟨0, σ, xu τ 121 0 0, ?_, ?_, XR_mono (by omega) hth⟩
      · unfold F_X10_again
        simp only [xbp_s, xbd_s, xls, xli, xlt, xjn]
        rw [xw_id ha, if_pos q.1, if_pos q.2, xgd_t q, q3, if_pos (by decide)]
      · unfold F_X11_again
        simp only [xbp_s, xbd_s, xls, xli, xlt, xjn]
        rw [xw_id ha, in_eq (by omega) (by omega) (by omega), if_pos (by omega)]
        simp only [xbp_s, xbd_s, xls, xli, xlt, xjn]
        rw [if_pos (by decide), xgd_t q, m1 151 (by decide), m1 152 (by decide), m2 5 (by decide)]
        rcases k2 with k2 | k2
        · rw [k2, if_neg (by decide)]
        · have hch := h8.1
          have hk3 := k3 k2
          have hne : τ 152 a ≠ τ 121 5 := fun z => q2 (k4.mpr ⟨k2, z⟩)
          rw [k2, if_pos (by decide), xgd_t q, xw_sm (by omega) (by omega), xw_sm (by omega) (by omega), if_pos hne]
  · refine ⟨0, σ, xu τ 121 0 0, ?_, ?_, XR_mono (by omega) hth⟩
    · unfold F_X10_again
      simp only [xbp_s, xbd_s, xls, xli, xlt, xjn]
      rw [xw_id ha]
      by_cases q1 : 0 ≤ a
      · rw [if_pos q1, if_neg (by omega)]
      · rw [if_neg q1]
    · unfold F_X11_again
      simp only [xbp_s, xbd_s, xls, xli, xlt, xjn]
      rw [xw_id ha, in_eq (by omega) (by omega) (by omega), if_neg (by omega)]
      rfl
