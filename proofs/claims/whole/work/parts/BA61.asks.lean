/-! asks -/
theorem asks_l {n : Int} {G : Int → Int → Int} {P : Int → Bool} {σ τ s0 : xW} {kC kM : Int → Int → Int → xW → Option (Int × xW)} (hr : σ 0 4 = 9 ∨ σ 0 4 = 13) (hn : 0 ≤ n ∧ n ≤ 8) (en : σ 0 14 = n) (e0 : τ 121 3 = n) (hG : ∀ q x : Int, 0 ≤ q → q < 100 → 0 ≤ G q x ∧ G q x ≤ 108) (hMc : ∀ (q x : Int) (s : xW), 0 ≤ q → q < 100 → 0 ≤ x → x < σ 0 14 → Xsc σ s → ∃ s', F_X10_minuteBy q x s = some (G q x, s') ∧ ∀ c, c ≠ 90 → c ≠ σ 0 4 + 2 → s' c = s c) (hMm : ∀ (q x : Int) (t : xW), 0 ≤ q → q < 100 → 0 ≤ x → x < σ 0 14 → Xsm τ t → ∃ t', F_X11_hearsBy 127 x 0 (q / 10) (q % 10) t = some (G q x, t') ∧ ∀ c, c ≠ 133 → c ≠ 134 → t' c = t c) (hS : ∀ (q : Int) (t : xW), 0 ≤ q → q < 100 → Xsm τ t → ∃ t', F_X11_isSo q t = some (b01 (P q), t') ∧ ∀ c, c ≠ 133 → c ≠ 134 → t' c = t c) (hτ : ∀ t, Xsn (xu τ 121 0 0) t → Xsm τ t) (hc : 0 < xcnf P 100) (h100 : s0 100 4 = xcnf P 100) (hw : Xwe P (s0 103) 100) :
    ∀ (j i fu gu : Nat) (v p w o : Int) (s t : xW), (i : Int) + j = n → j < fu → j < gu → Xsc σ s → s 100 = s0 100 → s 103 = s0 103 → Xsn (xu τ 121 0 0) t → ((i = 0 ∧ v = 101 ∧ p = 0 ∧ o = -2 ∧ w = 1000000) ∨ (0 < i ∧ w = v ∧ o = p ∧ (1 ≤ v ∧ v ≤ 100) ∧ 0 ≤ p ∧ p < i)) → ∃ v' p' w' o' s' t', F_X10_asks_24 fu v p (i : Int) s kC = kC v' p' n s' ∧ F_X11_asks_14 gu o w (i : Int) t kM = kM o' w' n t' ∧ Xsc σ s' ∧ Xsn (xu τ 121 0 0) t' ∧ ((n = 0 ∧ o' = -2 ∧ w' = 1000000) ∨ (0 < n ∧ w' = v' ∧ o' = p' ∧ (1 ≤ v' ∧ v' ≤ 100) ∧ 0 ≤ p' ∧ p' < n)) := by
  intro j
  induction j with
  | zero =>
    intro i fu gu v p w o s t hi hfu hgu hs h1 h2 ht hv
    obtain ⟨fu, rfl⟩ : ∃ g, fu = g + 1 := ⟨fu - 1, by omega⟩
    obtain ⟨gu, rfl⟩ : ∃ g, gu = g + 1 := ⟨gu - 1, by omega⟩
    have ei : (i : Int) = n := by omega
    have e3 : t 121 3 = n := by rw [ht 121 (by decide) (by decide) (by decide), xu_slot _ _ _ (show (3 : Int) ≠ 0 by decide)]; exact e0
    have e14 : s 0 14 = n := by rw [hs 0 (by decide) (by omega) (by decide) (by decide) (by decide)]; exact en
    refine ⟨v, p, w, o, s, t, ?_, ?_, hs, ht, by omega⟩
    · rw [ei, F_X10_asks_24, e14, if_neg (Int.lt_irrefl _)]
    · rw [ei, F_X11_asks_14, e3, if_neg (Int.lt_irrefl _)]
  | succ j ih =>
    intro i fu gu v p w o s t hi hfu hgu hs h1 h2 ht hv
    obtain ⟨fu, rfl⟩ : ∃ g, fu = g + 1 := ⟨fu - 1, by omega⟩
    obtain ⟨gu, rfl⟩ : ∃ g, gu = g + 1 := ⟨gu - 1, by omega⟩
    have e14 : s 0 14 = n := by rw [hs 0 (by decide) (by omega) (by decide) (by decide) (by decide)]; exact en
    have hm := (xmxl_r G P i 100)
    have hm1 := hm.2.2 hc
    obtain ⟨s1, u1, u2, u3, u4⟩ := most_c (x := (i : Int)) (P := P) hr (by omega) hG hMc hs (by rw [h1]; exact h100) (by rw [h2]; exact hw)
    obtain ⟨t1, u5, u6⟩ := asks_step (l1 := o) (l2 := w) (i := i) (gu := gu) (G := G) (P := P) (t := t) (k := kM) hn en e0 (by omega) (by omega) hG hMm hS hτ ht
    have hm0 : 0 < xmxl G P i 100 := by omega
    rw [if_pos hm0, if_pos hm0] at u5
    have e : F_X10_asks_24 (fu + 1) v p (i : Int) s kC = if xmxl G P i 100 < v then F_X10_asks_24 fu (xmxl G P i 100) (i : Int) ((i : Int) + 1) s1 kC else F_X10_asks_24 fu v p ((i : Int) + 1) s1 kC := by
      rw [F_X10_asks_24, e14, xw_sm (x := (i : Int)) (by omega) (by omega), xw_sm (x := n) (by omega) (by omega), if_pos (by omega), u1]
      simp only [xbp_s, xbd_s, xls, xli, xlt, xjn]
      rw [xw_sm (x := xmxl G P i 100) (by omega) (by omega), xw_sm (x := v) (by omega) (by omega)]
    rw [e, u5, show ((i : Int) + 1) = ((i + 1 : Nat) : Int) by omega]
    by_cases z : xmxl G P i 100 < v
    · rw [if_pos z, if_pos (by omega), show min w (xmxl G P i 100) = xmxl G P i 100 by omega]
      exact ih (i + 1) fu gu (xmxl G P i 100) i (xmxl G P i 100) i s1 t1 (by omega) (by omega) (by omega) u2 (by rw [u3]; exact h1) (by rw [u4]; exact h2) u6 (Or.inr ⟨by omega, rfl, rfl, by omega, by omega, by omega⟩)
    · rw [if_neg z, if_neg (by omega), show min w (xmxl G P i 100) = w by omega]
      exact ih (i + 1) fu gu v p w o s1 t1 (by omega) (by omega) (by omega) u2 (by rw [u3]; exact h1) (by rw [u4]; exact h2) u6 (by omega)
theorem asks_0 {n : Int} {G : Int → Int → Int} {P : Int → Bool} {σ τ : xW} {kM : Int → Int → Int → xW → Option (Int × xW)} (hn : 0 ≤ n ∧ n ≤ 8) (en : σ 0 14 = n) (e0 : τ 121 3 = n) (hG : ∀ q x : Int, 0 ≤ q → q < 100 → 0 ≤ G q x ∧ G q x ≤ 108) (hMm : ∀ (q x : Int) (t : xW), 0 ≤ q → q < 100 → 0 ≤ x → x < σ 0 14 → Xsm τ t → ∃ t', F_X11_hearsBy 127 x 0 (q / 10) (q % 10) t = some (G q x, t') ∧ ∀ c, c ≠ 133 → c ≠ 134 → t' c = t c) (hS : ∀ (q : Int) (t : xW), 0 ≤ q → q < 100 → Xsm τ t → ∃ t', F_X11_isSo q t = some (b01 (P q), t') ∧ ∀ c, c ≠ 133 → c ≠ 134 → t' c = t c) (hτ : ∀ t, Xsn (xu τ 121 0 0) t → Xsm τ t) (hc : xcnf P 100 = 0 ∨ n = 0) :
    ∀ (j i gu : Nat) (t : xW), (i : Int) + j = n → j < gu → Xsn (xu τ 121 0 0) t → ∃ t', F_X11_asks_14 gu (-2) 1000000 (i : Int) t kM = kM (-2) 1000000 n t' ∧ Xsn (xu τ 121 0 0) t' := by
  intro j
  induction j with
  | zero =>
    intro i gu t hi hgu ht
    obtain ⟨gu, rfl⟩ : ∃ g, gu = g + 1 := ⟨gu - 1, by omega⟩
    have ei : (i : Int) = n := by omega
    have e3 : t 121 3 = n := by rw [ht 121 (by decide) (by decide) (by decide), xu_slot _ _ _ (show (3 : Int) ≠ 0 by decide)]; exact e0
    refine ⟨t, ?_, ht⟩
    rw [ei, F_X11_asks_14, e3, if_neg (Int.lt_irrefl _)]
  | succ j ih =>
    intro i gu t hi hgu ht
    obtain ⟨gu, rfl⟩ : ∃ g, gu = g + 1 := ⟨gu - 1, by omega⟩
    have hm := (xmxl_r G P i 100).2.1 (by omega)
    obtain ⟨t1, u5, u6⟩ := asks_step (l1 := -2) (l2 := 1000000) (i := i) (gu := gu) (G := G) (P := P) (t := t) (k := kM) hn en e0 (by omega) (by omega) hG hMm hS hτ ht
    rw [hm, if_neg (by decide), if_neg (by decide)] at u5
    rw [u5, show ((i : Int) + 1) = ((i + 1 : Nat) : Int) by omega]
    exact ih (i + 1) gu t1 (by omega) (by omega) u6
theorem op_asks : XO F_X10_asks F_X11_asks := by
  intro B σ τ hB hB1 h
  have hN := xN_ge
  obtain ⟨G, P, s, hG, hMc, hMm, hS, f1, f2, f3, f4⟩ := weath_d hB1 h
  obtain ⟨h1, h2, h3, h4, h5, h6, h7, h8, h9, h10⟩ := id h
  have hr := (XR_cw h).1
  have hc := xcnf_r P 100
  have hn := h5.1
  have hτ : ∀ t, Xsn (xu τ 121 0 0) t → Xsm τ t := fun t ht => ⟨fun c c1 c2 c3 c4 c5 => by rw [ht c c3 c4 c5, xu_row _ _ _ c1], fun k k1 k2 => by rw [ht 121 (by decide) (by decide) (by decide), xu_slot _ _ _ k1]⟩
  by_cases z : xcnf P 100 = 0 ∨ σ 0 14 = 0
  · obtain ⟨t, g1, g2⟩ := asks_0 (kM := fun (l1_66 : Int) (l2_67 : Int) (l3_68 : Int) (s69 : xW) =>
      xjn (fun (s70 : xW) =>
        some (l1_66, s70)
      ) fun j71 =>
      if 0 ≤ (xw l1_66) then
        xls (xu s69 121 1 0) fun s75 =>
        xbp (F_X11_enters (xw l2_67) s75) fun s78 =>
        j71 s78
      else
        j71 s69) hn rfl h5.2.1 hG hMm hS hτ z (σ 0 14).toNat 0 xN (xu τ 121 0 0) (by omega) (by omega) (fun _ _ _ _ => rfl)
    have eM : F_X11_asks τ = some (-2, t) := by
      unfold F_X11_asks
      simp only [xls, xlt]
      refine Eq.trans g1 ?_
      simp only [xjn]
      rw [if_neg (by decide)]
    have em1 : t 121 1 = τ 121 1 := by rw [g2 121 (by decide) (by decide) (by decide), xu_slot _ _ _ (show (1 : Int) ≠ 0 by decide)]
    have em2 : t 122 = τ 122 := by rw [g2 122 (by decide) (by decide) (by decide), xu_row _ _ _ (show (122 : Int) ≠ 121 by decide)]
    by_cases z2 : σ 0 14 = 0
    · have eC : F_X10_asks σ = some (-2, σ) := by
        unfold F_X10_asks
        simp only [xjn]
        rw [z2, if_neg (by decide)]
      exact ⟨_, _, _, eC, eM, XR_W (fr_X10_asks eC) (by decide +kernel) (fr_X11_asks eM) (by decide +kernel) h (Xrow_m em1 em2 h2)⟩
    · have eC : F_X10_asks σ = some (-2, s) := by
        unfold F_X10_asks
        simp only [xjn]
        rw [xw_sm (x := σ 0 14) (by omega) (by omega), if_pos z2, f1]
        simp only [xbp_s, xbd_s, xls, xli, xlt, xjn]
        rw [if_pos (by rw [xw_sm (x := xcnf P 100) (by omega) (by omega)]; omega)]
      exact ⟨_, _, _, eC, eM, XR_W (fr_X10_asks eC) (by decide +kernel) (fr_X11_asks eM) (by decide +kernel) h (Xrow_c (by rw [f2 3 (by decide) (by omega) (by decide) (by decide) (by decide)]) (f2 4 (by decide) (by omega) (by decide) (by decide) (by decide)) (Xrow_m em1 em2 h2))⟩
  · obtain ⟨v, p, w, o, s', t, g1, g2, g3, g4, g5⟩ := asks_l (s0 := s) (kC := fun (l1_28 : Int) (l2_29 : Int) (l3_30 : Int) (s31 : xW) => xbp (F_X6_tell (xw l1_28) s31) fun s33 => some (l2_29, s33)) (kM := fun (l1_66 : Int) (l2_67 : Int) (l3_68 : Int) (s69 : xW) =>
      xjn (fun (s70 : xW) =>
        some (l1_66, s70)
      ) fun j71 =>
      if 0 ≤ (xw l1_66) then
        xls (xu s69 121 1 0) fun s75 =>
        xbp (F_X11_enters (xw l2_67) s75) fun s78 =>
        j71 s78
      else
        j71 s69) hr hn rfl h5.2.1 hG hMc hMm hS hτ (by omega) f3 f4 (σ 0 14).toNat 0 xN xN 101 0 1000000 (-2) s (xu τ 121 0 0) (by omega) (by omega) (by omega) f2 rfl rfl (fun _ _ _ _ => rfl) (Or.inl ⟨rfl, rfl, rfl, rfl, rfl⟩)
    rcases g5 with g5 | ⟨g6, g7, g8, g9, g10⟩
    · omega
    · rw [g7, g8] at g2
      have eC : F_X10_asks σ = some (p, xt1 s' v) := by
        unfold F_X10_asks
        simp only [xjn]
        rw [xw_sm (x := σ 0 14) (by omega) (by omega), if_pos (by omega), f1]
        simp only [xbp_s, xbd_s, xls, xli, xlt, xjn]
        rw [if_neg (by rw [xw_sm (x := xcnf P 100) (by omega) (by omega)]; omega)]
        refine Eq.trans g1 ?_
        rw [xw_sm (x := v) (by omega) (by omega), tell_1]
        rfl
      have eM : F_X11_asks τ = some (p, xe1 t v) := by
        unfold F_X11_asks
        simp only [xls, xlt]
        refine Eq.trans g2 ?_
        simp only [xjn]
        rw [xw_sm (x := p) (by omega) (by omega), if_pos (by omega), xw_sm (x := v) (by omega) (by omega)]
        simp only [xls, xlt]
        rw [ent_1]
        rfl
      exact ⟨_, _, _, eC, eM, XR_W (fr_X10_asks eC) (by decide +kernel) (fr_X11_asks eM) (by decide +kernel) h (Xrow_1 (a := v) rfl (by simp [xt1, xu]) rfl (by simp [xe1, xu]))⟩
