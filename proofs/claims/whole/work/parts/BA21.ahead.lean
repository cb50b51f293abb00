theorem xt1_o {s : xW} {a c : Int} (h3 : c ≠ 3) (h4 : c ≠ 4) : xt1 s a c = s c := by unfold xt1; rw [xu_row _ _ _ h3, xu_row _ _ _ h4, xu_row _ _ _ h3]
theorem xt2_o {s : xW} {a b c : Int} (h3 : c ≠ 3) (h4 : c ≠ 4) : xt2 s a b c = s c := by unfold xt2; rw [xu_row _ _ _ h3, xu_row _ _ _ h4, xt1_o h3 h4]
theorem xt3_o {s : xW} {a b d c : Int} (h3 : c ≠ 3) (h4 : c ≠ 4) : xt3 s a b d c = s c := by unfold xt3; rw [xu_row _ _ _ h3, xu_row _ _ _ h4, xt2_o h3 h4]
theorem xe1_o {s : xW} {a c : Int} (h3 : c ≠ 121) (h4 : c ≠ 122) : xe1 s a c = s c := by unfold xe1; rw [xu_row _ _ _ h3, xu_row _ _ _ h4, xu_row _ _ _ h3]
theorem xe2_o {s : xW} {a b c : Int} (h3 : c ≠ 121) (h4 : c ≠ 122) : xe2 s a b c = s c := by unfold xe2; rw [xu_row _ _ _ h3, xu_row _ _ _ h4, xe1_o h3 h4]
theorem xe3_o {s : xW} {a b d c : Int} (h3 : c ≠ 121) (h4 : c ≠ 122) : xe3 s a b d c = s c := by unfold xe3; rw [xu_row _ _ _ h3, xu_row _ _ _ h4, xe2_o h3 h4]
theorem xe1_k {s : xW} {a k : Int} (h : k ≠ 1) : xe1 s a 121 k = s 121 k := by unfold xe1; rw [xu_slot _ _ _ h, xu_row _ _ _ (by decide), xu_slot _ _ _ h]
theorem xe2_k {s : xW} {a b k : Int} (h : k ≠ 1) : xe2 s a b 121 k = s 121 k := by unfold xe2; rw [xu_slot _ _ _ h, xu_row _ _ _ (by decide), xe1_k h]
theorem xe3_k {s : xW} {a b c k : Int} (h : k ≠ 1) : xe3 s a b c 121 k = s 121 k := by unfold xe3; rw [xu_slot _ _ _ h, xu_row _ _ _ (by decide), xe2_k h]
def Xcc (c : Int) : Prop := c = 0 ∨ c = 5 ∨ c = 6 ∨ c = 7 ∨ c = 8 ∨ c = 9 ∨ c = 10 ∨ c = 13 ∨ c = 14 ∨ c = 17 ∨ c = 18 ∨ c = 20 ∨ c = 92 ∨ c = 93 ∨ c = 94
theorem Xcw_e {m : Int} {cd : Int → Int} {r : Int} {s s1 : xW} (h : Xcw m cd r s) (e : ∀ c, Xcc c → s1 c = s c) : Xcw m cd r s1 := by
  have hr := h.1
  unfold Xcc at e
  unfold Xcw at *
  rw [e r (by omega), e (r + 1) (by omega), e 5 (by omega), e 7 (by omega), e 8 (by omega), e 0 (by omega), e 92 (by omega), e 93 (by omega), e 94 (by omega), e 18 (by omega), e 20 (by omega)]
  exact h
theorem Xsame_e {s s1 : xW} (e : ∀ c, Xcc c → s1 c = s c) : Xsame s s1 := by
  unfold Xcc at e
  unfold Xsame
  rw [e 5 (by omega), e 7 (by omega), e 92 (by omega)]
  exact ⟨rfl, e 6 (by omega), rfl, e 8 (by omega), e 18 (by omega), e 93 (by omega), e 94 (by omega), e 20 (by omega), rfl⟩
theorem Xpf_e {m : Int} {cd : Int → Int} {r gun day : Int} {s s1 : xW} (hr : r = 9 ∨ r = 13) (h : Xpf m cd r gun day s s1) : ∀ c, Xcc c → s1 c = s c := by
  intro c hc
  unfold Xcc at hc
  exact h.1 c (by omega) (by omega) (by omega) (by omega) (by omega)
theorem op_ahead {a : Int} (ha : I32 a) : XO (F_X10_ahead a) (F_X11_ahead a) := by
  intro B σ τ hB hB1 h
  have hcw := XR_cw h
  have hmw := XR_mw h
  have hmr := XR_mr hB1 h
  have hth := XR_thr h
  obtain ⟨h1, h2, h3, h4, h5, h6, h7, h8, h9, h10⟩ := id h
  have hday := h6.1.1.2.2.2.2.2
  have hgun := h6.1.1.1
  by_cases hc : 0 ≤ a ∧ a < 100
  · have hd9 := xday_r h3.2 (σ 17 5 + a)
    have hw9 := xday_r h3.1 (σ 17 5 + a)
    generalize hd : xday (σ 7 1) (σ 8) (σ 17 5 + a) = d at hd9
    generalize hw : xday (σ 5 1) (σ 6) (σ 17 5 + a) = w at hw9
    have q2 : ∀ c, Xcc c → xt2 σ d w c = σ c := fun c hc => by unfold Xcc at hc; exact xt2_o (by omega) (by omega)
    obtain ⟨s1, g1, g2⟩ := pairsOn_c (m := τ 121 23) (cd := τ 131) (day := σ 17 5 + a) (s := xt2 σ d w) (by rw [q2 0 (by unfold Xcc; omega)]; exact Xcw_e hcw q2) (by rw [q2 17 (by unfold Xcc; omega)]; exact hgun) (by omega)
    rw [q2 17 (by unfold Xcc; omega), xpr_same (Xsame_e q2)] at g1
    have eC : F_X10_ahead a σ = some (xpr (τ 121 23) (τ 131) σ (σ 17 0) (σ 17 5 + a), s1) := by
      unfold F_X10_ahead
      simp only [xbp_s, xbd_s, xls, xli, xlt, xjn]
      rw [xw_id ha, if_pos hc.1, if_neg (by omega), of_c (Or.inr rfl) h3.2.1 (by omega), of_c (Or.inl rfl) h3.1.1 (by omega)]
      simp only [xbp_s, xbd_s, xls, xli, xlt, xjn]
      rw [show (7 : Int) + 1 = 8 from rfl, show (5 : Int) + 1 = 6 from rfl, hd, hw, xw_sm (by omega) (by omega), xw_sm (by omega) (by omega), tell_2]
      simp only [xbp_s, xbd_s, xls, xli, xlt, xjn]
      rw [g1]
      rfl
    obtain ⟨arr, c1, c2⟩ := copies_m (s := xu τ 121 0 0)
    generalize hs8 : xu (xrow (xu τ 121 0 0) 128 arr) 128 39 (xrow (xu τ 121 0 0) 128 arr 128 39 + a) = s8
    have e8 : ∀ c, c ≠ 121 → c ≠ 128 → s8 c = τ c := fun c x y => by rw [← hs8, xu_row _ _ _ y, xrow_o y, xu_row _ _ _ x]
    have e8k : ∀ k, k ≠ 0 → s8 121 k = τ 121 k := fun k x => by rw [← hs8, xu_row _ _ _ (by decide), xrow_o (by decide), xu_slot _ _ _ x]
    have a39 : arr 39 = σ 17 5 := by rw [c1 39 (by decide) (by decide), xu_row _ _ _ (by decide)]; exact hmr.2.2.1
    have e39 : s8 128 39 = σ 17 5 + a := by rw [← hs8, xu_same, xrow_s, a39]
    have hm8 : Xmr σ (σ 17 0) (σ 17 5 + a) (s8 128) := by
      have q1 : Xmr σ (σ 17 0) (σ 17 5) arr := Xmr_cp ⟨h5.1, h5.2.2.1⟩ hmr (fun x y z => by rw [c1 x y z, xu_row _ _ _ (by decide)])
      exact Xmr_day q1 (by omega) (fun x hx => by rw [← hs8, xu_slot _ _ _ hx, xrow_s]) e39 ⟨h5.1.2, h5.2.2.1.2⟩
    have hmw8 : Xmw (τ 121 23) (τ 131) σ s8 := Xmw_c hmw (fun c hc => e8 c (by omega) (by omega)) (fun k hk => e8k k (by omega))
    have hmw9 : Xmw (τ 121 23) (τ 131) σ (xu s8 121 1 0) := Xmw_c hmw8 (fun c hc => xu_row _ _ _ (by omega)) (fun k hk => xu_slot _ _ _ (by omega))
    have hmw10 : Xmw (τ 121 23) (τ 131) σ (xe1 s8 d) := Xmw_c hmw8 (fun c hc => xe1_o (by omega) (by omega)) (fun k hk => xe1_k (by omega))
    have hmw11 : Xmw (τ 121 23) (τ 131) σ (xe2 s8 d w) := Xmw_c hmw8 (fun c hc => xe2_o (by omega) (by omega)) (fun k hk => xe2_k (by omega))
    obtain ⟨τ1, k1, k2⟩ := con_d (r := 128) hmw11 (Or.inr rfl) (by rw [xe2_o (by decide) (by decide)]; exact hm8)
    have eM : F_X11_ahead a τ = some (xpr (τ 121 23) (τ 131) σ (σ 17 0) (σ 17 5 + a), τ1) := by
      unfold F_X11_ahead
      simp only [xbp_s, xbd_s, xls, xli, xlt, xjn]
      rw [xw_id ha, in_eq (by omega) (by omega) (by omega), if_pos (by omega)]
      simp only [xbp_s, xbd_s, xls, xli, xlt, xjn]
      rw [if_neg (by decide), c2]
      simp only [xbp_s, xbd_s, xls, xli, xlt, xjn]
      rw [hs8, xu_row _ _ _ (show (128 : Int) ≠ 121 by decide), e39, dampOn_m hmw9.1.2.2.2.2 (by omega), hd]
      simp only [xbp_s, xbd_s, xls, xli, xlt, xjn]
      rw [xw_sm (by omega) (by omega), ent_1]
      simp only [xbp_s, xbd_s, xls, xli, xlt, xjn]
      rw [xe1_o (by decide) (by decide), e39, windOn_m hmw10.1.2.2.2.1 (by omega), hw]
      simp only [xbp_s, xbd_s, xls, xli, xlt, xjn]
      rw [xw_sm (by omega) (by omega), ent_2]
      simp only [xbp_s, xbd_s, xls, xli, xlt, xjn]
      rw [k1]
      rfl
    refine ⟨_, _, _, eC, eM, XR_W (fr_X10_ahead eC) (by decide +kernel) (fr_X11_ahead eM) (by decide +kernel) h (Xrow_2 (a := d) (b := w) ?_ ?_ ?_ ?_)⟩
    · rw [g2.1 3 (by decide) (by decide) (by have := hcw.1; rw [q2 0 (by unfold Xcc; omega)]; omega) (by decide) (by decide)]; rfl
    · rw [g2.1 4 (by decide) (by decide) (by have := hcw.1; rw [q2 0 (by unfold Xcc; omega)]; omega) (by decide) (by decide)]
      simp [xt2, xt1, xu]
    · rw [k2 121 (by decide) (by decide) (by decide)]; rfl
    · rw [k2 122 (by decide) (by decide) (by decide)]
      simp [xe2, xe1, xu]
  · have eC : F_X10_ahead a σ = some (-1, σ) := by
      unfold F_X10_ahead
      simp only [xbp_s, xbd_s, xls, xli, xlt, xjn]
      rw [xw_id ha]
      by_cases q : 0 ≤ a
      · rw [if_pos q, if_pos (by omega)]
      · rw [if_neg q]
    have eM : F_X11_ahead a τ = some (-1, xu τ 121 0 0) := by
      unfold F_X11_ahead
      simp only [xbp_s, xbd_s, xls, xli, xlt, xjn]
      rw [xw_id ha, in_eq (by omega) (by omega) (by omega), if_neg (by omega)]
      rfl
    exact ⟨_, _, _, eC, eM, XR_mono (by omega) hth⟩
