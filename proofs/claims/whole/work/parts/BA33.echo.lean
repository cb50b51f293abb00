/-- when the houses hear the gun today -/
def xhh (m : Int) (cd : Int → Int) (σ : xW) (gun day h : Int) : Int := xhm m cd (xday (σ 5 1) (σ 6) day) (xday (σ 7 1) (σ 8) day) day gun (σ 18 h)
theorem echo_loopC {a E n : Int} {s : xW} {H : Int → Int} {k : Int → Int → Option (Int × xW)} (hn : 0 ≤ n ∧ n ≤ 8) (e0 : s 0 14 = n) (hE : 0 ≤ E ∧ E ≤ 1000) (hH : ∀ h, 0 ≤ h → h < n → s 91 h = H h ∧ 0 ≤ H h ∧ H h ≤ 1000) :
    ∀ (j i f : Nat), (i : Int) + j = n → j < f → F_X10_echo_25 a E s f (xbits (fun h => decide (E < H h)) i) i k = k (xbits (fun h => decide (E < H h)) n.toNat) n := by
  intro j
  induction j with
  | zero =>
    intro i f hi hf
    obtain ⟨f, rfl⟩ : ∃ f', f = f' + 1 := ⟨f - 1, by omega⟩
    unfold F_X10_echo_25
    rw [e0, xw_sm (by omega) (by omega), xw_sm (by omega) (by omega), if_neg (by omega), show n.toNat = i by omega, show n = (i : Int) by omega]
  | succ j ih =>
    intro i f hi hf
    obtain ⟨f, rfl⟩ : ∃ f', f = f' + 1 := ⟨f - 1, by omega⟩
    have h1 := hH i (by omega) (by omega)
    have ih' := ih (i + 1) f (by omega) (by omega)
    rw [xbits_s, show ((i + 1 : Nat) : Int) = (i : Int) + 1 by omega] at ih'
    unfold F_X10_echo_25
    simp only [xbp_s, xbd_s, xls, xli, xlt, xjn]
    rw [e0, xw_sm (x := (i : Int)) (by omega) (by omega), xw_sm (x := n) (by omega) (by omega), if_pos (by omega), xgd_t (by omega), h1.1, xw_sm (x := E) (by omega) (by omega), xw_sm (by omega) (by omega), ← ih']
    congr 2
    by_cases q : E < H i <;> simp [q]
theorem echo_loopM {m : Int} {cd : Int → Int} {nw : Int} {fw : Int → Int} {nd : Int} {fd : Int → Int} {a E n : Int} {s0 : xW} {H : Int → Int} {k : Int → Int → xW → Option (Int × xW)} (hE : Xev m cd nw fw nd fd s0) (hR : Xrr n (s0 127)) (hn : 0 ≤ n ∧ n ≤ 8) (e0 : s0 121 3 = n) (hE2 : 0 ≤ E ∧ E ≤ 1000) (hH : ∀ h, 0 ≤ h → h < n → xhm m cd (xday nw fw (s0 127 39)) (xday nd fd (s0 127 39)) (s0 127 39) (10 * s0 127 32 + s0 127 33) (10 * s0 127 h + s0 127 (8 + h)) = H h ∧ 0 ≤ H h ∧ H h ≤ 1000) :
    ∀ (j i : Nat) (s : xW) (f : Nat), (i : Int) + j = n → j < f → (∀ c, c ≠ 133 → c ≠ 134 → s c = s0 c) → ∃ s', F_X11_echo_30 a E f (xbits (fun h => decide (E < H h)) i) i s k = k (xbits (fun h => decide (E < H h)) n.toNat) n s' ∧ (∀ c, c ≠ 133 → c ≠ 134 → s' c = s0 c) := by
  intro j
  induction j with
  | zero =>
    intro i s f hi hf hc
    obtain ⟨f, rfl⟩ : ∃ f', f = f' + 1 := ⟨f - 1, by omega⟩
    refine ⟨s, ?_, hc⟩
    unfold F_X11_echo_30
    rw [hc 121 (by decide) (by decide), e0, xw_sm (by omega) (by omega), xw_sm (by omega) (by omega), if_neg (by omega), show n.toNat = i by omega, show n = (i : Int) by omega]
  | succ j ih =>
    intro i s f hi hf hc
    obtain ⟨f, rfl⟩ : ∃ f', f = f' + 1 := ⟨f - 1, by omega⟩
    have h1 := hH i (by omega) (by omega)
    obtain ⟨s1, g1, g2⟩ := hears_m (r := 127) (h := i) (s := s) (Xev_c hE (fun c hc' => hc c (by omega) (by omega))) (Or.inl rfl) (by rw [hc 127 (by decide) (by decide)]; exact hR) hn.2 (by omega)
    rw [hc 127 (by decide) (by decide), h1.1] at g1
    obtain ⟨s2, ih1, ih2⟩ := ih (i + 1) s1 f (by omega) (by omega) (fun c c1 c2 => by rw [g2 c c1 c2]; exact hc c c1 c2)
    refine ⟨s2, ?_, ih2⟩
    rw [xbits_s, show ((i + 1 : Nat) : Int) = (i : Int) + 1 by omega] at ih1
    rw [← ih1, F_X11_echo_30, hc 121 (by decide) (by decide), e0, xw_sm (x := (i : Int)) (by omega) (by omega), xw_sm (x := n) (by omega) (by omega), if_pos (by omega), g1]
    simp only [xbp_s, xbd_s, xls, xli, xlt, xjn]
    rw [xw_sm (x := E) (by omega) (by omega), xw_sm (by omega) (by omega)]
    congr 2
    by_cases q : E < H i <;> simp [q]
theorem op_echo {a : Int} (ha : I32 a) : XO (F_X10_echo a) (F_X11_echo a) := by
  intro B σ τ hB hB1 h
  have hcw := XR_cw h
  have hmw := XR_mw h
  have hmr := XR_mr hB1 h
  have hth := XR_thr h
  obtain ⟨h1, h2, h3, h4, h5, h6, h7, h8, h9, h10⟩ := id h
  have hday := h6.1.1.2.2.2.2.2
  have hgun := h6.1.1.1
  have hhill := h6.1.1.2.1
  have hnh := h5.1
  have hr := hcw.1
  have e3 : xu τ 121 0 0 121 3 = σ 0 14 := by rw [xu_slot _ _ _ (by decide)]; exact h5.2.1
  by_cases q : 0 ≤ a ∧ a < σ 0 14
  · obtain ⟨s5, a1, a2⟩ := today_c hcw hgun (by omega)
    have a3 := Xpf_e hr a2
    have e0 : s5 0 = σ 0 := a3 0 (by unfold Xcc; omega)
    have e17 : s5 17 = σ 17 := a3 17 (by unfold Xcc; omega)
    have e18 : s5 18 = σ 18 := a3 18 (by unfold Xcc; omega)
    obtain ⟨s8, b1, b2⟩ := minuteOfEcho_c (h := a) (s := s5) (by rw [e0]; exact Xcw_e hcw a3) (by rw [e17]; exact hgun) (by rw [e17]; exact hhill) (by rw [e17]; omega) (by omega)
    rw [e17, e18, a3 5 (by unfold Xcc; omega), a3 6 (by unfold Xcc; omega), a3 7 (by unfold Xcc; omega), a3 8 (by unfold Xcc; omega)] at b1
    rw [e0] at b2
    have hE := xhe_r (m := τ 121 23) (cd := τ 131) (w := xday (σ 5 1) (σ 6) (σ 17 5)) (d := xday (σ 7 1) (σ 8) (σ 17 5)) (n := σ 17 5) (gun := σ 17 0) (hill := σ 17 1) (pl := σ 18 a) (e := 1) (xday_r h3.2 _)
    generalize hEE : xhe (τ 121 23) (τ 131) (xday (σ 5 1) (σ 6) (σ 17 5)) (xday (σ 7 1) (σ 8) (σ 17 5)) (σ 17 5) (σ 17 0) (σ 17 1) (σ 18 a) 1 = E at *
    have hHr : ∀ h, 0 ≤ xhh (τ 121 23) (τ 131) σ (σ 17 0) (σ 17 5) h ∧ xhh (τ 121 23) (τ 131) σ (σ 17 0) (σ 17 5) h ≤ 1000 := fun h => by
      have := xhm_r (m := τ 121 23) (cd := τ 131) (w := xday (σ 5 1) (σ 6) (σ 17 5)) (n := σ 17 5) (gun := σ 17 0) (pl := σ 18 h) (xday_r h3.2 (σ 17 5))
      unfold xhh
      omega
    have h91 : ∀ h, 0 ≤ h → h < σ 0 14 → s8 91 h = xhh (τ 121 23) (τ 131) σ (σ 17 0) (σ 17 5) h := fun h x y => by rw [b2 91 (by decide) (by omega)]; exact a2.2.2.1 h x y
    have e08 : s8 0 = σ 0 := by rw [b2 0 (by decide) (by omega), e0]
    have hlC := echo_loopC (a := a) (E := E) (n := σ 0 14) (s := s8) (H := xhh (τ 121 23) (τ 131) σ (σ 17 0) (σ 17 5)) (k := fun (l3_22 : Int) (l4_23 : Int) => xbp (F_X6_tell (xw l3_22) s8) fun s25 => xgd (0 ≤ a ∧ a < 8) <| some (((100 + E) - (s25 91 a)), s25)) hnh (by rw [e08]) (by omega) (fun h x y => ⟨h91 h x y, hHr h⟩) (σ 0 14).toNat 0 xN (by omega) (by have := xN_ge; omega)
    have hb := xbits_I (fun h => decide (E < xhh (τ 121 23) (τ 131) σ (σ 17 0) (σ 17 5) h)) (σ 0 14).toNat
    have eC : F_X10_echo a σ = some (100 + E - xhh (τ 121 23) (τ 131) σ (σ 17 0) (σ 17 5) a, xt1 s8 (xbits (fun h => decide (E < xhh (τ 121 23) (τ 131) σ (σ 17 0) (σ 17 5) h)) (σ 0 14).toNat)) := by
      unfold F_X10_echo
      rw [isHouse_c ha hnh, if_pos q]
      simp only [xbp_s, xbd_s, xls, xli, xlt, xjn]
      rw [if_neg (by decide), a1]
      simp only [xbp_s, xbd_s, xls, xli, xlt, xjn]
      rw [b1]
      simp only [xbp_s, xbd_s, xls, xli, xlt, xjn]
      refine Eq.trans hlC ?_
      rw [tell_1, xw_id hb]
      simp only [xbp_s, xbd_s, xls, xli, xlt, xjn]
      rw [xgd_t (by omega), xt1_o (by decide) (by decide), h91 a q.1 q.2]
    have hmw1 : Xmw (τ 121 23) (τ 131) σ (xu τ 121 0 0) := Xmw_c hmw (fun c hc => xu_row _ _ _ (by omega)) (fun k hk => xu_slot _ _ _ (by omega))
    have e127 : xu τ 121 0 0 127 = τ 127 := xu_row _ _ _ (by decide)
    obtain ⟨t1, k1, k2⟩ := echoes_m (h := a) hmw1.1 (Or.inl rfl) (by rw [e127]; exact hmr.1) hnh.2 q
    rw [e127, hmr.2.1, hmr.2.2.1, hmr.2.2.2.1 a q.1 q.2, ← h6.2.1.2.1.1, hEE] at k1
    have t127 : t1 127 = τ 127 := by rw [k2 127 (by decide) (by decide), e127]
    obtain ⟨t2, k3, k4⟩ := echo_loopM (a := a) (E := E) (n := σ 0 14) (s0 := t1) (H := xhh (τ 121 23) (τ 131) σ (σ 17 0) (σ 17 5)) (k := fun (l3_25 : Int) (l4_26 : Int) (s27 : xW) => xls (xu s27 121 1 0) fun s28 => xbp (F_X11_enters (xw l3_25) s28) fun s31 => xbd (F_X11_hears 127 a s31) fun r33 s34 => some (((100 + E) - r33), s34)) (Xev_c hmw1.1 (fun c hc => k2 c (by omega) (by omega))) (by rw [t127]; exact hmr.1) hnh (by rw [k2 121 (by decide) (by decide)]; exact e3) (by omega) (fun h x y => ⟨by rw [t127, hmr.2.1, hmr.2.2.1, hmr.2.2.2.1 h x y]; rfl, hHr h⟩) (σ 0 14).toNat 0 t1 xN (by omega) (by have := xN_ge; omega) (fun c _ _ => rfl)
    generalize hbb : xbits (fun h => decide (E < xhh (τ 121 23) (τ 131) σ (σ 17 0) (σ 17 5) h)) (σ 0 14).toNat = bb at *
    have hev2 : Xev (τ 121 23) (τ 131) (σ 5 1) (σ 6) (σ 7 1) (σ 8) (xe1 t2 bb) := by
      have z := hmw1.1
      unfold Xev at *
      rw [xe1_k (by decide), xe1_k (by decide), xe1_k (by decide), xe1_o (by decide) (by decide), xe1_o (by decide) (by decide), xe1_o (by decide) (by decide), k4 121 (by decide) (by decide), k4 131 (by decide) (by decide), k4 123 (by decide) (by decide), k4 124 (by decide) (by decide), k2 121 (by decide) (by decide), k2 131 (by decide) (by decide), k2 123 (by decide) (by decide), k2 124 (by decide) (by decide)]
      exact z
    have t127b : xe1 t2 bb 127 = τ 127 := by rw [xe1_o (by decide) (by decide), k4 127 (by decide) (by decide), t127]
    obtain ⟨t3, k5, k6⟩ := hears_m (h := a) hev2 (Or.inl rfl) (by rw [t127b]; exact hmr.1) hnh.2 q
    rw [t127b, hmr.2.1, hmr.2.2.1, hmr.2.2.2.1 a q.1 q.2] at k5
    have eM : F_X11_echo a τ = some (100 + E - xhh (τ 121 23) (τ 131) σ (σ 17 0) (σ 17 5) a, t3) := by
      unfold F_X11_echo
      simp only [xbp_s, xbd_s, xls, xli, xlt, xjn]
      rw [isHouse_m ha (by rw [e3]; exact hnh), e3, if_pos q]
      simp only [xbp_s, xbd_s, xls, xli, xlt, xjn]
      rw [if_neg (by decide), k1]
      simp only [xbp_s, xbd_s, xls, xli, xlt, xjn]
      refine Eq.trans k3 ?_
      simp only [xbp_s, xbd_s, xls, xli, xlt, xjn]
      rw [xw_id hb, ent_1]
      simp only [xbp_s, xbd_s, xls, xli, xlt, xjn]
      rw [k5]
      rfl
    refine ⟨_, _, _, eC, eM, XR_W (fr_X10_echo eC) (by decide +kernel) (fr_X11_echo eM) (by decide +kernel) h (Xrow_1 (a := bb) rfl (by simp [xt1, xu]) ?_ ?_)⟩
    · rw [k6 121 (by decide) (by decide)]; rfl
    · rw [k6 122 (by decide) (by decide)]; simp [xe1, xu]
  · refine ⟨-1, σ, xu τ 121 0 0, ?_, ?_, XR_mono (by omega) hth⟩
    · unfold F_X10_echo
      rw [isHouse_c ha hnh, if_neg q]
      rfl
    · unfold F_X11_echo
      simp only [xbp_s, xbd_s, xls, xli, xlt, xjn]
      rw [isHouse_m ha (by rw [e3]; exact hnh), e3, if_neg q]
      rfl
/-! holds -/
theorem op_holds {a : Int} (ha : I32 a) : XO (F_X10_holds a) (F_X11_holds a) := by
  intro B σ τ hB hB1 h
  have hcw := XR_cw h
  have hmw := XR_mw h
  have hmr := XR_mr hB1 h
  have hth := XR_thr h
  obtain ⟨h1, h2, h3, h4, h5, h6, h7, h8, h9, h10⟩ := id h
  have hday := h6.1.1.2.2.2.2.2
  have hgun := h6.1.1.1
  have hnh := h5.1
  have hnd := h5.2.2.1
  have hr := hcw.1
  have e4 : xu τ 121 0 0 121 4 = σ 92 0 := by rw [xu_slot _ _ _ (by decide)]; exact h5.2.2.2.1
  by_cases q : 0 ≤ a ∧ a < σ 92 0
  · obtain ⟨s5, a1, a2⟩ := today_c hcw hgun (by omega)
    obtain ⟨b1, b2, b3, b4, b5⟩ := id a2
    have hmw1 : Xmw (τ 121 23) (τ 131) σ (xu τ 121 0 0) := Xmw_c hmw (fun c hc => xu_row _ _ _ (by omega)) (fun k hk => xu_slot _ _ _ (by omega))
    have e127 : xu τ 121 0 0 127 = τ 127 := xu_row _ _ _ (by decide)
    obtain ⟨t1, m1, m2, m3, m4, m5⟩ := lays_d (r := 127) hmw1 (Or.inl rfl) (by rw [e127]; exact hmr)
    have e92 : s5 92 = σ 92 := b1 92 (by decide) (by decide) (by omega) (by decide) (by decide)
    have e20 : s5 20 = σ 20 := b1 20 (by decide) (by decide) (by omega) (by decide) (by decide)
    have e94 : s5 94 = σ 94 := b1 94 (by decide) (by decide) (by omega) (by decide) (by decide)
    have t4 : t1 121 4 = σ 92 0 := by rw [m2 121 (by decide) (by decide) (by decide)]; exact e4
    have hxr : ∀ d, 0 ≤ xbe (τ 121 23) (τ 131) σ (σ 17 0) (σ 17 5) d ∧ xbe (τ 121 23) (τ 131) σ (σ 17 0) (σ 17 5) d ≤ 108 := fun d => xhm_r (xday_r h3.2 _)
    -- both loops: begins of a put off by i
    have key : ∀ (j i : Nat) (s t : xW) (f f' : Nat), i + j = 10 → j < f → j < f' → (∀ c, c ≠ 95 → c ≠ 96 → s c = s5 c) → (∀ d, 0 ≤ d → d < σ 92 0 → s 95 d = xbe (τ 121 23) (τ 131) σ (σ 17 0) (σ 17 5) d + (if d = a then (i : Int) else 0) ∧ s 96 d = s 95 d + σ 20 d) → (∀ c, c ≠ 135 → t c = t1 c) → (∀ d, 0 ≤ d → d < σ 92 0 → t 135 d = xbe (τ 121 23) (τ 131) σ (σ 17 0) (σ 17 5) d + (if d = a then (i : Int) else 0)) →
        ∃ r s' t', F_X10_holds_16 a f i s (fun (l2_20 : Int) (s21 : xW) => some (-2, s21)) = some (r, s') ∧ F_X11_holds_25 a f' i t (fun (l2_26 : Int) (s27 : xW) => some (-2, s27)) = some (r, t') ∧ Xrow s' t' := by
      intro j
      induction j with
      | zero =>
        intro i s t f f' hi hf hf' hs1 hs2 ht1 ht2
        obtain ⟨f, rfl⟩ : ∃ g, f = g + 1 := ⟨f - 1, by omega⟩
        obtain ⟨f', rfl⟩ : ∃ g, f' = g + 1 := ⟨f' - 1, by omega⟩
        refine ⟨-2, s, t, ?_, ?_, ?_⟩
        · unfold F_X10_holds_16
          rw [xw_sm (by omega) (by omega), if_neg (by omega)]
        · unfold F_X11_holds_25
          rw [xw_sm (by omega) (by omega), if_neg (by omega)]
        · refine Xrow_c (σ := σ) ?_ ?_ (Xrow_m (τ := τ) ?_ ?_ h2)
          · rw [hs1 3 (by decide) (by decide), b1 3 (by decide) (by decide) (by omega) (by decide) (by decide)]
          · rw [hs1 4 (by decide) (by decide), b1 4 (by decide) (by decide) (by omega) (by decide) (by decide)]
          · rw [ht1 121 (by decide), m2 121 (by decide) (by decide) (by decide), xu_slot _ _ _ (by decide)]
          · rw [ht1 122 (by decide), m2 122 (by decide) (by decide) (by decide), xu_row _ _ _ (by decide)]
      | succ j ih =>
        intro i s t f f' hi hf hf' hs1 hs2 ht1 ht2
        obtain ⟨f, rfl⟩ : ∃ g, f = g + 1 := ⟨f - 1, by omega⟩
        obtain ⟨f', rfl⟩ : ∃ g, f' = g + 1 := ⟨f' - 1, by omega⟩
        have s92 : s 92 = σ 92 := by rw [hs1 92 (by decide) (by decide), e92]
        have s20 : s 20 = σ 20 := by rw [hs1 20 (by decide) (by decide), e20]
        have s94 : s 94 = σ 94 := by rw [hs1 94 (by decide) (by decide), e94]
        have t4' : t 121 4 = σ 92 0 := by rw [ht1 121 (by decide), t4]
        have hpl : Xpl s := by
          refine ⟨by rw [s92]; exact hnd, fun d x y => ?_⟩
          rw [s92] at y
          have z := hs2 d x y
          have z2 := hxr d
          have z3 := h6.1.2.2.2 d x (by omega)
          rw [s20, z.2, z.1]
          refine ⟨by split <;> omega, z3, rfl⟩
        have hbg : Xbg 127 t := by
          refine ⟨by rw [t4']; exact hnd, fun d x y => ?_⟩
          rw [t4'] at y
          have z2 := hxr d
          have z3 := (m3.2 d x (by rw [t4]; exact y)).2
          rw [ht2 d x y, ht1 127 (by decide)]
          refine ⟨by split <;> omega, z3⟩
        have hfo := foes_c hpl (d := a) (by rw [s92]; exact q)
        have hcl := clashing_m (Or.inl rfl) hbg (d := a) (by rw [t4']; exact q)
        rw [s92] at hfo
        rw [t4'] at hcl
        have hsame : xbits (xq (t 126) (t 135) (fun d => t 127 (24 + d)) a) (σ 92 0).toNat = xbits (xq (s 94) (s 95) (s 20) a) (σ 92 0).toNat := xbits_congr _ (fun e x y => by
          refine xq_congr (n := σ 92 0) (fun d x y => ⟨?_, ?_, ?_⟩) q.1 q.2 x (by omega)
          · rw [ht1 126 (by decide), m2 126 (by decide) (by decide) (by decide), xu_row _ _ _ (by decide), s94]; exact (h5.2.2.2.2 d x y).2.2.2
          · rw [ht2 d x y, (hs2 d x y).1]
          · rw [ht1 127 (by decide), m2 127 (by decide) (by decide) (by decide), e127, s20]; exact (h6.2.2.2 d x y).1.symm)
        rw [hsame] at hcl
        have hI := xbits_I (xq (s 94) (s 95) (s 20) a) (σ 92 0).toNat
        rw [F_X10_holds_16, F_X11_holds_25, xw_sm (x := (i : Int)) (by omega) (by omega), if_pos (by omega), if_pos (by omega), hfo, hcl]
        simp only [xbp_s, xbd_s, xls, xli, xlt, xjn]
        rw [xw_id hI]
        have hsa := hs2 a q.1 q.2
        have hta := ht2 a q.1 q.2
        rw [if_pos rfl] at hsa hta
        have hxa := hxr a
        by_cases w : xbits (xq (s 94) (s 95) (s 20) a) (σ 92 0).toNat = 0
        · rw [if_pos w, if_pos w, xgd_t (by omega), xgd_t (by omega), tell_1, xu_row _ _ _ (show (135 : Int) ≠ 121 by decide), ent_1]
          simp only [xbp_s, xbd_s, xls, xli, xlt, xjn]
          rw [hsa.1, hta, xw_sm (by omega) (by omega)]
          exact ⟨_, _, _, rfl, rfl, Xrow_1 (a := xbe (τ 121 23) (τ 131) σ (σ 17 0) (σ 17 5) a + i) rfl (by simp [xt1, xu]) rfl (by simp [xe1, xu])⟩
        · rw [if_neg w, if_neg w, xgd_t (by omega), xgd_t (by omega), show ((i : Int) + 1) = ((i + 1 : Nat) : Int) by omega]
          unfold F_X4_holdBack
          rw [xgd_t (by omega), xgd_t (by omega)]
          simp only [xbp_s, xbd_s, xls, xli, xlt, xjn]
          rw [xgd_t (by omega), xgd_t (by omega)]
          simp only [xbp_s, xbd_s, xls, xli, xlt, xjn]
          refine ih (i + 1) _ _ f f' (by omega) (by omega) (by omega) ?_ ?_ ?_ ?_
          · intro c c1 c2
            rw [xu_row _ _ _ c2, xu_row _ _ _ c1]
            exact hs1 c c1 c2
          · intro d x y
            have z := hs2 d x y
            by_cases hd : d = a
            · subst hd
              rw [if_pos rfl, xu_row _ _ _ (show (95 : Int) ≠ 96 by decide), xu_same, xu_same, xu_row _ _ _ (show (96 : Int) ≠ 95 by decide)]
              rw [if_pos rfl] at z
              omega
            · rw [if_neg hd, xu_row _ _ _ (show (95 : Int) ≠ 96 by decide), xu_slot _ _ _ hd, xu_slot _ _ _ hd, xu_row _ _ _ (show (96 : Int) ≠ 95 by decide)]
              rw [if_neg hd] at z
              exact z
          · intro c c1
            rw [xu_row _ _ _ c1]
            exact ht1 c c1
          · intro d x y
            have z := ht2 d x y
            by_cases hd : d = a
            · subst hd
              rw [if_pos rfl, xu_same]
              rw [if_pos rfl] at z
              omega
            · rw [if_neg hd, xu_slot _ _ _ hd]
              rw [if_neg hd] at z
              exact z
    obtain ⟨r, s', t', k1, k2, k3⟩ := key 10 0 s5 t1 xN xN (by omega) (by have := xN_ge; omega) (by have := xN_ge; omega) (fun c _ _ => rfl) (fun d x y => by
      have z := b4 d x y
      rw [z.1, z.2]
      constructor
      · split <;> simp
      · rfl) (fun c _ => rfl) (fun d x y => by rw [m4 d x y]; split <;> simp)
    have eC : F_X10_holds a σ = some (r, s') := by
      unfold F_X10_holds
      rw [isDeed_c ha hnd, if_pos q]
      simp only [xbp_s, xbd_s, xls, xli, xlt, xjn]
      rw [if_neg (by decide), a1]
      exact k1
    have eM : F_X11_holds a τ = some (r, t') := by
      unfold F_X11_holds
      simp only [xbp_s, xbd_s, xls, xli, xlt, xjn]
      rw [isDeed_m ha (by rw [e4]; exact hnd), e4, if_pos q]
      simp only [xbp_s, xbd_s, xls, xli, xlt, xjn]
      rw [if_neg (by decide), m1]
      exact k2
    exact ⟨_, _, _, eC, eM, XR_W (fr_X10_holds eC) (by decide +kernel) (fr_X11_holds eM) (by decide +kernel) h k3⟩
  · refine ⟨-1, σ, xu τ 121 0 0, ?_, ?_, XR_mono (by omega) hth⟩
    · unfold F_X10_holds
      rw [isDeed_c ha hnd, if_neg q]
      rfl
    · unfold F_X11_holds
      simp only [xbp_s, xbd_s, xls, xli, xlt, xjn]
      rw [isDeed_m ha (by rw [e4]; exact hnd), e4, if_neg q]
      rfl
