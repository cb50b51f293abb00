/-! both know how many are at work -/
theorem busy_d {B mask : Int} {σ τ : xW} (hB1 : B ≤ 1000000) (h : XR B σ τ) : ∃ s t, F_X10_planToday σ = some s ∧ F_X11_laysBusy mask (xu τ 121 0 0) = some t ∧ Xpl s ∧ s 92 0 = σ 92 0 ∧ s 20 = σ 20 ∧ s 94 = σ 94 ∧ (∀ d : Int, 0 ≤ d → d < σ 92 0 → 0 ≤ s 95 d ∧ s 95 d ≤ 108) ∧ (∀ x : Int, 0 ≤ x → x < 220 → t 142 x = xsum (fun d => b01 (xbzy (s 94) (s 95) (s 20) mask x d)) (σ 92 0).toNat) := by
  have hcw := XR_cw h
  have hmw := XR_mw h
  have hmr := XR_mr hB1 h
  obtain ⟨h1, h2, h3, h4, h5, h6, h7, h8, h9, h10⟩ := id h
  have hday := h6.1.1.2.2.2.2.2
  have hgun := h6.1.1.1
  have hnd := h5.2.2.1
  have hr := hcw.1
  have hN := xN_ge
  obtain ⟨s2, a1, a2⟩ := today_c hcw hgun (by omega)
  obtain ⟨b1, b2, b3, b4, b5⟩ := id a2
  have hmw1 : Xmw (τ 121 23) (τ 131) σ (xu τ 121 0 0) := Xmw_c hmw (fun c hc => xu_row _ _ _ (by omega)) (fun k hk => xu_slot _ _ _ (by omega))
  obtain ⟨t2, m1, m2, m3, m4, m5⟩ := lays_d (r := 127) hmw1 (Or.inl rfl) (by rw [xu_row _ _ _ (by decide)]; exact hmr)
  have e92 : s2 92 = σ 92 := b1 92 (by decide) (by decide) (by omega) (by decide) (by decide)
  have e20 : s2 20 = σ 20 := b1 20 (by decide) (by decide) (by omega) (by decide) (by decide)
  have e94 : s2 94 = σ 94 := b1 94 (by decide) (by decide) (by omega) (by decide) (by decide)
  have e4 : t2 121 4 = σ 92 0 := by rw [m2 121 (by decide) (by decide) (by decide)]; exact hmw1.2.2.2.2.1
  have hbe : ∀ d : Int, 0 ≤ xbe (τ 121 23) (τ 131) σ (σ 17 0) (σ 17 5) d ∧ xbe (τ 121 23) (τ 131) σ (σ 17 0) (σ 17 5) d ≤ 108 := fun d => by
    unfold xbe
    exact xhm_r (xday_r h3.2 _)
  have e126 : ∀ d : Int, 0 ≤ d → d < σ 92 0 → t2 126 d = σ 94 d := fun d x y => by
    rw [m2 126 (by decide) (by decide) (by decide)]
    exact (hmw1.2.2.2.2.2.1 d x y).2.2
  have e127 : ∀ d : Int, 0 ≤ d → d < σ 92 0 → t2 127 (24 + d) = σ 20 d := fun d x y => by
    rw [m2 127 (by decide) (by decide) (by decide), xu_row _ _ _ (by decide)]
    exact hmr.2.2.2.2 d x y
  obtain ⟨arr0, c1, c2⟩ := busy_0 (mask := mask) (s0 := t2) (k := fun (l2_12 : Int) (s13 : xW) => F_X11_laysBusy_32 mask xN 0 s13 fun (l2_37 : Int) (s38 : xW) => some s38) 220 0 xN (t2 142) (by omega) (by omega) (fun x x1 x2 => by omega)
  rw [xrow_i] at c1
  obtain ⟨arr1, d1, d2⟩ := busy_out (mask := mask) (s0 := t2) (k := fun (l2_37 : Int) (s38 : xW) => some s38) hnd e4 (fun d x y => ⟨by have := hbe d; rw [m4 d x y]; omega, (m3.2 d x (by rw [e4]; exact y)).2⟩) (σ 92 0).toNat 0 xN arr0 (by omega) (by omega) (fun x x1 x2 => c2 x x1 x2)
  refine ⟨s2, xrow t2 142 arr1, a1, ?_, b2, by rw [e92], e20, e94, fun d x y => by rw [(b4 d x y).1]; exact hbe d, fun x x1 x2 => ?_⟩
  · unfold F_X11_laysBusy
    rw [m1]
    simp only [xbp_s, xbd_s, xls, xli, xlt, xjn]
    exact Eq.trans c1 d1
  · rw [xrow_s, d2 x x1 x2]
    refine xsum_congr _ (fun d y1 y2 => ?_)
    show b01 (decide ((t2 135 d ≤ x ∧ x < t2 135 d + t2 127 (24 + d)) ∧ xand (t2 126 d) mask ≠ 0)) = b01 (decide ((s2 95 d ≤ x ∧ x < s2 95 d + s2 20 d) ∧ xand (s2 94 d) mask ≠ 0))
    rw [m4 d y1 (by omega), (b4 d y1 (by omega)).1, e126 d y1 (by omega), e127 d y1 (by omega), e94, e20]
theorem first_loop {n : Int} {s : xW} {k : Int → Int → Option Int} (hn : 0 ≤ n ∧ n ≤ 8) (e0 : s 92 0 = n) (hb : ∀ d : Int, 0 ≤ d → d < n → 0 ≤ s 95 d ∧ s 95 d ≤ 108) :
    ∀ (j i fu : Nat) (v : Int), (i : Int) + j = n → 1 ≤ i → j < fu → (∀ d : Int, 0 ≤ d → d < i → v ≤ s 95 d) → (∃ d : Int, (0 ≤ d ∧ d < i) ∧ v = s 95 d) → ∃ v', F_X4_firstMinute_20 s fu v (i : Int) k = k v' n ∧ (∀ d : Int, 0 ≤ d → d < n → v' ≤ s 95 d) ∧ (∃ d : Int, (0 ≤ d ∧ d < n) ∧ v' = s 95 d) := by
  intro j
  induction j with
  | zero =>
    intro i fu v hi h1 hf ha hv
    obtain ⟨fu, rfl⟩ : ∃ g, fu = g + 1 := ⟨fu - 1, by omega⟩
    have e : (i : Int) = n := by omega
    rw [e] at ha hv
    refine ⟨v, ?_, ha, hv⟩
    unfold F_X4_firstMinute_20
    rw [e0, xw_sm (x := (i : Int)) (by omega) (by omega), xw_sm (x := n) (by omega) (by omega), if_neg (by omega), e]
  | succ j ih =>
    intro i fu v hi h1 hf ha hv
    obtain ⟨fu, rfl⟩ : ∃ g, fu = g + 1 := ⟨fu - 1, by omega⟩
    have hbi := hb i (by omega) (by omega)
    obtain ⟨d0, q1, q2⟩ := hv
    have hb0 := hb d0 q1.1 (by omega)
    unfold F_X4_firstMinute_20
    rw [e0, xw_sm (x := (i : Int)) (by omega) (by omega), xw_sm (x := n) (by omega) (by omega), if_pos (by omega), xgd_t (by omega), xw_sm (x := v) (by omega) (by omega), xw_sm (x := s 95 (i : Int)) (by omega) (by omega), show ((i : Int) + 1) = ((i + 1 : Nat) : Int) by omega]
    refine ih (i + 1) fu _ (by omega) (by omega) (by omega) (fun d x y => ?_) ?_
    · by_cases z : d = i
      · rw [z]; omega
      · have := ha d x (by omega)
        omega
    · by_cases z : v ≤ s 95 (i : Int)
      · exact ⟨d0, by omega, by omega⟩
      · exact ⟨i, by omega, by omega⟩
theorem first_c {n : Int} {s : xW} (hn : 0 ≤ n ∧ n ≤ 8) (e0 : s 92 0 = n) (hb : ∀ d : Int, 0 ≤ d → d < n → 0 ≤ s 95 d ∧ s 95 d ≤ 108) (h0 : 0 < n) : ∃ v, F_X4_firstMinute s = some v ∧ (∀ d : Int, 0 ≤ d → d < n → v ≤ s 95 d) ∧ (∃ d : Int, (0 ≤ d ∧ d < n) ∧ v = s 95 d) := by
  have hN := xN_ge
  obtain ⟨v, g1, g2⟩ := first_loop (k := fun (l1_12 : Int) (l2_13 : Int) => some l1_12) hn e0 hb (n - 1).toNat 1 xN (s 95 0) (by omega) (by omega) (by omega) (fun d x y => by rw [show d = 0 by omega]; omega) ⟨0, by omega, rfl⟩
  refine ⟨v, ?_, g2⟩
  unfold F_X4_firstMinute
  simp only [xbp_s, xbd_s, xls, xli, xlt, xjn]
  rw [e0, xw_sm (by omega) (by omega), if_pos h0]
  exact g1
theorem first_0 {s : xW} (e0 : s 92 0 = 0) : F_X4_firstMinute s = some 0 := by
  obtain ⟨f, hf, hf2⟩ := xN_s
  unfold F_X4_firstMinute
  simp only [xbp_s, xbd_s, xls, xli, xlt, xjn]
  rw [e0, if_neg (show ¬ 0 < xw 0 by decide), hf, F_X4_firstMinute_20, e0, if_neg (show ¬ xw 1 < xw 0 by decide)]
theorem behind_loop {n : Int} {s : xW} {k : Int → Int → Option Int} (hn : 0 ≤ n ∧ n ≤ 8) (e0 : s 92 0 = n) (hb : ∀ d : Int, 0 ≤ d → d < n → -1 ≤ s 96 d ∧ s 96 d ≤ 120) :
    ∀ (j i fu : Nat) (v : Int), (i : Int) + j = n → j < fu → (0 ≤ v ∧ v ≤ 120) → (∀ d : Int, 0 ≤ d → d < i → s 96 d ≤ v) → (v = 0 ∨ ∃ d : Int, (0 ≤ d ∧ d < i) ∧ v = s 96 d) → ∃ v', F_X4_minuteBehind_4 s fu v (i : Int) k = k v' n ∧ (0 ≤ v' ∧ v' ≤ 120) ∧ (∀ d : Int, 0 ≤ d → d < n → s 96 d ≤ v') ∧ (v' = 0 ∨ ∃ d : Int, (0 ≤ d ∧ d < n) ∧ v' = s 96 d) := by
  intro j
  induction j with
  | zero =>
    intro i fu v hi hf h1 ha hv
    obtain ⟨fu, rfl⟩ : ∃ g, fu = g + 1 := ⟨fu - 1, by omega⟩
    have e : (i : Int) = n := by omega
    rw [e] at ha hv
    refine ⟨v, ?_, h1, ha, hv⟩
    unfold F_X4_minuteBehind_4
    rw [e0, xw_sm (x := (i : Int)) (by omega) (by omega), xw_sm (x := n) (by omega) (by omega), if_neg (by omega), e]
  | succ j ih =>
    intro i fu v hi hf h1 ha hv
    obtain ⟨fu, rfl⟩ : ∃ g, fu = g + 1 := ⟨fu - 1, by omega⟩
    have hbi := hb i (by omega) (by omega)
    unfold F_X4_minuteBehind_4
    rw [e0, xw_sm (x := (i : Int)) (by omega) (by omega), xw_sm (x := n) (by omega) (by omega), if_pos (by omega), xgd_t (by omega), xw_sm (x := v) (by omega) (by omega), xw_sm (x := s 96 (i : Int)) (by omega) (by omega), show ((i : Int) + 1) = ((i + 1 : Nat) : Int) by omega]
    refine ih (i + 1) fu _ (by omega) (by omega) (by omega) (fun d x y => ?_) ?_
    · by_cases z : d = i
      · rw [z]; omega
      · have := ha d x (by omega)
        omega
    · by_cases z : s 96 (i : Int) ≤ v
      · rcases hv with w | ⟨d0, q1, q2⟩
        · exact Or.inl (by omega)
        · exact Or.inr ⟨d0, by omega, by omega⟩
      · exact Or.inr ⟨i, by omega, by omega⟩
theorem behind_c {n : Int} {s : xW} (hn : 0 ≤ n ∧ n ≤ 8) (e0 : s 92 0 = n) (hb : ∀ d : Int, 0 ≤ d → d < n → -1 ≤ s 96 d ∧ s 96 d ≤ 120) : ∃ v, F_X4_minuteBehind s = some v ∧ (0 ≤ v ∧ v ≤ 120) ∧ (∀ d : Int, 0 ≤ d → d < n → s 96 d ≤ v) ∧ (v = 0 ∨ ∃ d : Int, (0 ≤ d ∧ d < n) ∧ v = s 96 d) := by
  have hN := xN_ge
  exact behind_loop (k := fun (l1_8 : Int) (l2_9 : Int) => some l1_8) hn e0 hb n.toNat 0 xN 0 (by omega) (by omega) (by omega) (fun d x y => by omega) (Or.inl rfl)
