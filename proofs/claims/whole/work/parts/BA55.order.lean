/-! order -/
theorem order_20 {n : Int} {s0 : xW} {k : Int → xW → Option (Int × xW)} (hn : 0 ≤ n ∧ n ≤ 8) (e0 : s0 92 0 = n) (hA : ∀ x : Int, 0 ≤ x → x < n → 0 ≤ s0 97 x ∧ s0 97 x ≤ 1000) :
    ∀ (j i fu : Nat) (s : xW), (i : Int) + j = n → j < fu → (∀ c : Int, c ≠ 3 → c ≠ 4 → s c = s0 c) → s 3 1 = i → (∀ x : Int, 0 ≤ x → x < i → s 4 x = s0 97 x) → ∃ s', F_X10_order_20 fu (i : Int) s k = k n s' ∧ (∀ c : Int, c ≠ 3 → c ≠ 4 → s' c = s0 c) ∧ s' 3 1 = n ∧ (∀ x : Int, 0 ≤ x → x < n → s' 4 x = s0 97 x) := by
  intro j
  induction j with
  | zero =>
    intro i fu s hi hfu hc h1 h2
    obtain ⟨fu, rfl⟩ : ∃ g, fu = g + 1 := ⟨fu - 1, by omega⟩
    have ei : (i : Int) = n := by omega
    rw [ei] at h1 h2
    refine ⟨s, ?_, hc, h1, h2⟩
    rw [ei, F_X10_order_20, hc 92 (by decide) (by decide), e0, if_neg (Int.lt_irrefl _)]
  | succ j ih =>
    intro i fu s hi hfu hc h1 h2
    obtain ⟨fu, rfl⟩ : ∃ g, fu = g + 1 := ⟨fu - 1, by omega⟩
    have ha := hA i (by omega) (by omega)
    have hadd := add_c (s := s) (v := s0 97 (i : Int)) (by omega)
    rw [h1] at hadd
    obtain ⟨s', g1, g2⟩ := ih (i + 1) fu (xu (xu s 4 (i : Int) (s0 97 (i : Int))) 3 1 ((i : Int) + 1)) (by omega) (by omega) (fun c z1 z2 => by rw [xu_row _ _ _ z1, xu_row _ _ _ z2]; exact hc c z1 z2) (by rw [xu_same]; omega) (fun x x1 x2 => by
      rw [xu_row _ _ _ (show (4 : Int) ≠ 3 by decide)]
      by_cases z : x = i
      · rw [z, xu_same]
      · rw [xu_slot _ _ _ z]
        exact h2 x x1 (by omega))
    refine ⟨s', ?_, g2⟩
    rw [F_X10_order_20, hc 92 (by decide) (by decide), hc 97 (by decide) (by decide), e0, xw_sm (x := (i : Int)) (by omega) (by omega), xw_sm (x := n) (by omega) (by omega), if_pos (by omega), xgd_t (by omega), xw_sm (x := s0 97 (i : Int)) (by omega) (by omega), hadd]
    simp only [xbp_s, xbd_s, xls, xli, xlt, xjn]
    rw [show ((i : Int) + 1) = ((i + 1 : Nat) : Int) by omega] at g1 ⊢
    exact g1
theorem order_24 {n : Int} {s0 : xW} {A : Int → Int} {k : Int → xW → Option (Int × xW)} (hn : 0 ≤ n ∧ n ≤ 8) (e0 : s0 121 4 = n) (hA : ∀ x : Int, 0 ≤ x → x < n → (0 ≤ A x ∧ A x ≤ 1000) ∧ s0 141 x = A x) :
    ∀ (j i fu : Nat) (s : xW), (i : Int) + j = n → j < fu → s 141 = s0 141 → s 121 4 = n → s 121 1 = i → (∀ x : Int, 0 ≤ x → x < i → s 122 x = A x) → ∃ s', F_X11_order_24 fu (i : Int) s k = k n s' ∧ s' 121 4 = n ∧ s' 121 1 = n ∧ (∀ x : Int, 0 ≤ x → x < n → s' 122 x = A x) := by
  intro j
  induction j with
  | zero =>
    intro i fu s hi hfu hc h4 h1 h2
    obtain ⟨fu, rfl⟩ : ∃ g, fu = g + 1 := ⟨fu - 1, by omega⟩
    have ei : (i : Int) = n := by omega
    rw [ei] at h1 h2
    refine ⟨s, ?_, h4, h1, h2⟩
    rw [ei, F_X11_order_24, h4, if_neg (Int.lt_irrefl _)]
  | succ j ih =>
    intro i fu s hi hfu hc h4 h1 h2
    obtain ⟨fu, rfl⟩ : ∃ g, fu = g + 1 := ⟨fu - 1, by omega⟩
    have ha := hA i (by omega) (by omega)
    have hadd := enters_m (s := s) (v := A (i : Int)) (by omega)
    rw [h1] at hadd
    obtain ⟨s', g1, g2⟩ := ih (i + 1) fu (xu (xu s 122 (i : Int) (A (i : Int))) 121 1 ((i : Int) + 1)) (by omega) (by omega) (by rw [xu_row _ _ _ (show (141 : Int) ≠ 121 by decide), xu_row _ _ _ (show (141 : Int) ≠ 122 by decide)]; exact hc) (by rw [xu_slot _ _ _ (show (4 : Int) ≠ 1 by decide), xu_row _ _ _ (show (121 : Int) ≠ 122 by decide)]; exact h4) (by rw [xu_same]; omega) (fun x x1 x2 => by
      rw [xu_row _ _ _ (show (122 : Int) ≠ 121 by decide)]
      by_cases z : x = i
      · rw [z, xu_same]
      · rw [xu_slot _ _ _ z]
        exact h2 x x1 (by omega))
    refine ⟨s', ?_, g2⟩
    rw [F_X11_order_24, h4, hc, ha.2, xw_sm (x := (i : Int)) (by omega) (by omega), xw_sm (x := n) (by omega) (by omega), if_pos (by omega), xgd_t (by omega), xw_sm (x := A (i : Int)) (by omega) (by omega), hadd]
    simp only [xbp_s, xbd_s, xls, xli, xlt, xjn]
    rw [show ((i : Int) + 1) = ((i + 1 : Nat) : Int) by omega] at g1 ⊢
    exact g1
theorem Xrow_n {σ τ : xW} {n : Int} {A : Int → Int} (hn : 0 ≤ n ∧ n ≤ 16) (h1 : σ 3 1 = n) (h2 : ∀ x : Int, 0 ≤ x → x < n → σ 4 x = A x) (h3 : τ 121 1 = n) (h4 : ∀ x : Int, 0 ≤ x → x < n → τ 122 x = A x) : Xrow σ τ := by
  refine ⟨by omega, by omega, fun i x y => ?_⟩
  rw [h4 i x (by omega), h2 i x (by omega)]
theorem op_order : XO F_X10_order F_X11_order := by
  intro B σ τ hB hB1 h
  have hN := xN_ge
  have hnd := h.2.2.2.2.1.2.2.1
  obtain ⟨s0, s, t0, t, b, a1, a2, a3, a4, a5, a6, a7, a8, a9, a10, a11, a12⟩ := order_d hB1 h
  have hA : ∀ x : Int, 0 ≤ x → x < σ 92 0 → 0 ≤ s 97 x ∧ s 97 x ≤ 1000 := fun x x1 x2 => by
    have := a9 x x1 (by omega)
    omega
  obtain ⟨s', c1, c2, c3, c4⟩ := order_20 (n := σ 92 0) (s0 := xu s 3 1 0) (k := fun (l1_15 : Int) (s16 : xW) => some ((s16 92 0), s16)) hnd (by rw [xu_row _ _ _ (show (92 : Int) ≠ 3 by decide)]; exact a5) (by rw [xu_row _ _ _ (show (97 : Int) ≠ 3 by decide)]; exact hA) (σ 92 0).toNat 0 xN (xu s 3 1 0) (by omega) (by omega) (fun _ _ _ => rfl) (xu_same _ _ _ _) (fun x x1 x2 => by omega)
  rw [xu_row _ _ _ (show (97 : Int) ≠ 3 by decide)] at c4
  obtain ⟨t', d1, d2, d3, d4⟩ := order_24 (n := σ 92 0) (s0 := xu t 121 1 0) (A := s 97) (k := fun (l1_17 : Int) (s18 : xW) => some ((s18 121 4), s18)) hnd (by rw [xu_slot _ _ _ (show (4 : Int) ≠ 1 by decide)]; exact a6) (fun x x1 x2 => ⟨hA x x1 x2, by rw [xu_row _ _ _ (show (141 : Int) ≠ 121 by decide)]; exact a10 x x1 x2⟩) (σ 92 0).toNat 0 xN (xu t 121 1 0) (by omega) (by omega) rfl (by rw [xu_slot _ _ _ (show (4 : Int) ≠ 1 by decide)]; exact a6) (xu_same _ _ _ _) (fun x x1 x2 => by omega)
  have eC : F_X10_order σ = some (σ 92 0, s') := by
    unfold F_X10_order F_X6_clear
    rw [a1]
    simp only [xbp_n]
    rw [a2]
    simp only [xbp_n, xls, xlt]
    refine Eq.trans c1 ?_
    rw [c2 92 (by decide) (by decide), xu_row _ _ _ (show (92 : Int) ≠ 3 by decide), a5]
  have eM : F_X11_order τ = some (σ 92 0, t') := by
    unfold F_X11_order
    simp only [xls, xlt]
    rw [a3]
    simp only [xbp_n]
    rw [a4]
    simp only [xbp_n]
    refine Eq.trans d1 ?_
    rw [d2]
  exact ⟨_, _, _, eC, eM, XR_W (fr_X10_order eC) (by decide +kernel) (fr_X11_order eM) (by decide +kernel) h (Xrow_n (A := s 97) (by omega) c3 c4 d3 d4)⟩
