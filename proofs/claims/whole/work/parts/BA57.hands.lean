/-! hands -/
theorem hands_28 {r n : Int} {s0 : xW} {k : Int → xW → Option (Int × xW)} (hn : 0 ≤ n ∧ n ≤ 8) (e0 : s0 92 0 = n) (hA : ∀ x : Int, 0 ≤ x → x < n → 0 ≤ s0 98 x ∧ s0 98 x ≤ 1000) :
    ∀ (j i fu : Nat) (s : xW), (i : Int) + j = n → j < fu → (∀ c : Int, c ≠ 3 → c ≠ 4 → s c = s0 c) → s 3 1 = i → (∀ x : Int, 0 ≤ x → x < i → s 4 x = s0 98 x) → ∃ s', F_X10_hands_28 r fu (i : Int) s k = k n s' ∧ (∀ c : Int, c ≠ 3 → c ≠ 4 → s' c = s0 c) ∧ s' 3 1 = n ∧ (∀ x : Int, 0 ≤ x → x < n → s' 4 x = s0 98 x) := by
  intro j
  induction j with
  | zero =>
    intro i fu s hi hfu hc h1 h2
    obtain ⟨fu, rfl⟩ : ∃ g, fu = g + 1 := ⟨fu - 1, by omega⟩
    have ei : (i : Int) = n := by omega
    rw [ei] at h1 h2
    refine ⟨s, ?_, hc, h1, h2⟩
    rw [ei, F_X10_hands_28, hc 92 (by decide) (by decide), e0, if_neg (Int.lt_irrefl _)]
  | succ j ih =>
    intro i fu s hi hfu hc h1 h2
    obtain ⟨fu, rfl⟩ : ∃ g, fu = g + 1 := ⟨fu - 1, by omega⟩
    have ha := hA i (by omega) (by omega)
    have hadd := add_c (s := s) (v := s0 98 (i : Int)) (by omega)
    rw [h1] at hadd
    obtain ⟨s', g1, g2⟩ := ih (i + 1) fu (xu (xu s 4 (i : Int) (s0 98 (i : Int))) 3 1 ((i : Int) + 1)) (by omega) (by omega) (fun c z1 z2 => by rw [xu_row _ _ _ z1, xu_row _ _ _ z2]; exact hc c z1 z2) (by rw [xu_same]; omega) (fun x x1 x2 => by
      rw [xu_row _ _ _ (show (4 : Int) ≠ 3 by decide)]
      by_cases z : x = i
      · rw [z, xu_same]
      · rw [xu_slot _ _ _ z]
        exact h2 x x1 (by omega))
    refine ⟨s', ?_, g2⟩
    rw [F_X10_hands_28, hc 92 (by decide) (by decide), hc 98 (by decide) (by decide), e0, xw_sm (x := (i : Int)) (by omega) (by omega), xw_sm (x := n) (by omega) (by omega), if_pos (by omega), xgd_t (by omega), xw_sm (x := s0 98 (i : Int)) (by omega) (by omega), hadd]
    simp only [xbp_s, xbd_s, xls, xli, xlt, xjn]
    rw [show ((i : Int) + 1) = ((i + 1 : Nat) : Int) by omega] at g1 ⊢
    exact g1
theorem hands_127 {r n : Int} {s0 : xW} {A : Int → Int} {k : Int → xW → Option (Int × xW)} (hn : 0 ≤ n ∧ n ≤ 8) (e0 : s0 121 4 = n) (hA : ∀ x : Int, 0 ≤ x → x < n → (0 ≤ A x ∧ A x ≤ 1000) ∧ s0 145 x = A x) :
    ∀ (j i fu : Nat) (s : xW), (i : Int) + j = n → j < fu → s 145 = s0 145 → s 121 4 = n → s 121 1 = i → (∀ x : Int, 0 ≤ x → x < i → s 122 x = A x) → ∃ s', F_X11_hands_127 r fu (i : Int) s k = k n s' ∧ s' 121 4 = n ∧ s' 121 1 = n ∧ (∀ x : Int, 0 ≤ x → x < n → s' 122 x = A x) := by
  intro j
  induction j with
  | zero =>
    intro i fu s hi hfu hc h4 h1 h2
    obtain ⟨fu, rfl⟩ : ∃ g, fu = g + 1 := ⟨fu - 1, by omega⟩
    have ei : (i : Int) = n := by omega
    rw [ei] at h1 h2
    refine ⟨s, ?_, h4, h1, h2⟩
    rw [ei, F_X11_hands_127, h4, if_neg (Int.lt_irrefl _)]
  | succ j ih =>
    intro i fu s hi hfu hc h4 h1 h2
    obtain ⟨fu, rfl⟩ : ∃ g, fu = g + 1 := ⟨fu - 1, by omega⟩
    have ha := hA i (by omega) (by omega)
    have hadd := enters_m (s := s) (v := A (i : Int)) (by omega)
    rw [h1] at hadd
    obtain ⟨s', g1, g2⟩ := ih (i + 1) fu (xu (xu s 122 (i : Int) (A (i : Int))) 121 1 ((i : Int) + 1)) (by omega) (by omega) (by rw [xu_row _ _ _ (show (145 : Int) ≠ 121 by decide), xu_row _ _ _ (show (145 : Int) ≠ 122 by decide)]; exact hc) (by rw [xu_slot _ _ _ (show (4 : Int) ≠ 1 by decide), xu_row _ _ _ (show (121 : Int) ≠ 122 by decide)]; exact h4) (by rw [xu_same]; omega) (fun x x1 x2 => by
      rw [xu_row _ _ _ (show (122 : Int) ≠ 121 by decide)]
      by_cases z : x = i
      · rw [z, xu_same]
      · rw [xu_slot _ _ _ z]
        exact h2 x x1 (by omega))
    refine ⟨s', ?_, g2⟩
    rw [F_X11_hands_127, h4, hc, ha.2, xw_sm (x := (i : Int)) (by omega) (by omega), xw_sm (x := n) (by omega) (by omega), if_pos (by omega), xgd_t (by omega), xw_sm (x := A (i : Int)) (by omega) (by omega), hadd]
    simp only [xbp_s, xbd_s, xls, xli, xlt, xjn]
    rw [show ((i : Int) + 1) = ((i + 1 : Nat) : Int) by omega] at g1 ⊢
    exact g1
theorem hands_21 {s0 : xW} {k : Int → xW → Option (Int × xW)} :
    ∀ (j i fu : Nat) (s : xW), i + j = 8 → j < fu → (∀ c : Int, c ≠ 144 → s c = s0 c) → (∀ x : Int, 0 ≤ x → x < i → s 144 x = 0) → ∃ s', F_X11_hands_21 0 fu (i : Int) s k = k 8 s' ∧ (∀ c : Int, c ≠ 144 → s' c = s0 c) ∧ (∀ x : Int, 0 ≤ x → x < 8 → s' 144 x = 0) := by
  intro j
  induction j with
  | zero =>
    intro i fu s hi hfu hc h1
    obtain ⟨fu, rfl⟩ : ∃ g, fu = g + 1 := ⟨fu - 1, by omega⟩
    have ei : (i : Int) = 8 := by omega
    rw [ei] at h1
    refine ⟨s, ?_, hc, h1⟩
    rw [ei, F_X11_hands_21, if_neg (by decide)]
  | succ j ih =>
    intro i fu s hi hfu hc h1
    obtain ⟨fu, rfl⟩ : ∃ g, fu = g + 1 := ⟨fu - 1, by omega⟩
    obtain ⟨s', g1, g2⟩ := ih (i + 1) fu (xu s 144 (i : Int) 0) (by omega) (by omega) (fun c z => by rw [xu_row _ _ _ z]; exact hc c z) (fun x x1 x2 => by
      by_cases z : x = i
      · rw [z, xu_same]
      · rw [xu_slot _ _ _ z]
        exact h1 x x1 (by omega))
    refine ⟨s', ?_, g2⟩
    rw [F_X11_hands_21, xw_sm (x := (i : Int)) (by omega) (by omega), if_pos (by omega), xgd_t (by omega), xls, xlt, show ((i : Int) + 1) = ((i + 1 : Nat) : Int) by omega]
    exact g1
theorem op_hands : XO F_X10_hands F_X11_hands := by
  intro B σ τ hB hB1 h
  have hN := xN_ge
  have hnd := h.2.2.2.2.1.2.2.1
  have hto := h.2.2.2.2.2.1
  obtain ⟨s0, s, t0, t, b, a1, a2, a3, a4, a5, a6, a7, a8, a9, a10, a11, a12⟩ := order_d hB1 h
  have hl : ∀ d : Int, 0 ≤ d → d < σ 92 0 → 1 ≤ σ 20 d ∧ σ 20 d ≤ 9 := fun d x y => by
    have w1 := hto.1.2.2.2 d x (by omega)
    have w2 := hto.2.2.2 d x y
    omega
  obtain ⟨t1, z1, z2, z3⟩ := hands_21 (s0 := t) (k := fun (l2_16 : Int) (s17 : xW) =>
    F_X11_hands_42 xN 0 0 s17 fun (l1_45 : Int) (l2_46 : Int) (s47 : xW) =>
    xls (xu s47 121 1 0) fun s48 =>
    F_X11_hands_127 l1_45 xN 0 s48 fun (l2_59 : Int) (s60 : xW) =>
    some (l1_45, s60)) 8 0 xN t (by omega) (by omega) (fun _ _ => rfl) (fun x x1 x2 => by omega)
  have e4 : t1 121 4 = σ 92 0 := by rw [z2 121 (by decide)]; exact a6
  obtain ⟨m, s', t', c1, c2, c3, c4, c5⟩ := hands_l (b := b) (l := σ 20) (A := s 97) (n := σ 92 0) (s0 := s) (t0 := t1) (kC := fun (l1_27 : Int) (l2_28 : Int) (s29 : xW) => some (l1_27, s29)) (kM := fun (l1_45 : Int) (l2_46 : Int) (s47 : xW) =>
    xls (xu s47 121 1 0) fun s48 =>
    F_X11_hands_127 l1_45 xN 0 s48 fun (l2_59 : Int) (s60 : xW) =>
    some (l1_45, s60)) hnd a5 e4 (by
      refine ⟨by rw [e4]; exact hnd, fun d x y => ?_⟩
      rw [e4] at y
      have w := a11 d x y
      have w2 := hl d x y
      rw [z2 135 (by decide), z2 127 (by decide), w.2.2.2.1, w.2.2.2.2]
      omega) a9 (fun d x y => by
      have w := a11 d x y
      rw [z2 135 (by decide), z2 127 (by decide)]
      exact ⟨w.1, hl d x y, w.2.1, w.2.2.1, w.2.2.2.1, w.2.2.2.2⟩) (fun x x1 x2 => ⟨rfl, by rw [z2 141 (by decide)]; exact a10 x x1 x2⟩) (σ 92 0).toNat 0 xN xN 0 s t1 (by omega) (by omega) (by omega) (fun _ _ _ => rfl) (fun _ _ _ => rfl) ⟨by omega, fun x x1 x2 => by omega, fun x x1 x2 => z3 x x1 x2⟩ (fun x x1 x2 => by omega)
  have hd : ∀ d : Int, 0 ≤ d → d < σ 92 0 → s' 98 d = t' 145 d ∧ 0 ≤ s' 98 d ∧ s' 98 d ≤ 7 := fun d x y => by
    obtain ⟨u, u1, u2⟩ := a12 d x y
    have := c5 u u1.1 u1.2
    rw [u2] at this
    exact this
  obtain ⟨s2, f1, f2, f3, f4⟩ := hands_28 (r := m) (n := σ 92 0) (s0 := xu s' 3 1 0) (k := fun (l2_19 : Int) (s20 : xW) => some (m, s20)) hnd (by rw [xu_row _ _ _ (show (92 : Int) ≠ 3 by decide), c3 92 (by decide) (by decide)]; exact a5) (fun x x1 x2 => by rw [xu_row _ _ _ (show (98 : Int) ≠ 3 by decide)]; have := hd x x1 x2; omega) (σ 92 0).toNat 0 xN (xu s' 3 1 0) (by omega) (by omega) (fun _ _ _ => rfl) (xu_same _ _ _ _) (fun x x1 x2 => by omega)
  rw [xu_row _ _ _ (show (98 : Int) ≠ 3 by decide)] at f4
  have e4' : t' 121 4 = σ 92 0 := by rw [c4 121 (by decide) (by decide)]; exact e4
  obtain ⟨t2, g1, g2, g3, g4⟩ := hands_127 (r := m) (n := σ 92 0) (s0 := xu t' 121 1 0) (A := s' 98) (k := fun (l2_59 : Int) (s60 : xW) => some (m, s60)) hnd (by rw [xu_slot _ _ _ (show (4 : Int) ≠ 1 by decide)]; exact e4') (fun x x1 x2 => ⟨by have := hd x x1 x2; omega, by rw [xu_row _ _ _ (show (145 : Int) ≠ 121 by decide)]; exact (hd x x1 x2).1.symm⟩) (σ 92 0).toNat 0 xN (xu t' 121 1 0) (by omega) (by omega) rfl (by rw [xu_slot _ _ _ (show (4 : Int) ≠ 1 by decide)]; exact e4') (xu_same _ _ _ _) (fun x x1 x2 => by omega)
  have eC : F_X10_hands σ = some (m, s2) := by
    unfold F_X10_hands F_X6_clear F_X4_shareOut
    rw [a1]
    simp only [xbp_n]
    rw [a2]
    simp only [xbp_n]
    refine Eq.trans (congrArg (fun o => xbd o _) c1) ?_
    simp only [xbd_n, xbp_n, xls, xlt]
    exact f1
  have eM : F_X11_hands τ = some (m, t2) := by
    unfold F_X11_hands
    simp only [xls, xlt]
    rw [a3]
    simp only [xbp_n]
    rw [a4]
    simp only [xbp_n]
    exact Eq.trans z1 (Eq.trans c2 g1)
  exact ⟨_, _, _, eC, eM, XR_W (fr_X10_hands eC) (by decide +kernel) (fr_X11_hands eM) (by decide +kernel) h (Xrow_n (A := s' 98) (by omega) f3 f4 g3 g4)⟩
