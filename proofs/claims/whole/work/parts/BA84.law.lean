/-! rule -/
def W_rc : List (Int × Int) := [(1, 1), (9, -1), (10, -1), (12, -1), (13, -1), (14, -1), (16, -1)]
theorem xfm_rc {σ s4 : xW} (ha : σ 0 5 = 9 ∨ σ 0 5 = 13) (h : ∀ x, x ≠ σ 0 5 → x ≠ σ 0 5 + 1 → x ≠ σ 0 5 + 3 → s4 x = σ x) : xfm W_rc σ (xu s4 1 1 0) := by
  intro x k h1 h2
  have n1 : ¬ (x = 1 ∧ k = 1) := fun w => h1 (by rw [w.1, w.2]; decide)
  have n9 : x ≠ 9 := fun w => h2 (by rw [w]; decide)
  have n10 : x ≠ 10 := fun w => h2 (by rw [w]; decide)
  have n12 : x ≠ 12 := fun w => h2 (by rw [w]; decide)
  have n13 : x ≠ 13 := fun w => h2 (by rw [w]; decide)
  have n14 : x ≠ 14 := fun w => h2 (by rw [w]; decide)
  have n16 : x ≠ 16 := fun w => h2 (by rw [w]; decide)
  unfold xu
  rw [if_neg n1, h x (by omega) (by omega) (by omega)]
theorem XR_rbad {B : Int} {σ τ s4 t5 : xW} (hR : XR B σ τ) (h : ∀ x, x ≠ σ 0 5 → x ≠ σ 0 5 + 1 → x ≠ σ 0 5 + 3 → s4 x = σ x) (e15 : t5 121 15 = 0) (hfM : xfm W_rr (xu τ 121 0 0) t5) : XR (B + 300) (xu s4 1 1 0) t5 := by
  have hru := hR.2.2.2.1.1
  have hfC := xfm_rc (by omega) h
  obtain ⟨h1, h2, h3, h4, h5, h6, h7, h8, h9, h10⟩ := XR_thr hR
  refine XR_mono (show _ ≤ B + 300 by omega) ⟨?_, Xrow_cW hfC (by decide +kernel) (Xrow_mW hfM (by decide +kernel) h2), Xsky_cW hfC (by decide +kernel) (Xsky_mW hfM (by decide +kernel) h3), ?_, Xplan_cW hfC (by decide +kernel) (Xplan_mW hfM (by decide +kernel) h5), Xtown_cW hfC (by decide +kernel) (Xtown_mW hfM (by decide +kernel) h6), Xpast_cW hfC (by decide +kernel) (Xpast_mW hfM (by decide +kernel) h7), Xkept_cW hfC (by decide +kernel) (Xkept_mW hfM (by decide +kernel) h8), Xrep_cW hfC (by decide +kernel) (Xrep_mW hfM (by decide +kernel) h9), Xforts_cW hfC (by decide +kernel) h10⟩
  · refine ⟨?_, fun i => ?_, ?_, fun i x y => ?_⟩
    · rw [xu_same]; omega
    · rw [xu_row _ _ _ (show (2 : Int) ≠ 1 by decide), h 2 (by omega) (by omega) (by omega)]
      exact h1.2.1 i
    · rw [xu_same]; exact e15
    · rw [xu_same] at y; omega
  · have e0 : xu s4 1 1 0 0 = σ 0 := xfm_cell hfC (by decide)
    have ec : ∀ x, x ≠ 1 → xu s4 1 1 0 x = s4 x := fun x w => xu_row _ _ _ w
    refine Xrule_c (by rw [e0]) (by rw [e0]) (fun w => ⟨?_, ?_⟩) (fun w => ⟨?_, ?_⟩) (Xrule_mW hfM (by decide +kernel) h4)
    · rw [ec 9 (by decide), h 9 (by omega) (by omega) (by omega)]
    · rw [ec 10 (by decide), h 10 (by omega) (by omega) (by omega)]
    · rw [ec 13 (by decide), h 13 (by omega) (by omega) (by omega)]
    · rw [ec 14 (by decide), h 14 (by omega) (by omega) (by omega)]
theorem op_rule : XO F_X10_rule F_X11_rule := by
  intro B σ τ hB hB1 hR
  have hru := hR.2.2.2.1.1
  obtain ⟨c, s4, t5, f1, f2, f3, f4⟩ := rule_d hR
  have hR5 : σ 0 5 ∈ xRules := by rcases hru with w | w <;> rw [w.2] <;> decide
  have hR4 : σ 0 4 ∈ xRules := by rcases hru with w | w <;> rw [w.1] <;> decide
  have e0 : s4 0 = σ 0 := f1 0 (by omega) (by omega) (by omega)
  rcases f4 with ⟨g1, g2, g3, g4⟩ | ⟨g1, g2, g3, g4⟩
  · have eC : F_X10_rule σ = some (-1 - c, xu s4 1 1 0) := by
      unfold F_X10_rule F_X8_clear
      rw [xgd_t hR5, g1]
      simp only [xbp_s, xbd_s, xls, xli, xlt, xjn]
      rw [xw_sm (x := c) (by omega) (by omega), if_neg (by omega)]
    have eM : F_X11_rule τ = some (-1 - c, t5) := by
      unfold F_X11_rule
      simp only [xls, xlt]
      rw [g2]
      simp only [xbp_s, xbd_s, xls, xli, xlt, xjn]
      rw [xw_sm (x := -1 - c) (by omega) (by omega), if_neg (by omega)]
    exact ⟨_, _, _, eC, eM, XR_rbad hR f1 f2 f3⟩
  · obtain ⟨t6, u1, u2, u3, u4, u5⟩ := laysCode_m (c := 132) (m := t5 121 24) (t := t5) (Or.inl rfl) g3
    obtain ⟨σ1, hσ1⟩ : ∃ σ1, σ1 = xu (xu (xu s4 0 4 (σ 0 5)) 0 5 (σ 0 4)) 1 1 0 := ⟨_, rfl⟩
    have eC : F_X10_rule σ = some (0, σ1) := by
      unfold F_X10_rule F_X8_clear
      rw [xgd_t hR5, g1]
      simp only [xbp_s, xbd_s, xls, xli, xlt, xjn]
      rw [if_pos (show xw (-1) = -1 by decide), e0, xgd_t hR4, xgd_t hR5, hσ1]
      rfl
    have eM : F_X11_rule τ = some (0, t6) := by
      unfold F_X11_rule
      simp only [xls, xlt]
      rw [g2]
      simp only [xbp_s, xbd_s, xls, xli, xlt, xjn]
      rw [if_pos (show xw 0 = 0 by decide), u1]
      rfl
    refine ⟨_, _, _, eC, eM, ?_⟩
    have hfC : xfm ([(0, 4), (0, 5)] ++ W_rc) σ σ1 := fun x k w1 w2 => by
      rw [hσ1]
      have q := xfm_rc (by omega) f1 x k (fun w => w1 (List.mem_append_right _ w)) (fun w => w2 (List.mem_append_right _ w))
      have n4 : ¬ (x = 0 ∧ k = 4) := fun w => w1 (by rw [w.1, w.2]; decide)
      have n5 : ¬ (x = 0 ∧ k = 5) := fun w => w1 (by rw [w.1, w.2]; decide)
      unfold xu at q ⊢
      by_cases y : x = 1 ∧ k = 1
      · rw [if_pos y] at q ⊢; exact q
      · rw [if_neg y] at q ⊢
        rw [if_neg n5, if_neg n4]
        exact q
    have hfM : xfm ([(121, 23), (131, -1)] ++ W_rr) (xu τ 121 0 0) t6 := fun x k w1 w2 => by
      have q := f3 x k (fun w => w1 (List.mem_append_right _ w)) (fun w => w2 (List.mem_append_right _ w))
      by_cases y : x = 121
      · rw [y] at w1 q ⊢
        rw [u3 k (fun w => w1 (by rw [w]; decide))]
        exact q
      · rw [u2 x (fun w => w2 (by rw [w]; decide)) y]
        exact q
    obtain ⟨h1, h2, h3, h4, h5, h6, h7, h8, h9, h10⟩ := XR_thr hR
    have k11 : σ1 1 1 = 0 := by rw [hσ1, xu_same]
    have k04 : σ1 0 4 = σ 0 5 := by rw [hσ1]; simp [xu]
    have k05 : σ1 0 5 = σ 0 4 := by rw [hσ1]; simp [xu]
    have kx : ∀ x, x ≠ 0 → x ≠ 1 → σ1 x = s4 x := fun x x1 x2 => by rw [hσ1, xu_row _ _ _ x2, xu_row _ _ _ x1, xu_row _ _ _ x1]
    refine XR_mono (show _ ≤ B + 300 by omega) ⟨?_, Xrow_cW hfC (by decide +kernel) (Xrow_mW hfM (by decide +kernel) h2), Xsky_cW hfC (by decide +kernel) (Xsky_mW hfM (by decide +kernel) h3), ?_, Xplan_cW hfC (by decide +kernel) (Xplan_mW hfM (by decide +kernel) h5), Xtown_cW hfC (by decide +kernel) (Xtown_mW hfM (by decide +kernel) h6), Xpast_cW hfC (by decide +kernel) (Xpast_mW hfM (by decide +kernel) h7), Xkept_cW hfC (by decide +kernel) (Xkept_mW hfM (by decide +kernel) h8), Xrep_cW hfC (by decide +kernel) (Xrep_mW hfM (by decide +kernel) h9), Xforts_cW hfC (by decide +kernel) h10⟩
    · refine ⟨by omega, fun i => ?_, by rw [u3 15 (by decide), k11]; exact f2, fun i x y => by omega⟩
      rw [kx 2 (by decide) (by decide), f1 2 (by omega) (by omega) (by omega)]
      exact h1.2.1 i
    · refine ⟨by rw [k04, k05]; omega, ?_⟩
      rw [k04, kx _ (by omega) (by omega), kx _ (by omega) (by omega), u4]
      exact XRC_c g4 u5
/-! law -/
theorem law_86 {l2 l3 n : Int} {s0 : xW} {k : Int → xW → Option (Int × xW)} (hn : 0 ≤ n ∧ n ≤ 8) (e0 : s0 0 14 = n) (hA : ∀ x : Int, 0 ≤ x → x < n → 0 ≤ s0 91 x ∧ s0 91 x ≤ 1000) {r0 r1 : Int} :
    ∀ (j i fu : Nat) (s : xW), (i : Int) + j = n → j < fu → (∀ c : Int, c ≠ 3 → c ≠ 4 → s c = s0 c) → s 3 1 = 2 + i → s 4 0 = r0 → s 4 1 = r1 → (∀ x : Int, 0 ≤ x → x < i → s 4 (2 + x) = s0 91 x) → ∃ s', F_X10_law_86 l2 l3 fu (i : Int) s k = k n s' ∧ (∀ c : Int, c ≠ 3 → c ≠ 4 → s' c = s0 c) ∧ s' 3 1 = 2 + n ∧ s' 4 0 = r0 ∧ s' 4 1 = r1 ∧ (∀ x : Int, 0 ≤ x → x < n → s' 4 (2 + x) = s0 91 x) := by
  intro j
  induction j with
  | zero =>
    intro i fu s hi hfu hc h1 h2 h3 h4
    obtain ⟨fu, rfl⟩ : ∃ g, fu = g + 1 := ⟨fu - 1, by omega⟩
    have ei : (i : Int) = n := by omega
    rw [ei] at h1 h4
    refine ⟨s, ?_, hc, h1, h2, h3, h4⟩
    rw [ei, F_X10_law_86, hc 0 (by decide) (by decide), e0, if_neg (Int.lt_irrefl _)]
  | succ j ih =>
    intro i fu s hi hfu hc h1 h2 h3 h4
    obtain ⟨fu, rfl⟩ : ∃ g, fu = g + 1 := ⟨fu - 1, by omega⟩
    have ha := hA i (by omega) (by omega)
    have hadd := add_c (s := s) (v := s0 91 (i : Int)) (by omega)
    rw [h1] at hadd
    obtain ⟨s', g1, g2⟩ := ih (i + 1) fu (xu (xu s 4 (2 + (i : Int)) (s0 91 (i : Int))) 3 1 (2 + (i : Int) + 1)) (by omega) (by omega) (fun c z1 z2 => by rw [xu_row _ _ _ z1, xu_row _ _ _ z2]; exact hc c z1 z2) (by rw [xu_same]; omega) (by rw [xu_row _ _ _ (show (4 : Int) ≠ 3 by decide), xu_slot _ _ _ (by omega)]; exact h2) (by rw [xu_row _ _ _ (show (4 : Int) ≠ 3 by decide), xu_slot _ _ _ (by omega)]; exact h3) (fun x x1 x2 => by
      rw [xu_row _ _ _ (show (4 : Int) ≠ 3 by decide)]
      by_cases z : x = i
      · rw [z, xu_same]
      · rw [xu_slot _ _ _ (by omega)]
        exact h4 x x1 (by omega))
    refine ⟨s', ?_, g2⟩
    rw [F_X10_law_86, hc 0 (by decide) (by decide), hc 91 (by decide) (by decide), e0, xw_sm (x := (i : Int)) (by omega) (by omega), xw_sm (x := n) (by omega) (by omega), if_pos (by omega), xgd_t (by omega), xw_sm (x := s0 91 (i : Int)) (by omega) (by omega), hadd]
    simp only [xbp_s, xbd_s, xls, xli, xlt, xjn]
    rw [show ((i : Int) + 1) = ((i + 1 : Nat) : Int) by omega]
    exact g1
theorem law_111 {l2 l3 l4 n : Int} {s0 : xW} {b : Int → Int} {k : Int → xW → Option (Int × xW)} (hn : 0 ≤ n ∧ n ≤ 8) (e0 : s0 121 3 = n) (hb : ∀ x : Int, 0 ≤ b x ∧ b x ≤ 108) (hH : ∀ s : xW, (∀ c, c ≠ 121 → c ≠ 122 → c ≠ 133 → c ≠ 134 → s c = s0 c) → (∀ k, k ≠ 1 → s 121 k = s0 121 k) → ∀ e : Int, 0 ≤ e → e < n → ∃ s', F_X11_hears 127 e s = some (b e, s') ∧ (∀ c, c ≠ 133 → c ≠ 134 → s' c = s c)) {r0 r1 : Int} :
    ∀ (j i fu : Nat) (s : xW), (i : Int) + j = n → j < fu → (∀ c, c ≠ 121 → c ≠ 122 → c ≠ 133 → c ≠ 134 → s c = s0 c) → (∀ k, k ≠ 1 → s 121 k = s0 121 k) → s 121 1 = 2 + i → s 122 0 = r0 → s 122 1 = r1 → (∀ x : Int, 0 ≤ x → x < i → s 122 (2 + x) = b x) → ∃ s', F_X11_law_111 l2 l3 l4 fu (i : Int) s k = k n s' ∧ (∀ c, c ≠ 121 → c ≠ 122 → c ≠ 133 → c ≠ 134 → s' c = s0 c) ∧ (∀ k, k ≠ 1 → s' 121 k = s0 121 k) ∧ s' 121 1 = 2 + n ∧ s' 122 0 = r0 ∧ s' 122 1 = r1 ∧ (∀ x : Int, 0 ≤ x → x < n → s' 122 (2 + x) = b x) := by
  intro j
  induction j with
  | zero =>
    intro i fu s hi hfu hc hk h1 h2 h3 h4
    obtain ⟨fu, rfl⟩ : ∃ g, fu = g + 1 := ⟨fu - 1, by omega⟩
    have ei : (i : Int) = n := by omega
    rw [ei] at h1 h4
    refine ⟨s, ?_, hc, hk, h1, h2, h3, h4⟩
    rw [ei, F_X11_law_111, hk 3 (by decide), e0, if_neg (Int.lt_irrefl _)]
  | succ j ih =>
    intro i fu s hi hfu hc hk h1 h2 h3 h4
    obtain ⟨fu, rfl⟩ : ∃ g, fu = g + 1 := ⟨fu - 1, by omega⟩
    have hbi := hb i
    obtain ⟨s1, u1, u2⟩ := hH s hc hk i (by omega) (by omega)
    have e121 : s1 121 = s 121 := u2 121 (by decide) (by decide)
    have e122 : s1 122 = s 122 := u2 122 (by decide) (by decide)
    have hadd := enters_m (s := s1) (v := b (i : Int)) (by rw [e121]; omega)
    rw [e121, h1] at hadd
    obtain ⟨s', g1, g2⟩ := ih (i + 1) fu (xu (xu s1 122 (2 + (i : Int)) (b (i : Int))) 121 1 (2 + (i : Int) + 1)) (by omega) (by omega) (fun c z1 z2 z3 z4 => by rw [xu_row _ _ _ z1, xu_row _ _ _ z2, u2 c z3 z4]; exact hc c z1 z2 z3 z4) (fun k k1 => by rw [xu_slot _ _ _ k1, xu_row _ _ _ (show (121 : Int) ≠ 122 by decide), e121]; exact hk k k1) (by rw [xu_same]; omega) (by rw [xu_row _ _ _ (show (122 : Int) ≠ 121 by decide), xu_slot _ _ _ (by omega), e122]; exact h2) (by rw [xu_row _ _ _ (show (122 : Int) ≠ 121 by decide), xu_slot _ _ _ (by omega), e122]; exact h3) (fun x x1 x2 => by
      rw [xu_row _ _ _ (show (122 : Int) ≠ 121 by decide)]
      by_cases z : x = i
      · rw [z, xu_same]
      · rw [xu_slot _ _ _ (by omega), e122]
        exact h4 x x1 (by omega))
    refine ⟨s', ?_, g2⟩
    rw [F_X11_law_111, hk 3 (by decide), e0, xw_sm (x := (i : Int)) (by omega) (by omega), xw_sm (x := n) (by omega) (by omega), if_pos (by omega), u1]
    simp only [xbp_s, xbd_s, xls, xli, xlt, xjn]
    rw [xw_sm (x := b (i : Int)) (by omega) (by omega), hadd]
    simp only [xbp_s, xbd_s, xls, xli, xlt, xjn]
    rw [show ((i : Int) + 1) = ((i + 1 : Nat) : Int) by omega]
    exact g1
theorem law_39 {l2 l3 m : Int} {s0 : xW} {k : Int → xW → Option (Int × xW)} (hm : 0 ≤ m ∧ m ≤ 40) (e0 : s0 121 23 = m) :
    ∀ (j i fu : Nat) (s : xW), (i : Int) + j = m → j < fu → (∀ x : Int, x ≠ 150 → s x = s0 x) → (∀ x : Int, 0 ≤ x → x < i → s 150 x = s0 131 x) → ∃ s', F_X11_law_39 l2 l3 fu (i : Int) s k = k m s' ∧ (∀ x : Int, x ≠ 150 → s' x = s0 x) ∧ (∀ x : Int, 0 ≤ x → x < m → s' 150 x = s0 131 x) := by
  intro j
  induction j with
  | zero =>
    intro i fu s hi hfu h1 h2
    obtain ⟨fu, rfl⟩ : ∃ g, fu = g + 1 := ⟨fu - 1, by omega⟩
    have ei : (i : Int) = m := by omega
    rw [ei] at h2
    refine ⟨s, ?_, h1, h2⟩
    rw [ei, F_X11_law_39, h1 121 (by decide), e0, if_neg (Int.lt_irrefl _)]
  | succ j ih =>
    intro i fu s hi hfu h1 h2
    obtain ⟨fu, rfl⟩ : ∃ g, fu = g + 1 := ⟨fu - 1, by omega⟩
    rw [F_X11_law_39, h1 121 (by decide), e0, xw_sm (x := (i : Int)) (by omega) (by omega), xw_sm (x := m) (by omega) (by omega), if_pos (by omega), xgd_t (by omega), xgd_t (by omega), xls, xlt, h1 131 (by decide), show ((i : Int) + 1) = ((i + 1 : Nat) : Int) by omega]
    refine ih (i + 1) fu _ (by omega) (by omega) (fun x z => by rw [xu_row _ _ _ z]; exact h1 x z) (fun x x1 x2 => ?_)
    by_cases z : x = i
    · rw [z, xu_same]
    · rw [xu_slot _ _ _ z]
      exact h2 x x1 (by omega)
theorem Xcw_t {m m0 : Int} {cd cd0 : Int → Int} {r r0 : Int} {σ s : xW} (h : Xcw m0 cd0 r0 σ) (hr : r = 9 ∨ r = 13) (hx : XRC (s r 1) (s (r + 1)) m cd) (e : ∀ c, c = 0 ∨ c = 5 ∨ c = 7 ∨ c = 8 ∨ c = 18 ∨ c = 20 ∨ c = 92 ∨ c = 93 ∨ c = 94 → s c = σ c) : Xcw m cd r s := by
  unfold Xcw at *
  rw [e 0 (by omega), e 5 (by omega), e 7 (by omega), e 8 (by omega), e 18 (by omega), e 20 (by omega), e 92 (by omega), e 93 (by omega), e 94 (by omega)]
  exact ⟨hr, hx, h.2.2⟩
theorem op_law : XO F_X10_law F_X11_law := by
  intro B σ τ hB hB1 hR
  have hN := xN_ge
  have hru := hR.2.2.2.1.1
  have hact := hR.2.2.2.1.2
  obtain ⟨c, s4, t5, f1, f2, f3, f4⟩ := rule_d hR
  have hR5 : σ 0 5 ∈ xRules := by rcases hru with w | w <;> rw [w.2] <;> decide
  rcases f4 with ⟨g1, g2, g3, g4⟩ | ⟨g1, g2, g3, g4⟩
  · have eC : F_X10_law σ = some (-10000 - c, xu s4 1 1 0) := by
      unfold F_X10_law F_X8_clear
      rw [xgd_t hR5, g1]
      simp only [xbp_s, xbd_s, xls, xli, xlt, xjn]
      rw [xw_sm (x := c) (by omega) (by omega), if_pos (by omega)]
    have eM : F_X11_law τ = some (-10000 - c, t5) := by
      unfold F_X11_law
      simp only [xls, xlt]
      rw [g2]
      simp only [xbp_s, xbd_s, xls, xli, xlt, xjn]
      rw [xw_sm (x := -1 - c) (by omega) (by omega), if_pos (by omega), show -1 - c + 1 - 10000 = -10000 - c by omega]
    exact ⟨_, _, _, eC, eM, XR_rbad hR f1 f2 f3⟩
  · have hcw := XR_cw hR
    have hmw := XR_mw hR
    have hmr := XR_mr hB1 hR
    obtain ⟨h1, h2, h3, h4, h5, h6, h7, h8, h9, h10⟩ := id hR
    have hday := h6.1.1.2.2.2.2.2
    have hgun := h6.1.1.1
    have hnh := h5.1
    have hnd := h5.2.2.1
    have hmo : 0 ≤ τ 121 23 ∧ τ 121 23 ≤ 40 := by
      rcases hact with w | w
      · omega
      · omega
    obtain ⟨a, had⟩ : ∃ a, a = σ 0 5 := ⟨_, rfl⟩
    obtain ⟨r0, hrd⟩ : ∃ r0, r0 = σ 0 4 := ⟨_, rfl⟩
    rw [← had] at f1 g1 g4 hR5
    rw [← had, ← hrd] at hru
    rw [← hrd] at hcw hact
    -- the class
    obtain ⟨s6, hs6⟩ : ∃ s6, s6 = xu s4 1 1 0 := ⟨_, rfl⟩
    have e6 : ∀ x, x ≠ 1 → x ≠ a → x ≠ a + 1 → x ≠ a + 3 → s6 x = σ x := fun x x1 x2 x3 x4 => by rw [hs6, xu_row _ _ _ x1]; exact f1 x x2 x3 x4
    have c0 : s6 0 = σ 0 := e6 0 (by omega) (by omega) (by omega) (by omega)
    have c17 : s6 17 = σ 17 := e6 17 (by omega) (by omega) (by omega) (by omega)
    have hcw6 : Xcw (τ 121 23) (τ 131) (s6 0 4) s6 := by
      rw [c0, ← hrd]
      refine Xcw_t hcw (by omega) ?_ (fun x hx => e6 x (by omega) (by omega) (by omega) (by omega))
      rw [e6 r0 (by omega) (by omega) (by omega) (by omega), e6 (r0 + 1) (by omega) (by omega) (by omega) (by omega)]
      exact hact
    obtain ⟨s10, p1, p2⟩ := pairsOn_c (day := σ 17 5) hcw6 (by rw [c17]; exact hgun) (by omega)
    rw [c17] at p1
    rw [c0, c17, ← hrd] at p2
    obtain ⟨q1, q2, q3, q4, q5⟩ := id p2
    have e10 : ∀ x, x ≠ 1 → x ≠ a → x ≠ a + 1 → x ≠ a + 3 → x ≠ 90 → x ≠ 91 → x ≠ r0 + 2 → x ≠ 95 → x ≠ 96 → s10 x = σ x := fun x x1 x2 x3 x4 x5 x6 x7 x8 x9 => by rw [q1 x x5 x6 x7 x8 x9]; exact e6 x x1 x2 x3 x4
    have hsame6 : Xsame σ s6 := by
      refine ⟨?_, ?_, ?_, ?_, ?_, ?_, ?_, ?_, ?_⟩ <;> rw [e6 _ (by omega) (by omega) (by omega) (by omega)]
    have hsame10 : Xsame σ s10 := by
      refine ⟨?_, ?_, ?_, ?_, ?_, ?_, ?_, ?_, ?_⟩ <;> rw [e10 _ (by omega) (by omega) (by omega) (by omega) (by omega) (by omega) (by omega) (by omega) (by omega)]
    -- the reference
    have s121 : ∀ k, k ≠ 0 → k ≠ 15 → k ≠ 16 → k ≠ 17 → k ≠ 18 → k ≠ 24 → t5 121 k = τ 121 k := fun k k0 k1 k2 k3 k4 k5 => by
      rw [f3 121 k (by
        intro w
        have : (121, k) ∈ [((121 : Int), (15 : Int)), (121, 16), (121, 18), (121, 17), (121, 24), (132, -1)] := w
        simp only [List.mem_cons, Prod.mk.injEq, List.not_mem_nil, or_false] at this
        omega) (by decide), xu_slot _ _ _ k0]
    have sc : ∀ x, x ≠ 121 → x ≠ 132 → t5 x = τ x := fun x x1 x2 => by
      funext k
      rw [f3 x k (by
        intro w
        have : (x, k) ∈ [((121 : Int), (15 : Int)), (121, 16), (121, 18), (121, 17), (121, 24), (132, -1)] := w
        simp only [List.mem_cons, Prod.mk.injEq, List.not_mem_nil, or_false] at this
        omega) (by
        intro w
        have : (x, -1) ∈ [((121 : Int), (15 : Int)), (121, 16), (121, 18), (121, 17), (121, 24), (132, -1)] := w
        simp only [List.mem_cons, Prod.mk.injEq, List.not_mem_nil, or_false] at this
        omega), xu_row _ _ _ x1]
    have hmw5 : Xmw (τ 121 23) (τ 131) σ t5 := Xmw_c hmw (fun x hx => sc x (by omega) (by omega)) (fun k hk => s121 k (by omega) (by omega) (by omega) (by omega) (by omega) (by omega))
    obtain ⟨t9, m1, m2⟩ := con_d (r := 127) hmw5 (Or.inl rfl) (by rw [sc 127 (by decide) (by decide)]; exact hmr)
    have m23 : t9 121 23 = τ 121 23 := by rw [m2 121 (by decide) (by decide) (by decide)]; exact s121 23 (by decide) (by decide) (by decide) (by decide) (by decide) (by decide)
    obtain ⟨t22, n1, n2, n3⟩ := law_39 (l2 := xpr (τ 121 23) (τ 131) σ (σ 17 0) (σ 17 5)) (l3 := t9 121 23) (m := τ 121 23) (s0 := t9) (k := fun (l4_21 : Int) (s22 : xW) =>
      xbp (F_X11_laysCode 132 (s22 121 24) s22) fun s24 =>
      xbd (F_X11_clashesOn 127 s24) fun r26 s27 =>
      xls (xu s27 121 1 0) fun s28 =>
      xbp (F_X11_enters (xw r26) s28) fun s31 =>
      xbp (F_X11_enters (xw (xpr (τ 121 23) (τ 131) σ (σ 17 0) (σ 17 5))) s31) fun s33 =>
      F_X11_law_111 (xpr (τ 121 23) (τ 131) σ (σ 17 0) (σ 17 5)) (t9 121 23) r26 xN 0 s33 fun (l5_47 : Int) (s48 : xW) =>
      xbp (F_X11_laysCode 150 (t9 121 23) s48) fun s50 =>
      some ((r26 - xpr (τ 121 23) (τ 131) σ (σ 17 0) (σ 17 5)), s50)) hmo m23 (τ 121 23).toNat 0 xN t9 (by omega) (by omega) (fun _ _ => rfl) (fun x x1 x2 => by omega)
    have e24 : t22 121 24 = t5 121 24 := by rw [n2 121 (by decide), m2 121 (by decide) (by decide) (by decide)]
    obtain ⟨t24, o1, o2, o3, o4, o5⟩ := laysCode_m (c := 132) (m := t5 121 24) (t := t22) (Or.inl rfl) g3
    have o5' : ∀ x : Int, 0 ≤ x → x < t5 121 24 → t24 131 x = t5 132 x := fun x x1 x2 => by rw [o5 x x1 x2, n2 132 (by decide), m2 132 (by decide) (by decide) (by decide)]
    have hxn : XRC (s4 a 1) (s4 (a + 1)) (t5 121 24) (t24 131) := XRC_c g4 o5'
    have w24 : ∀ x, x ≠ 121 → x ≠ 131 → x ≠ 132 → x ≠ 133 → x ≠ 134 → x ≠ 135 → x ≠ 150 → t24 x = τ x := fun x x1 x2 x3 x4 x5 x6 x7 => by rw [o2 x x2 x1, n2 x x7, m2 x x4 x5 x6]; exact sc x x1 x3
    have v24 : ∀ k, k ≠ 23 → t24 121 k = t5 121 k := fun k k1 => by rw [o3 k k1, n2 121 (by decide), m2 121 (by decide) (by decide) (by decide)]
    have hmw24 : Xmw (t5 121 24) (t24 131) σ t24 := by
      obtain ⟨⟨x1, x2, x3, x4, x5⟩, y1, y2, y3, y4, y5, y6⟩ := id hmw5
      refine ⟨⟨⟨_, _, hxn⟩, o4, rfl, ?_, ?_⟩, y1, y2, ?_, ?_, ?_, y6⟩
      · rw [v24 6 (by decide), o2 123 (by decide) (by decide), n2 123 (by decide), m2 123 (by decide) (by decide) (by decide)]; exact x4
      · rw [v24 7 (by decide), o2 124 (by decide) (by decide), n2 124 (by decide), m2 124 (by decide) (by decide) (by decide)]; exact x5
      · rw [v24 3 (by decide)]; exact y3
      · rw [v24 4 (by decide)]; exact y4
      · rw [o2 125 (by decide) (by decide), n2 125 (by decide), m2 125 (by decide) (by decide) (by decide), o2 126 (by decide) (by decide), n2 126 (by decide), m2 126 (by decide) (by decide) (by decide)]
        exact y5
    have e127 : t24 127 = τ 127 := w24 127 (by decide) (by decide) (by decide) (by decide) (by decide) (by decide) (by decide)
    obtain ⟨t27, m3, m4⟩ := con_d (r := 127) hmw24 (Or.inl rfl) (by rw [e127]; exact hmr)
    -- the class, by the new rule
    have hxn10 : XRC (s10 a 1) (s10 (a + 1)) (t5 121 24) (t24 131) := by
      rw [q1 a (by omega) (by omega) (by omega) (by omega) (by omega), q1 (a + 1) (by omega) (by omega) (by omega) (by omega) (by omega), hs6, xu_row _ _ _ (show a ≠ 1 by omega), xu_row _ _ _ (show a + 1 ≠ 1 by omega)]
      exact hxn
    have hcw10 : Xcw (t5 121 24) (t24 131) a s10 := Xcw_t hcw (by omega) hxn10 (fun x hx => e10 x (by omega) (by omega) (by omega) (by omega) (by omega) (by omega) (by omega) (by omega) (by omega))
    have d17 : s10 17 = σ 17 := e10 17 (by omega) (by omega) (by omega) (by omega) (by omega) (by omega) (by omega) (by omega) (by omega)
    have d0 : s10 0 = σ 0 := e10 0 (by omega) (by omega) (by omega) (by omega) (by omega) (by omega) (by omega) (by omega) (by omega)
    obtain ⟨s13, p3, p4⟩ := planFor_d (gun := σ 17 0) (day := σ 17 5) hcw10 hgun (by omega)
    have p5 := pairs_d (by omega) (by rw [e10 92 (by omega) (by omega) (by omega) (by omega) (by omega) (by omega) (by omega) (by omega) (by omega)]; exact hnd) p4
    rw [xpr_same hsame10] at p5
    rw [xpr_same hsame6] at p1
    obtain ⟨z1, z2, z3, z4, z5⟩ := id p4
    have x1 := xpr_r (τ 121 23) (τ 131) σ (σ 17 0) (σ 17 5) hnd
    have x2 := xpr_r (t5 121 24) (t24 131) σ (σ 17 0) (σ 17 5) hnd
    obtain ⟨vO, hvO⟩ : ∃ vO, vO = xpr (τ 121 23) (τ 131) σ (σ 17 0) (σ 17 5) := ⟨_, rfl⟩
    obtain ⟨vN, hvN⟩ : ∃ vN, vN = xpr (t5 121 24) (t24 131) σ (σ 17 0) (σ 17 5) := ⟨_, rfl⟩
    rw [← hvO] at p1 x1 m1 n1
    rw [← hvN] at p5 x2 m3
    obtain ⟨b, hbd⟩ : ∃ b : Int → Int, ∀ x, b x = xhm (t5 121 24) (t24 131) (xday (σ 5 1) (σ 6) (σ 17 5)) (xday (σ 7 1) (σ 8) (σ 17 5)) (σ 17 5) (σ 17 0) (σ 18 x) := ⟨_, fun _ => rfl⟩
    have hbr : ∀ x : Int, 0 ≤ b x ∧ b x ≤ 108 := fun x => by rw [hbd]; exact xhm_r (xday_r h3.2 _)
    have h91 : ∀ x : Int, 0 ≤ x → x < σ 0 14 → s13 91 x = b x := fun x y1 y2 => by
      rw [z3 x y1 (by rw [d0]; exact y2), hbd]
      rw [e10 5 (by omega) (by omega) (by omega) (by omega) (by omega) (by omega) (by omega) (by omega) (by omega), e10 6 (by omega) (by omega) (by omega) (by omega) (by omega) (by omega) (by omega) (by omega) (by omega), e10 7 (by omega) (by omega) (by omega) (by omega) (by omega) (by omega) (by omega) (by omega) (by omega), e10 8 (by omega) (by omega) (by omega) (by omega) (by omega) (by omega) (by omega) (by omega) (by omega), e10 18 (by omega) (by omega) (by omega) (by omega) (by omega) (by omega) (by omega) (by omega) (by omega)]
    have k13 : s13 0 = σ 0 := by rw [z1 0 (by omega) (by omega) (by omega) (by omega) (by omega)]; exact d0
    have ext : ∀ x, x ≠ 3 → x ≠ 4 → xt2 s13 vN vO x = s13 x := fun x y1 y2 => xt2_o y1 y2
    obtain ⟨s', w1, w2, w3, w4, w5, w6⟩ := law_86 (l2 := vO) (l3 := vN) (n := σ 0 14) (s0 := xt2 s13 vN vO) (r0 := vN) (r1 := vO) (k := fun (l4_28 : Int) (s29 : xW) => some ((vN - vO), s29)) hnh (by rw [ext 0 (by decide) (by decide), k13]) (fun x y1 y2 => by rw [ext 91 (by decide) (by decide), h91 x y1 y2]; have := hbr x; omega) (σ 0 14).toNat 0 xN (xt2 s13 vN vO) (by omega) (by omega) (fun _ _ _ => rfl) rfl (by simp [xt2, xt1, xu]) (by simp [xt2, xt1, xu]) (fun x y1 y2 => by omega)
    have eC : F_X10_law σ = some (vN - vO, s') := by
      unfold F_X10_law F_X8_clear
      rw [← had, xgd_t hR5, g1]
      simp only [xbp_s, xbd_s, xls, xli, xlt, xjn]
      rw [← hs6, if_neg (show ¬ xw (-1) ≠ -1 by decide), c17, p1]
      simp only [xbp_s, xbd_s, xls, xli, xlt, xjn]
      rw [d0, d17, ← had, xgd_t hR5, p3]
      simp only [xbp_s, xbd_s, xls, xli, xlt, xjn]
      rw [p5]
      simp only [xbp_s, xbd_s, xls, xli, xlt, xjn]
      rw [xw_sm (x := vN) (by omega) (by omega), xw_sm (x := vO) (by omega) (by omega), tell_2]
      simp only [xbp_s, xbd_s, xls, xli, xlt, xjn]
      exact w1
    have e3 : t27 121 3 = σ 0 14 := by rw [m4 121 (by decide) (by decide) (by decide), v24 3 (by decide), s121 3 (by decide) (by decide) (by decide) (by decide) (by decide) (by decide)]; exact h5.2.1
    obtain ⟨t48, y1, y2, y3, y4, y5, y6, y7⟩ := law_111 (l2 := vO) (l3 := t9 121 23) (l4 := vN) (n := σ 0 14) (s0 := xe2 t27 vN vO) (b := b) (r0 := vN) (r1 := vO) (k := fun (l5_47 : Int) (s48 : xW) => xbp (F_X11_laysCode 150 (t9 121 23) s48) fun s50 => some ((vN - vO), s50)) hnh (by rw [xe2_k (by decide)]; exact e3) hbr (fun t ht hk e j1 j2 => by
      have eo : ∀ x, x ≠ 121 → x ≠ 122 → x ≠ 133 → x ≠ 134 → x ≠ 135 → t x = t24 x := fun x i1 i2 i3 i4 i5 => by rw [ht x i1 i2 i3 i4, xe2_o i1 i2, m4 x i3 i4 i5]
      have ek : ∀ k, k ≠ 1 → t 121 k = t24 121 k := fun k i1 => by rw [hk k i1, xe2_k i1, m4 121 (by decide) (by decide) (by decide)]
      have hmwt : Xmw (t5 121 24) (t24 131) σ t := Xmw_c hmw24 (fun x hx => eo x (by omega) (by omega) (by omega) (by omega) (by omega)) (fun k hk => ek k (by omega))
      have et : t 127 = τ 127 := by rw [eo 127 (by decide) (by decide) (by decide) (by decide) (by decide)]; exact e127
      obtain ⟨s', i1, i2⟩ := hears_m (r := 127) (h := e) hmwt.1 (Or.inl rfl) (by rw [et]; exact hmr.1) hnh.2 ⟨j1, j2⟩
      refine ⟨s', ?_, i2⟩
      rw [i1, et, hmr.2.1, hmr.2.2.1, hmr.2.2.2.1 e j1 j2, hbd]) (σ 0 14).toNat 0 xN (xe2 t27 vN vO) (by omega) (by omega) (fun _ _ _ _ _ => rfl) (fun _ _ => rfl) rfl (by simp [xe2, xe1, xu]) (by simp [xe2, xe1, xu]) (fun x i1 i2 => by omega)
    obtain ⟨t50, i1, i2, i3, i4, i5⟩ := laysCode_m (c := 150) (m := τ 121 23) (t := t48) (Or.inr rfl) hmo
    have eM : F_X11_law τ = some (vN - vO, t50) := by
      unfold F_X11_law
      simp only [xls, xlt]
      rw [g2]
      simp only [xbp_s, xbd_s, xls, xli, xlt, xjn]
      rw [if_neg (show ¬ xw 0 < 0 by decide), m1]
      simp only [xbp_s, xbd_s, xls, xli, xlt, xjn]
      refine Eq.trans n1 ?_
      rw [e24, o1]
      simp only [xbp_s, xbd_s, xls, xli, xlt, xjn]
      rw [m3]
      simp only [xbp_s, xbd_s, xls, xli, xlt, xjn]
      rw [xw_sm (x := vN) (by omega) (by omega), ent_1]
      simp only [xbp_s, xbd_s, xls, xli, xlt, xjn]
      rw [xw_sm (x := vO) (by omega) (by omega), ent_2]
      simp only [xbp_s, xbd_s, xls, xli, xlt, xjn]
      refine Eq.trans y1 ?_
      rw [m23, i1]
      rfl
    refine ⟨_, _, _, eC, eM, ?_⟩
    have hfC : xfm [(1, -1), (3, -1), (4, -1), (9, -1), (10, -1), (11, -1), (12, -1), (13, -1), (14, -1), (15, -1), (16, -1), (90, -1), (91, -1), (95, -1), (96, -1)] σ s' := fun x k j1 j2 => by
      have q : x ≠ 1 ∧ x ≠ 3 ∧ x ≠ 4 ∧ x ≠ 9 ∧ x ≠ 10 ∧ x ≠ 11 ∧ x ≠ 12 ∧ x ≠ 13 ∧ x ≠ 14 ∧ x ≠ 15 ∧ x ≠ 16 ∧ x ≠ 90 ∧ x ≠ 91 ∧ x ≠ 95 ∧ x ≠ 96 := by
        simp only [List.mem_cons, Prod.mk.injEq, and_true, List.not_mem_nil, or_false, not_or] at j2
        exact j2
      rw [w2 x q.2.1 q.2.2.1, ext x q.2.1 q.2.2.1, z1 x (by omega) (by omega) (by omega) (by omega) (by omega), e10 x (by omega) (by omega) (by omega) (by omega) (by omega) (by omega) (by omega) (by omega) (by omega)]
    have hfM : xfm [(121, 1), (121, 15), (121, 16), (121, 17), (121, 18), (121, 23), (121, 24), (122, -1), (131, -1), (132, -1), (133, -1), (134, -1), (135, -1), (150, -1)] (xu τ 121 0 0) t50 := fun x k j1 j2 => by
      have q2 : x ≠ 122 ∧ x ≠ 131 ∧ x ≠ 132 ∧ x ≠ 133 ∧ x ≠ 134 ∧ x ≠ 135 ∧ x ≠ 150 := ⟨fun w => j2 (by rw [w]; decide), fun w => j2 (by rw [w]; decide), fun w => j2 (by rw [w]; decide), fun w => j2 (by rw [w]; decide), fun w => j2 (by rw [w]; decide), fun w => j2 (by rw [w]; decide), fun w => j2 (by rw [w]; decide)⟩
      by_cases q : x = 121
      · subst q
        have q1 : k ≠ 1 ∧ k ≠ 15 ∧ k ≠ 16 ∧ k ≠ 17 ∧ k ≠ 18 ∧ k ≠ 23 ∧ k ≠ 24 := ⟨fun w => j1 (by rw [w]; decide), fun w => j1 (by rw [w]; decide), fun w => j1 (by rw [w]; decide), fun w => j1 (by rw [w]; decide), fun w => j1 (by rw [w]; decide), fun w => j1 (by rw [w]; decide), fun w => j1 (by rw [w]; decide)⟩
        rw [i3 k q1.2.2.2.2.2.1, y3 k q1.1, xe2_k q1.1, m4 121 (by decide) (by decide) (by decide), v24 k q1.2.2.2.2.2.1]
        by_cases z : k = 0
        · subst z
          rw [f3 121 0 (by decide) (by decide)]
        · rw [s121 k z q1.2.1 q1.2.2.1 q1.2.2.2.1 q1.2.2.2.2.1 q1.2.2.2.2.2.2, xu_slot _ _ _ z]
      · rw [i2 x q2.2.1 q, y2 x q q2.1 q2.2.2.2.1 q2.2.2.2.2.1, xe2_o q q2.1, m4 x q2.2.2.2.1 q2.2.2.2.2.1 q2.2.2.2.2.2.1, w24 x q q2.2.1 q2.2.2.1 q2.2.2.2.1 q2.2.2.2.2.1 q2.2.2.2.2.2.1 q2.2.2.2.2.2.2, xu_row _ _ _ q]
    have hXt := XR_thr hR
    obtain ⟨h1, h2, h3, h4, h5, h6, h7, h8, h9, h10⟩ := hXt
    have e1' : s' 1 1 = 0 := by rw [w2 1 (by decide) (by decide), ext 1 (by decide) (by decide), z1 1 (by omega) (by omega) (by omega) (by omega) (by omega), q1 1 (by omega) (by omega) (by omega) (by omega) (by omega), hs6, xu_same]
    have e15 : t50 121 15 = 0 := by rw [i3 15 (by decide), y3 15 (by decide), xe2_k (by decide), m4 121 (by decide) (by decide) (by decide), v24 15 (by decide)]; exact f2
    have t131 : ∀ x : Int, 0 ≤ x → x < τ 121 23 → t50 131 x = τ 131 x := fun x j1 j2 => by
      rw [i5 x j1 j2, y2 150 (by decide) (by decide) (by decide) (by decide), xe2_o (by decide) (by decide), m4 150 (by decide) (by decide) (by decide), o2 150 (by decide) (by decide), n3 x j1 j2, m2 131 (by decide) (by decide) (by decide), sc 131 (by decide) (by decide)]
    refine XR_mono (show _ ≤ B + 300 by omega) ⟨?_, ?_, Xsky_cW hfC (by decide +kernel) (Xsky_mW hfM (by decide +kernel) h3), ?_, Xplan_cW hfC (by decide +kernel) (Xplan_mW hfM (by decide +kernel) h5), Xtown_cW hfC (by decide +kernel) (Xtown_mW hfM (by decide +kernel) h6), Xpast_cW hfC (by decide +kernel) (Xpast_mW hfM (by decide +kernel) h7), Xkept_cW hfC (by decide +kernel) (Xkept_mW hfM (by decide +kernel) h8), Xrep_cW hfC (by decide +kernel) (Xrep_mW hfM (by decide +kernel) h9), Xforts_cW hfC (by decide +kernel) h10⟩
    · refine ⟨by omega, fun i => ?_, by rw [e15, e1'], fun i x y => by omega⟩
      rw [show s' 2 = σ 2 from xfm_cell hfC (by decide)]
      exact h1.2.1 i
    · refine ⟨by omega, ?_, fun i j1 j2 => ?_⟩
      · rw [i3 1 (by decide), y4, w3]
      · rw [w3] at j2
        rw [i2 122 (by decide) (by decide)]
        by_cases z : i = 0
        · rw [z, y5, w4]
        · by_cases z' : i = 1
          · rw [z', y6, w5]
          · have q := y7 (i - 2) (by omega) (by omega)
            have q' := w6 (i - 2) (by omega) (by omega)
            rw [show 2 + (i - 2) = i by omega] at q q'
            rw [q, q', ext 91 (by decide) (by decide), h91 (i - 2) (by omega) (by omega)]
    · have k0 : s' 0 = σ 0 := xfm_cell hfC (by decide)
      have ka : ∀ x, x = r0 ∨ x = r0 + 1 → s' x = σ x := fun x hx => by
        rw [w2 x (by omega) (by omega), ext x (by omega) (by omega), z1 x (by omega) (by omega) (by omega) (by omega) (by omega), e10 x (by omega) (by omega) (by omega) (by omega) (by omega) (by omega) (by omega) (by omega) (by omega)]
      refine ⟨by rw [k0]; exact h4.1, ?_⟩
      rw [k0, ← hrd, ka r0 (Or.inl rfl), ka (r0 + 1) (Or.inr rfl), i4]
      exact XRC_c hact t131
