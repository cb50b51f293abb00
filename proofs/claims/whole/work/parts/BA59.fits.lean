/-! fits -/
theorem weath_d {B : Int} {σ τ : xW} (hB1 : B ≤ 1000000) (h : XR B σ τ) : ∃ (G : Int → Int → Int) (P : Int → Bool) (s : xW), (∀ q x : Int, 0 ≤ q → q < 100 → 0 ≤ G q x ∧ G q x ≤ 108) ∧ (∀ (q x : Int) (s : xW), 0 ≤ q → q < 100 → 0 ≤ x → x < σ 0 14 → Xsc σ s → ∃ s', F_X10_minuteBy q x s = some (G q x, s') ∧ ∀ c, c ≠ 90 → c ≠ σ 0 4 + 2 → s' c = s c) ∧ (∀ (q x : Int) (t : xW), 0 ≤ q → q < 100 → 0 ≤ x → x < σ 0 14 → Xsm τ t → ∃ t', F_X11_hearsBy 127 x 0 (q / 10) (q % 10) t = some (G q x, t') ∧ ∀ c, c ≠ 133 → c ≠ 134 → t' c = t c) ∧ (∀ (q : Int) (t : xW), 0 ≤ q → q < 100 → Xsm τ t → ∃ t', F_X11_isSo q t = some (b01 (P q), t') ∧ ∀ c, c ≠ 133 → c ≠ 134 → t' c = t c) ∧ F_X10_findWeathers σ = some (xcnf P 100, s) ∧ Xsc σ s ∧ s 100 4 = xcnf P 100 ∧ Xwe P (s 103) 100 := by
  have hN := xN_ge
  have hcw := XR_cw h
  obtain ⟨h1, h2, h3, h4, h5, h6, h7, h8, h9, h10⟩ := id h
  have hr := hcw.1
  obtain ⟨G, hGd⟩ : ∃ G : Int → Int → Int, ∀ q x, G q x = xgq (τ 121 23) (τ 131) (σ 17 5) (σ 17 0) (σ 18) q x := ⟨_, fun _ _ => rfl⟩
  have hG : ∀ q x : Int, 0 ≤ q → q < 100 → 0 ≤ G q x ∧ G q x ≤ 108 := fun q x q1 q2 => by rw [hGd]; exact xgq_r ⟨q1, q2⟩
  have hMc : ∀ (q x : Int) (s : xW), 0 ≤ q → q < 100 → 0 ≤ x → x < σ 0 14 → Xsc σ s → ∃ s', F_X10_minuteBy q x s = some (G q x, s') ∧ ∀ c, c ≠ 90 → c ≠ σ 0 4 + 2 → s' c = s c := fun q x s q1 q2 x1 x2 hs => by
    rw [hGd]
    exact minuteBy_c hB1 h ⟨q1, q2⟩ ⟨x1, x2⟩ hs
  have hMm : ∀ (q x : Int) (t : xW), 0 ≤ q → q < 100 → 0 ≤ x → x < σ 0 14 → Xsm τ t → ∃ t', F_X11_hearsBy 127 x 0 (q / 10) (q % 10) t = some (G q x, t') ∧ ∀ c, c ≠ 133 → c ≠ 134 → t' c = t c := fun q x s q1 q2 x1 x2 hs => by
    rw [hGd]
    exact hby_m hB1 h ⟨q1, q2⟩ ⟨x1, x2⟩ hs
  obtain ⟨s, g1, g2, g3, g4, g5⟩ := weath_loop (r := σ 0 4) (P := fun q => xfit G (σ 101) (σ 102) q (σ 100 2).toNat) (σ := σ) (k := fun (l1_20 : Int) (l2_21 : Int) (s22 : xW) => xls (xu s22 100 4 l1_20) fun s23 => some (l1_20, s23)) hr rfl (fun q s q1 q2 hs h100 => fitC hr rfl h9.1 ⟨q1, q2⟩ hG (fun i i1 i2 => ⟨(h9.2.2 i i1 i2).1, (h9.2.2 i i1 i2).2.1⟩) hMc hs h100) 100 0 xN σ (by omega) (by omega) (fun _ _ _ _ _ _ => rfl) rfl rfl (fun q q1 q2 => by omega)
  refine ⟨G, fun q => xfit G (σ 101) (σ 102) q (σ 100 2).toNat, xu s 100 4 (xcnf (fun q => xfit G (σ 101) (σ 102) q (σ 100 2).toNat) 100), hG, hMc, hMm, fun q t q1 q2 ht => fitM h9 ⟨q1, q2⟩ hG hMm ht, ?_, fun c c1 c2 c3 c4 c5 => by rw [xu_row _ _ _ c3]; exact g2 c c1 c2 c3 c4 c5, xu_same _ _ _ _, by rw [xu_row _ _ _ (show (103 : Int) ≠ 100 by decide)]; exact g5⟩
  unfold F_X10_findWeathers
  exact g1
theorem fits_14 {P : Int → Bool} {τ : xW} {k : Int → Int → xW → Option (Int × xW)} (hf : ∀ (q : Int) (t : xW), 0 ≤ q → q < 100 → Xsm τ t → ∃ t', F_X11_isSo q t = some (b01 (P q), t') ∧ ∀ c, c ≠ 133 → c ≠ 134 → t' c = t c) :
    ∀ (j i fu : Nat) (t : xW), i + j = 100 → j < fu → Xsm τ t → ((xcnf P i = 0 ∧ t 121 1 = 0) ∨ (0 < xcnf P i ∧ ∃ q : Nat, q < i ∧ P q = true ∧ xcnf P q = 0 ∧ t 121 1 = 2 ∧ t 122 0 = (q : Int) / 10 ∧ t 122 1 = (q : Int) % 10)) → ∃ t', F_X11_fits_14 fu (xcnf P i) (i : Int) t k = k (xcnf P 100) 100 t' ∧ ((xcnf P 100 = 0 ∧ t' 121 1 = 0) ∨ (0 < xcnf P 100 ∧ ∃ q : Nat, q < 100 ∧ P q = true ∧ xcnf P q = 0 ∧ t' 121 1 = 2 ∧ t' 122 0 = (q : Int) / 10 ∧ t' 122 1 = (q : Int) % 10)) := by
  intro j
  induction j with
  | zero =>
    intro i fu t hi hfu ht hv
    obtain ⟨fu, rfl⟩ : ∃ g, fu = g + 1 := ⟨fu - 1, by omega⟩
    have ei : i = 100 := by omega
    rw [ei] at hv ⊢
    refine ⟨t, ?_, hv⟩
    rw [F_X11_fits_14, if_neg (by decide)]
    rfl
  | succ j ih =>
    intro i fu t hi hfu ht hv
    obtain ⟨fu, rfl⟩ : ∃ g, fu = g + 1 := ⟨fu - 1, by omega⟩
    obtain ⟨t1, u1, u2⟩ := hf i t (by omega) (by omega) ht
    have hc := xcnf_r P i
    have ht1 : Xsm τ t1 := ⟨fun c c1 c2 c3 c4 c5 => by rw [u2 c c3 c4]; exact ht.1 c c1 c2 c3 c4 c5, fun kk k1 k2 => by rw [u2 121 (by decide) (by decide)]; exact ht.2 kk k1 k2⟩
    have e121 : t1 121 = t 121 := u2 121 (by decide) (by decide)
    have e122 : t1 122 = t 122 := u2 122 (by decide) (by decide)
    have ef : ∀ (v : Bool) (s : xW), F_X11_flag (b01 v) s = some (b01 v) := fun v s => by cases v <;> rfl
    have hcs := xcnf_s P i
    rw [F_X11_fits_14, xw_sm (x := (i : Int)) (by omega) (by omega), if_pos (by omega), u1]
    simp only [xbd_n, xjn]
    rw [xw_b01]
    cases z : P (i : Int) with
    | false =>
      rw [z] at hcs
      have hcs2 : xcnf P (i + 1) = xcnf P i := by rw [hcs]; exact Int.add_zero _
      rw [if_neg (show ¬ b01 false ≠ 0 by decide), ef]
      simp only [xbp_n]
      obtain ⟨t', g1, g2⟩ := ih (i + 1) fu t1 (by omega) (by omega) ht1 (by
        rw [hcs2, e121, e122]
        rcases hv with w | ⟨w1, q, w2, w3⟩
        · exact Or.inl w
        · exact Or.inr ⟨w1, q, by omega, w3⟩)
      refine ⟨t', ?_, g2⟩
      rw [hcs] at g1
      rw [show ((i : Int) + 1) = ((i + 1 : Nat) : Int) by omega]
      exact g1
    | true =>
      rw [z] at hcs
      have hcs2 : xcnf P (i + 1) = xcnf P i + 1 := hcs
      rw [if_pos (show b01 true ≠ 0 by decide), xw_sm (x := xcnf P i) (by omega) (by omega)]
      rcases hv with ⟨w1, w2⟩ | ⟨w1, q, w2, w3⟩
      · rw [if_pos w1, Int.tdiv_eq_ediv_of_nonneg (show (0 : Int) ≤ (i : Int) by omega), Int.tmod_eq_emod_of_nonneg (show (0 : Int) ≤ (i : Int) by omega), xw_sm (x := (i : Int) / 10) (by omega) (by omega), xw_sm (x := (i : Int) % 10) (by omega) (by omega)]
        have h0 : t1 121 1 = 0 := by rw [e121]; exact w2
        have en1 : F_X11_enters ((i : Int) / 10) t1 = some (xu (xu t1 122 0 ((i : Int) / 10)) 121 1 1) := by
          rw [enters_m (by omega), h0]
          rfl
        have en2 : F_X11_enters ((i : Int) % 10) (xu (xu t1 122 0 ((i : Int) / 10)) 121 1 1) = some (xu (xu (xu (xu t1 122 0 ((i : Int) / 10)) 121 1 1) 122 1 ((i : Int) % 10)) 121 1 2) := by
          rw [enters_m (by rw [xu_same]; decide), xu_same]
          rfl
        rw [en1]
        simp only [xbp_n]
        rw [en2]
        simp only [xbp_n]
        rw [ef]
        simp only [xbp_n]
        obtain ⟨t', g1, g2⟩ := ih (i + 1) fu (xu (xu (xu (xu t1 122 0 ((i : Int) / 10)) 121 1 1) 122 1 ((i : Int) % 10)) 121 1 2) (by omega) (by omega) ⟨fun c c1 c2 c3 c4 c5 => by rw [xu_row _ _ _ c1, xu_row _ _ _ c2, xu_row _ _ _ c1, xu_row _ _ _ c2]; exact ht1.1 c c1 c2 c3 c4 c5, fun kk k1 k2 => by rw [xu_slot _ _ _ k2, xu_row _ _ _ (show (121 : Int) ≠ 122 by decide), xu_slot _ _ _ k2, xu_row _ _ _ (show (121 : Int) ≠ 122 by decide)]; exact ht1.2 kk k1 k2⟩ (Or.inr ⟨by omega, i, by omega, z, w1, xu_same _ _ _ _, by simp [xu], by simp [xu]⟩)
        refine ⟨t', ?_, g2⟩
        rw [hcs2] at g1
        rw [show ((i : Int) + 1) = ((i + 1 : Nat) : Int) by omega]
        exact g1
      · rw [if_neg (show ¬ xcnf P i = 0 by omega), ef]
        simp only [xbp_n]
        obtain ⟨t', g1, g2⟩ := ih (i + 1) fu t1 (by omega) (by omega) ht1 (Or.inr ⟨by omega, q, by omega, by rw [e121, e122]; exact w3⟩)
        refine ⟨t', ?_, g2⟩
        rw [hcs2] at g1
        rw [show ((i : Int) + 1) = ((i + 1 : Nat) : Int) by omega]
        exact g1
theorem op_fits : XO F_X10_fits F_X11_fits := by
  intro B σ τ hB hB1 h
  have hN := xN_ge
  obtain ⟨G, P, s, hG, hMc, hMm, hS, f1, f2, f3, f4⟩ := weath_d hB1 h
  have hr := (XR_cw h).1
  have hc := xcnf_r P 100
  obtain ⟨t, g1, g2⟩ := fits_14 (k := fun (l1_27 : Int) (l2_28 : Int) (s29 : xW) => some (l1_27, s29)) hS 100 0 xN (xu (xu τ 121 0 0) 121 1 0) (by omega) (by omega) ⟨fun c c1 _ _ _ _ => by rw [xu_row _ _ _ c1, xu_row _ _ _ c1], fun k k1 k2 => by rw [xu_slot _ _ _ k2, xu_slot _ _ _ k1]⟩ (Or.inl ⟨rfl, xu_same _ _ _ _⟩)
  have eM : F_X11_fits τ = some (xcnf P 100, t) := by
    unfold F_X11_fits
    simp only [xls, xlt]
    exact g1
  rcases g2 with ⟨w1, w2⟩ | ⟨w1, q, w2, w3, w4, w5, w6, w7⟩
  · have eC : F_X10_fits σ = some (xcnf P 100, xu s 3 1 0) := by
      unfold F_X10_fits F_X6_clear
      rw [f1]
      simp only [xbp_s, xbd_s, xls, xli, xlt, xjn]
      rw [xw_sm (x := xcnf P 100) (by omega) (by omega), if_neg (by omega)]
    exact ⟨_, _, _, eC, eM, XR_W (fr_X10_fits eC) (by decide +kernel) (fr_X11_fits eM) (by decide +kernel) h (Xrow_n (n := 0) (A := fun _ => 0) (by decide) (xu_same _ _ _ _) (fun x x1 x2 => by omega) w2 (fun x x1 x2 => by omega))⟩
  · have e103 : (xu s 3 1 0) 103 0 = q := by
      rw [xu_row _ _ _ (show (103 : Int) ≠ 3 by decide), ← w4]
      exact f4 q w2 w3
    have eC : F_X10_fits σ = some (xcnf P 100, xt2 (xu s 3 1 0) ((q : Int) / 10) ((q : Int) % 10)) := by
      unfold F_X10_fits F_X6_clear
      rw [f1]
      simp only [xbp_s, xbd_s, xls, xli, xlt, xjn]
      rw [xw_sm (x := xcnf P 100) (by omega) (by omega), if_pos w1, e103, xw_sm (x := (q : Int)) (by omega) (by omega), Int.tdiv_eq_ediv_of_nonneg (show (0 : Int) ≤ (q : Int) by omega), Int.tmod_eq_emod_of_nonneg (show (0 : Int) ≤ (q : Int) by omega), xw_sm (x := (q : Int) / 10) (by omega) (by omega), xw_sm (x := (q : Int) % 10) (by omega) (by omega), tell_2]
      rfl
    exact ⟨_, _, _, eC, eM, XR_W (fr_X10_fits eC) (by decide +kernel) (fr_X11_fits eM) (by decide +kernel) h (Xrow_2 (a := (q : Int) / 10) (b := (q : Int) % 10) rfl ⟨by simp [xt2, xt1, xu], by simp [xt2, xt1, xu]⟩ w5 ⟨w6, w7⟩)⟩
