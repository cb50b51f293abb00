theorem note_c {σ : xW} (h : 0 ≤ σ 21 1 ∧ σ 21 1 < 16) : F_X3_note σ = some (xtc σ (23 + 4 * σ 21 1) 17) := by
  unfold F_X3_note
  rw [xgd_t h, xgd_t (towns_past h), copy_c (towns_past h) towns_17 (by omega)]
  rfl
theorem takeBack_c {σ : xW} (h : 0 ≤ σ 21 1 ∧ σ 21 1 < 16) : F_X3_takeBack σ = some (xtc σ 17 (23 + 4 * σ 21 1)) := by
  unfold F_X3_takeBack
  rw [xgd_t h, xgd_t (towns_past h), copy_c towns_17 (towns_past h) (by omega)]
  rfl
theorem padd_c {σ : xW} (h : 0 ≤ σ 21 1 ∧ σ 21 1 < 16) (h2 : 0 ≤ σ 21 2 ∧ σ 21 2 ≤ 15) : F_X3_add σ = some (xu (xu σ 21 1 ((σ 21 1 + 1) % 16)) 21 2 (min 15 (σ 21 2 + 1))) := by
  unfold F_X3_add
  simp only [xbp_s, xbd_s, xls, xli, xlt, xjn]
  rw [xu_slot _ _ _ (by decide), xw_sm (by omega) (by omega), xw_sm (by omega) (by omega), Int.tmod_eq_emod_of_nonneg (by omega)]
theorem putsBy_loop {s0 : xW} {u : Int} {k : Int → xW → Option xW} (e0 : s0 121 28 = u) (hu : 0 ≤ u ∧ u ≤ 15) :
    ∀ (j i : Nat) (arr : Int → Int) (f : Nat), i + j = 40 → j < f → (∀ x : Int, 0 ≤ x → x < i → arr (40 * u + x) = s0 127 x) → (∀ y : Int, y < 40 * u ∨ 40 * u + 40 ≤ y → arr y = s0 136 y) → ∃ arr', (∀ x : Int, 0 ≤ x → x < 40 → arr' (40 * u + x) = s0 127 x) ∧ (∀ y : Int, y < 40 * u ∨ 40 * u + 40 ≤ y → arr' y = s0 136 y) ∧ F_X11_putsBy_2 f i (xrow s0 136 arr) k = k 40 (xrow s0 136 arr') := by
  intro j
  induction j with
  | zero =>
    intro i arr f hi hf ha hb
    obtain ⟨f, rfl⟩ : ∃ f', f = f' + 1 := ⟨f - 1, by omega⟩
    refine ⟨arr, fun x a b => ha x a (by omega), hb, ?_⟩
    unfold F_X11_putsBy_2
    rw [xw_sm (by omega) (by omega), if_neg (by omega), show (i : Int) = 40 by omega]
  | succ j ih =>
    intro i arr f hi hf ha hb
    obtain ⟨f, rfl⟩ : ∃ f', f = f' + 1 := ⟨f - 1, by omega⟩
    unfold F_X11_putsBy_2
    simp only [xbp_s, xbd_s, xls, xli, xlt, xjn]
    rw [xw_sm (by omega) (by omega), if_pos (by omega), xrow_o (show (121 : Int) ≠ 136 by decide), e0, xgd_t (by omega), xgd_t (by omega), xrow_u, xrow_o (show (127 : Int) ≠ 136 by decide), show ((i : Int) + 1) = ((i + 1 : Nat) : Int) by omega]
    refine ih (i + 1) _ f (by omega) (by omega) (fun x a b => ?_) (fun y hy => ?_)
    · by_cases hx : x = i
      · rw [if_pos (by omega), hx]
      · rw [if_neg (by omega)]
        exact ha x a (by omega)
    · rw [if_neg (by omega)]
      exact hb y hy
theorem putsBy_m {s : xW} (hu : 0 ≤ s 121 28 ∧ s 121 28 ≤ 15) : ∃ arr, (∀ x : Int, 0 ≤ x → x < 40 → arr (40 * s 121 28 + x) = s 127 x) ∧ (∀ y : Int, y < 40 * s 121 28 ∨ 40 * s 121 28 + 40 ≤ y → arr y = s 136 y) ∧ F_X11_putsBy s = some (xrow s 136 arr) := by
  obtain ⟨arr, h1, h2, h3⟩ := putsBy_loop (s0 := s) (k := fun (l1_10 : Int) (s11 : xW) => some s11) rfl hu 40 0 (s 136) xN (by omega) (by have := xN_ge; omega) (fun x a b => by omega) (fun y _ => rfl)
  refine ⟨arr, h1, h2, ?_⟩
  unfold F_X11_putsBy
  rw [xrow_i] at h3
  exact h3
theorem adds_loop {s0 : xW} {v : Int} {k : Int → xW → Option (Int × xW)} :
    ∀ (j i : Nat) (arr : Int → Int) (f : Nat), i + j = 600 → j < f → (∀ x : Int, 0 ≤ x → x < i → arr x = s0 136 (x + 40)) → (∀ y : Int, (i : Int) ≤ y → arr y = s0 136 y) → ∃ arr', (∀ x : Int, 0 ≤ x → x < 600 → arr' x = s0 136 (x + 40)) ∧ F_X11_adds_21 v f i (xrow s0 136 arr) k = k 600 (xrow s0 136 arr') := by
  intro j
  induction j with
  | zero =>
    intro i arr f hi hf ha hb
    obtain ⟨f, rfl⟩ : ∃ f', f = f' + 1 := ⟨f - 1, by omega⟩
    refine ⟨arr, fun x a b => ha x a (by omega), ?_⟩
    unfold F_X11_adds_21
    rw [xw_sm (by omega) (by omega), if_neg (by omega), show (i : Int) = 600 by omega]
  | succ j ih =>
    intro i arr f hi hf ha hb
    obtain ⟨f, rfl⟩ : ∃ f', f = f' + 1 := ⟨f - 1, by omega⟩
    unfold F_X11_adds_21
    simp only [xbp_s, xbd_s, xls, xli, xlt, xjn]
    rw [xw_sm (by omega) (by omega), if_pos (by omega), xgd_t (by omega), xgd_t (by omega), xrow_u, xrow_s, show ((i : Int) + 1) = ((i + 1 : Nat) : Int) by omega]
    refine ih (i + 1) _ f (by omega) (by omega) (fun x a b => ?_) (fun y hy => ?_)
    · by_cases hx : x = i
      · rw [if_pos hx, hb _ (by omega), hx]
      · rw [if_neg hx]
        exact ha x a (by omega)
    · rw [if_neg (by omega)]
      exact hb y (by omega)
/-- adds(): how undone becomes -/
theorem adds_m {s : xW} {v : Int} (hu : 0 ≤ s 121 28 ∧ s 121 28 ≤ 15) : ∃ s1, F_X11_adds v s = some (v, s1) ∧ (∀ c, c ≠ 121 → c ≠ 136 → s1 c = s c) ∧ (∀ k, k ≠ 28 → s1 121 k = s 121 k) ∧ s1 121 28 = min 15 (s 121 28 + 1) ∧ ∀ x : Int, 0 ≤ x → x < 600 → s1 136 x = if s 121 28 = 15 then s 136 (x + 40) else s 136 x := by
  unfold F_X11_adds
  simp only [xbp_s, xbd_s, xls, xli, xlt, xjn]
  rw [xu_same, xw_sm (by omega) (by omega)]
  by_cases q : s 121 28 = 15
  · rw [if_pos (by omega)]
    obtain ⟨arr, h1, h2⟩ := adds_loop (s0 := xu s 121 28 (s 121 28 + 1)) (v := v) (k := fun (l2_18 : Int) (s19 : xW) => some (v, xu s19 121 28 ((s19 121 28) - 1))) 600 0 (s 136) xN (by omega) (by have := xN_ge; omega) (fun x a b => by omega) (fun y _ => by rw [xu_row _ _ _ (by decide)])
    have e : xrow (xu s 121 28 (s 121 28 + 1)) 136 (s 136) = xu s 121 28 (s 121 28 + 1) := by
      have e2 := xrow_i (xu s 121 28 (s 121 28 + 1)) 136
      rw [xu_row _ _ _ (by decide)] at e2
      exact e2
    rw [e] at h2
    refine ⟨xu (xrow (xu s 121 28 (s 121 28 + 1)) 136 arr) 121 28 ((xrow (xu s 121 28 (s 121 28 + 1)) 136 arr) 121 28 - 1), h2, fun c c1 c2 => ?_, fun k hk => ?_, ?_, fun x a b => ?_⟩
    · rw [xu_row _ _ _ c1, xrow_o c2, xu_row _ _ _ c1]
    · rw [xu_slot _ _ _ hk, xrow_o (by decide), xu_slot _ _ _ hk]
    · rw [xu_same, xrow_o (by decide), xu_same]
      omega
    · rw [xu_row _ _ _ (by decide), xrow_s, h1 x a b, xu_row _ _ _ (by decide), if_pos q]
  · rw [if_neg (by omega)]
    refine ⟨_, rfl, fun c c1 c2 => xu_row _ _ _ c1, fun k hk => xu_slot _ _ _ hk, ?_, fun x a b => ?_⟩
    · rw [xu_same]
      omega
    · rw [if_neg q, xu_row _ _ _ (by decide)]
/-- what the act that is going on will leave behind -/
def Xnote (B : Int) (σ τ : xW) : Prop := Xpast B σ τ ∧ Xti B (σ (23 + 4 * σ 21 1)) (σ (23 + 4 * σ 21 1 + 1)) (σ (23 + 4 * σ 21 1 + 2)) (σ (23 + 4 * σ 21 1 + 3)) ∧ Xtr (σ 0 14) (σ 92 0) (σ (23 + 4 * σ 21 1)) (σ (23 + 4 * σ 21 1 + 1)) (σ (23 + 4 * σ 21 1 + 2)) (σ (23 + 4 * σ 21 1 + 3)) (fun k => τ 136 (40 * σ 21 2 + k))
theorem xpt_ne {σ : xW} {j : Int} (h : 0 ≤ σ 21 1 ∧ σ 21 1 < 16) (hj : 1 ≤ j ∧ j ≤ 15) : xpt σ j + 4 ≤ 23 + 4 * σ 21 1 ∨ 23 + 4 * σ 21 1 + 4 ≤ xpt σ j := by
  unfold xpt
  omega
/-- both have noted how it is ahead of the act -/
theorem note_d {B : Int} {σ τ : xW} (h : XR B σ τ) : ∃ σ1 τ1, F_X3_note σ = some σ1 ∧ F_X11_putsBy τ = some τ1 ∧ XR B σ1 τ1 ∧ Xnote B σ1 τ1 ∧ (∀ c, c < 23 ∨ 86 < c → σ1 c = σ c) ∧ (∀ c, c ≠ 136 → τ1 c = τ c) := by
  obtain ⟨h1, h2, h3, h4, h5, h6, h7, h8, h9, h10⟩ := id h
  obtain ⟨p1, p2, p3, p4⟩ := id h7
  obtain ⟨arr, a1, a2, a3⟩ := putsBy_m (s := τ) (by rw [p3]; exact p2)
  rw [p3] at a1 a2
  have e1 : ∀ c, c < 23 ∨ 86 < c → xtc σ (23 + 4 * σ 21 1) 17 c = σ c := fun c hc => xtc_far (by omega)
  have e2 : ∀ c, c ≠ 136 → xrow τ 136 arr c = τ c := fun c hc => xrow_o hc
  have hpast : Xpast B (xtc σ (23 + 4 * σ 21 1) 17) (xrow τ 136 arr) := by
    unfold Xpast
    rw [e1 21 (by omega), e1 0 (by omega), e1 92 (by omega), e2 121 (by decide), xrow_s]
    refine ⟨p1, p2, p3, fun j j1 j2 => ?_⟩
    have ex : xpt (xtc σ (23 + 4 * σ 21 1) 17) j = xpt σ j := by unfold xpt; rw [e1 21 (by omega)]
    have hne := xpt_ne p1 (show 1 ≤ j ∧ j ≤ 15 by omega)
    rw [ex, xtc_far (by omega), xtc_far (by omega), xtc_far (by omega), xtc_far (by omega)]
    refine ⟨(p4 j j1 j2).1, Xtr_row h5.1.2 h5.2.2.1.2 (p4 j j1 j2).2 (fun k k1 k2 => a2 _ (by omega))⟩
  refine ⟨_, _, note_c p1, a3, ?_, ⟨hpast, ?_, ?_⟩, e1, e2⟩
  · refine ⟨?_, ?_, ?_, ?_, ?_, ?_, hpast, ?_, ?_, ?_⟩
    · exact Xtext_c (by rw [e1 1 (by omega)]) (e1 2 (by omega)) (Xtext_m (by rw [e2 121 (by decide)]) (e2 129 (by decide)) h1)
    · exact Xrow_c (by rw [e1 3 (by omega)]) (e1 4 (by omega)) (Xrow_m (by rw [e2 121 (by decide)]) (e2 122 (by decide)) h2)
    · exact Xsky_c (by rw [e1 5 (by omega)]) (e1 6 (by omega)) (by rw [e1 7 (by omega)]) (e1 8 (by omega)) (Xsky_m (by rw [e2 121 (by decide)]) (e2 123 (by decide)) (by rw [e2 121 (by decide)]) (e2 124 (by decide)) h3)
    · exact Xrule_c (by rw [e1 0 (by omega)]) (by rw [e1 0 (by omega)]) (fun _ => ⟨by rw [e1 9 (by omega)], e1 10 (by omega)⟩) (fun _ => ⟨by rw [e1 13 (by omega)], e1 14 (by omega)⟩) (Xrule_m (by rw [e2 121 (by decide)]) (e2 131 (by decide)) h4)
    · exact Xplan_c (by rw [e1 0 (by omega)]) (by rw [e1 92 (by omega)]) (e1 93 (by omega)) (e1 94 (by omega)) (Xplan_m (by rw [e2 121 (by decide)]) (by rw [e2 121 (by decide)]) (e2 125 (by decide)) (e2 126 (by decide)) h5)
    · exact Xtown_c (by rw [e1 0 (by omega)]) (by rw [e1 92 (by omega)]) (e1 17 (by omega)) (e1 18 (by omega)) (e1 19 (by omega)) (e1 20 (by omega)) (Xtown_m (e2 127 (by decide)) h6)
    · exact Xkept_c (e1 88 (by omega)) (fun c c1 c2 => e1 c (by omega)) (by rw [e1 0 (by omega)]) (by rw [e1 92 (by omega)]) (Xkept_m (by rw [e2 121 (by decide)]) (e2 151 (by decide)) (e2 152 (by decide)) (e2 153 (by decide)) h8)
    · exact Xrep_c (by rw [e1 100 (by omega)]) (e1 101 (by omega)) (e1 102 (by omega)) (by rw [e1 0 (by omega)]) (Xrep_m (by rw [e2 121 (by decide)]) (e2 146 (by decide)) (e2 147 (by decide)) h9)
    · exact Xforts_c (by rw [e1 105 (by omega)]) (e1 106 (by omega)) h10
  · rw [e1 21 (by omega)]
    exact Xti_tc (u := 17) h6.1
  · rw [e1 21 (by omega), e1 0 (by omega), e1 92 (by omega), xrow_s]
    exact Xtr_row h5.1.2 h5.2.2.1.2 (Xtr_tc (u := 17) h5.1.2 h5.2.2.1.2 h6.2) a1
/-- the act is done: it counts -/
theorem add_d {B v : Int} {σ τ : xW} (h : XR B σ τ) (hn : Xnote B σ τ) : ∃ σ1 τ1, F_X3_add σ = some σ1 ∧ F_X11_adds v τ = some (v, τ1) ∧ XR B σ1 τ1 := by
  obtain ⟨h1, h2, h3, h4, h5, h6, h7, h8, h9, h10⟩ := id h
  obtain ⟨⟨p1, p2, p3, p4⟩, n1, n2⟩ := hn
  obtain ⟨τ1, a1, a2, a3, a4, a5⟩ := adds_m (s := τ) (v := v) (by rw [p3]; exact p2)
  have hC := padd_c p1 p2
  have hfC := fr_X3_add hC
  have hfM := fr_X11_adds a1
  generalize hs : xu (xu σ 21 1 ((σ 21 1 + 1) % 16)) 21 2 (min 15 (σ 21 2 + 1)) = σ1 at *
  have e1 : σ1 21 1 = (σ 21 1 + 1) % 16 := by rw [← hs]; simp [xu]
  have e2 : σ1 21 2 = min 15 (σ 21 2 + 1) := by rw [← hs]; simp [xu]
  have e3 : ∀ c, c ≠ 21 → σ1 c = σ c := fun c hc => by rw [← hs, xu_row _ _ _ hc, xu_row _ _ _ hc]
  refine ⟨σ1, τ1, hC, a1, ?_⟩
  refine ⟨Xtext_cW hfC (by decide +kernel) (Xtext_mW hfM (by decide +kernel) h1), Xrow_cW hfC (by decide +kernel) (Xrow_mW hfM (by decide +kernel) h2), Xsky_cW hfC (by decide +kernel) (Xsky_mW hfM (by decide +kernel) h3), Xrule_cW hfC (by decide +kernel) (Xrule_mW hfM (by decide +kernel) h4), Xplan_cW hfC (by decide +kernel) (Xplan_mW hfM (by decide +kernel) h5), Xtown_cW hfC (by decide +kernel) (Xtown_mW hfM (by decide +kernel) h6), ?_, Xkept_cW hfC (by decide +kernel) (Xkept_mW hfM (by decide +kernel) h8), Xrep_cW hfC (by decide +kernel) (Xrep_mW hfM (by decide +kernel) h9), Xforts_cW hfC (by decide +kernel) h10⟩
  unfold Xpast
  rw [e1, e2, e3 0 (by decide), e3 92 (by decide)]
  refine ⟨by omega, by omega, by rw [a4, p3], fun j j1 j2 => ?_⟩
  have ht : ∀ c, 23 ≤ c → σ1 c = σ c := fun c hc => e3 c (by omega)
  by_cases hj : j = 1
  · have ex : xpt σ1 j = 23 + 4 * σ 21 1 := by unfold xpt; rw [e1]; omega
    rw [ex, ht _ (by omega), ht _ (by omega), ht _ (by omega), ht _ (by omega)]
    refine ⟨n1, Xtr_row h5.1.2 h5.2.2.1.2 n2 (fun k k1 k2 => ?_)⟩
    rw [a5 _ (by omega) (by omega), p3]
    by_cases q : σ 21 2 = 15
    · rw [if_pos q, show 40 * (min 15 (σ 21 2 + 1) - j) + k + 40 = 40 * σ 21 2 + k by omega]
    · rw [if_neg q, show 40 * (min 15 (σ 21 2 + 1) - j) + k = 40 * σ 21 2 + k by omega]
  · have ex : xpt σ1 j = xpt σ (j - 1) := by unfold xpt; rw [e1]; omega
    have hx := xpt_r σ (j - 1)
    rw [ex, ht _ (by omega), ht _ (by omega), ht _ (by omega), ht _ (by omega)]
    have hp := p4 (j - 1) (by omega) (by omega)
    refine ⟨hp.1, Xtr_row h5.1.2 h5.2.2.1.2 hp.2 (fun k k1 k2 => ?_)⟩
    rw [a5 _ (by omega) (by omega), p3]
    by_cases q : σ 21 2 = 15
    · rw [if_pos q, show 40 * (min 15 (σ 21 2 + 1) - j) + k + 40 = 40 * (σ 21 2 - (j - 1)) + k by omega]
    · rw [if_neg q, show 40 * (min 15 (σ 21 2 + 1) - j) + k = 40 * (σ 21 2 - (j - 1)) + k by omega]
