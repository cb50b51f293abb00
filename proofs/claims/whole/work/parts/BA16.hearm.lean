/-! the reference: who hears when -/
def xhe (m : Int) (cd : Int → Int) (w d n gun hill pl e : Int) : Int := d + xdl m cd (xth (if e ≠ 0 then xfa gun hill + xfa hill pl else xfa gun pl) w d (pl / 10) (pl % 10) (n % 7) e)
theorem xhe_0 (m : Int) (cd : Int → Int) (w d n gun hill pl : Int) : xhe m cd w d n gun hill pl 0 = xhm m cd w d n gun pl := by unfold xhe xhm; rw [if_neg (by decide)]
theorem xhe_r {m : Int} {cd : Int → Int} {w d n gun hill pl e : Int} (hd : 0 ≤ d ∧ d ≤ 9) : 0 ≤ xhe m cd w d n gun hill pl e ∧ xhe m cd w d n gun hill pl e ≤ 108 := by
  have := xdl_r m cd (xth (if e ≠ 0 then xfa gun hill + xfa hill pl else xfa gun pl) w d (pl / 10) (pl % 10) (n % 7) e)
  unfold xhe
  omega
/-- a row of the reference that is a town's: gun, hill, day, and the places of the first nh houses -/
def Xrr (nh : Int) (r : Int → Int) : Prop := (0 ≤ r 32 ∧ r 32 ≤ 9) ∧ (0 ≤ r 33 ∧ r 33 ≤ 9) ∧ (0 ≤ r 34 ∧ r 34 ≤ 9) ∧ (0 ≤ r 35 ∧ r 35 ≤ 9) ∧ (0 ≤ r 39 ∧ r 39 ≤ 2000000) ∧ ∀ h, 0 ≤ h → h < nh → (0 ≤ r h ∧ r h ≤ 9) ∧ (0 ≤ r (8 + h) ∧ r (8 + h) ≤ 9)
theorem Xrr_of {B nh nd : Int} {g p w l r : Int → Int} (hB : B ≤ 2000000) (hnh : nh ≤ 8) (h1 : Xti B g p w l) (h2 : Xtr nh nd g p w l r) : Xrr nh r := by
  obtain ⟨⟨a1, a2, a3, a4, a5, a6⟩, b1, b2, b3⟩ := h1
  obtain ⟨⟨c1, c2, c3, c4, c5, c6⟩, d1, d2⟩ := h2
  refine ⟨by omega, by omega, by omega, by omega, by omega, fun h x y => ?_⟩
  have e1 := d1 h x y
  have e2 := b1 h x (by omega)
  omega
/-- what the reference's world must be like to hear in it -/
def Xev (m : Int) (cd : Int → Int) (nw : Int) (fw : Int → Int) (nd : Int) (fd : Int → Int) (τ : xW) : Prop := (∃ n f, XRC n f m cd) ∧ τ 121 23 = m ∧ τ 131 = cd ∧ Xdig nw fw (τ 121 6) (τ 123) ∧ Xdig nd fd (τ 121 7) (τ 124)
theorem Xev_c {m : Int} {cd : Int → Int} {nw : Int} {fw : Int → Int} {nd : Int} {fd : Int → Int} {τ τ1 : xW} (h : Xev m cd nw fw nd fd τ) (e : ∀ c, c = 121 ∨ c = 131 ∨ c = 123 ∨ c = 124 → τ1 c = τ c) : Xev m cd nw fw nd fd τ1 := by
  unfold Xev at *
  rw [e 121 (by omega), e 131 (by omega), e 123 (by omega), e 124 (by omega)]
  exact h
theorem flag_m {a : Int} {s : xW} : F_X11_flag a s = some (if xw a ≠ 0 then 1 else 0) := by unfold F_X11_flag; rfl
theorem hearsBy_m {m : Int} {cd : Int → Int} {nw : Int} {fw : Int → Int} {nd : Int} {fd : Int → Int} {nh r h e w d : Int} {s : xW} (hE : Xev m cd nw fw nd fd s) (hr : r = 127 ∨ r = 128) (hR : Xrr nh (s r)) (hnh : nh ≤ 8) (hh : 0 ≤ h ∧ h < nh) (he : e = 0 ∨ e = 1) :
    ∃ s', F_X11_hearsBy r h e d w s = some (xhe m cd w d (s r 39) (10 * s r 32 + s r 33) (10 * s r 34 + s r 35) (10 * s r h + s r (8 + h)) e, s') ∧ ∀ c, c ≠ 133 → c ≠ 134 → s' c = s c := by
  obtain ⟨⟨n, f, hX⟩, e1, e2, -, -⟩ := hE
  obtain ⟨r1, r2, r3, r4, r5, r6⟩ := hR
  obtain ⟨r7, r8⟩ := r6 h hh.1 hh.2
  unfold F_X11_hearsBy
  rw [xgd_t (by rcases hr with rfl | rfl <;> decide), xgd_t (by omega), xgd_t (by omega), far_m r1 r2 r7 r8, far_m r1 r2 r3 r4, far_m r3 r4 r7 r8]
  simp only [xbp_s, xbd_s, xls, xli, xlt, xjn, flag_m]
  have hxe : xw e = e := xw_sm (by omega) (by omega)
  rw [hxe]
  generalize hv : (if e ≠ 0 then xfa (10 * s r 32 + s r 33) (10 * s r 34 + s r 35) + xfa (10 * s r 34 + s r 35) (10 * s r h + s r (8 + h)) else xfa (10 * s r 32 + s r 33) (10 * s r h + s r (8 + h))) = v
  have hra : ∀ (t : xW) (k x : Int), xu t 134 k x r = t r := fun t k x => xu_row _ _ _ (by omega)
  simp only [hra]
  rw [xw_sm (x := s r 39) (by omega) (by omega), Int.tmod_eq_emod_of_nonneg (by omega)]
  generalize hs : xu (xu (xu (xu (xu (xu (xu s 134 0 v) 134 1 w) 134 2 d) 134 3 (s r h)) 134 4 (s r (8 + h))) 134 5 (s r 39 % 7)) 134 6 (if e ≠ 0 then 1 else 0) = s2
  have hs2 : ∀ c, c ≠ 134 → s2 c = s c := fun c hc => by rw [← hs]; simp only [xu_row _ _ _ hc]
  obtain ⟨arr, ha⟩ := ruled_m (s := s2) hX (by rw [hs2 _ (by decide)]; exact e1) (by rw [hs2 _ (by decide)]; exact e2)
  rw [ha]
  simp only [xbp_s, xbd_s, xls, xli, xlt, xjn]
  refine ⟨xrow s2 133 arr, ?_, fun c c1 c2 => by rw [xrow_o c1]; exact hs2 c c2⟩
  rw [xrv_congr (th' := xth v w d ((10 * s r h + s r (8 + h)) / 10) ((10 * s r h + s r (8 + h)) % 10) (s r 39 % 7) e) hX (fun j j1 j2 => by
    rw [← hs, show (10 * s r h + s r (8 + h)) / 10 = s r h by omega, show (10 * s r h + s r (8 + h)) % 10 = s r (8 + h) by omega]
    rcases (by omega : j = 0 ∨ j = 1 ∨ j = 2 ∨ j = 3 ∨ j = 4 ∨ j = 5 ∨ j = 6) with rfl | rfl | rfl | rfl | rfl | rfl | rfl <;> simp [xu, xth]
    omega)]
  rw [xw_id (by have := I32_xw (xrv m cd (xth v w d ((10 * s r h + s r (8 + h)) / 10) ((10 * s r h + s r (8 + h)) % 10) (s r 39 % 7) e)); omega)]
  unfold xhe xdl
  rw [hv]
theorem hears_m {m : Int} {cd : Int → Int} {nw : Int} {fw : Int → Int} {nd : Int} {fd : Int → Int} {nh r h : Int} {s : xW} (hE : Xev m cd nw fw nd fd s) (hr : r = 127 ∨ r = 128) (hR : Xrr nh (s r)) (hnh : nh ≤ 8) (hh : 0 ≤ h ∧ h < nh) :
    ∃ s', F_X11_hears r h s = some (xhm m cd (xday nw fw (s r 39)) (xday nd fd (s r 39)) (s r 39) (10 * s r 32 + s r 33) (10 * s r h + s r (8 + h)), s') ∧ ∀ c, c ≠ 133 → c ≠ 134 → s' c = s c := by
  obtain ⟨s', h1, h2⟩ := hearsBy_m (w := xday nw fw (s r 39)) (d := xday nd fd (s r 39)) hE hr hR hnh hh (Or.inl rfl)
  refine ⟨s', ?_, h2⟩
  unfold F_X11_hears
  rw [xgd_t (by rcases hr with rfl | rfl <;> decide), dampOn_m hE.2.2.2.2 hR.2.2.2.2.1, windOn_m hE.2.2.2.1 hR.2.2.2.2.1]
  simp only [xbp_s, xbd_s, xls, xli, xlt, xjn]
  rw [h1, xhe_0]
  rfl
theorem echoes_m {m : Int} {cd : Int → Int} {nw : Int} {fw : Int → Int} {nd : Int} {fd : Int → Int} {nh r h : Int} {s : xW} (hE : Xev m cd nw fw nd fd s) (hr : r = 127 ∨ r = 128) (hR : Xrr nh (s r)) (hnh : nh ≤ 8) (hh : 0 ≤ h ∧ h < nh) :
    ∃ s', F_X11_echoes r h s = some (xhe m cd (xday nw fw (s r 39)) (xday nd fd (s r 39)) (s r 39) (10 * s r 32 + s r 33) (10 * s r 34 + s r 35) (10 * s r h + s r (8 + h)) 1, s') ∧ ∀ c, c ≠ 133 → c ≠ 134 → s' c = s c := by
  obtain ⟨s', h1, h2⟩ := hearsBy_m (w := xday nw fw (s r 39)) (d := xday nd fd (s r 39)) hE hr hR hnh hh (Or.inr rfl)
  refine ⟨s', ?_, h2⟩
  unfold F_X11_echoes
  rw [xgd_t (by rcases hr with rfl | rfl <;> decide), dampOn_m hE.2.2.2.2 hR.2.2.2.2.1, windOn_m hE.2.2.2.1 hR.2.2.2.2.1]
  simp only [xbp_s, xbd_s, xls, xli, xlt, xjn]
  rw [h1]
  rfl
theorem lays_loop {m : Int} {cd : Int → Int} {nw : Int} {fw : Int → Int} {nd : Int} {fd : Int → Int} {nh n r : Int} {s0 : xW} {k : Int → xW → Option xW} (hE : Xev m cd nw fw nd fd s0) (hr : r = 127 ∨ r = 128) (hR : Xrr nh (s0 r)) (hnh : nh ≤ 8) (hn : n ≤ 8) (e0 : s0 121 4 = n) (hh : ∀ d, 0 ≤ d → d < n → 0 ≤ s0 125 d ∧ s0 125 d < nh) :
    ∀ (j i : Nat) (s : xW) (f : Nat), (i : Int) + j = n → j < f → (∀ c, c ≠ 133 → c ≠ 134 → c ≠ 135 → s c = s0 c) → (∀ d : Int, 0 ≤ d → d < i → s 135 d = xhm m cd (xday nw fw (s0 r 39)) (xday nd fd (s0 r 39)) (s0 r 39) (10 * s0 r 32 + s0 r 33) (10 * s0 r (s0 125 d) + s0 r (8 + s0 125 d))) →
    ∃ s', F_X11_laysBegins_2 r f i s k = k n s' ∧ (∀ c, c ≠ 133 → c ≠ 134 → c ≠ 135 → s' c = s0 c) ∧ (∀ d : Int, 0 ≤ d → d < n → s' 135 d = xhm m cd (xday nw fw (s0 r 39)) (xday nd fd (s0 r 39)) (s0 r 39) (10 * s0 r 32 + s0 r 33) (10 * s0 r (s0 125 d) + s0 r (8 + s0 125 d))) := by
  intro j
  induction j with
  | zero =>
    intro i s f hi hf hc q
    obtain ⟨f, rfl⟩ : ∃ f', f = f' + 1 := ⟨f - 1, by omega⟩
    refine ⟨s, ?_, hc, fun h a b => q h a (by omega)⟩
    unfold F_X11_laysBegins_2
    rw [hc 121 (by omega) (by omega) (by omega), e0, xw_sm (by omega) (by omega), xw_sm (by omega) (by omega), if_neg (by omega), show n = (i : Int) by omega]
  | succ j ih =>
    intro i s f hi hf hc q
    obtain ⟨f, rfl⟩ : ∃ f', f = f' + 1 := ⟨f - 1, by omega⟩
    have h1 := hh i (by omega) (by omega)
    have er : s r = s0 r := hc r (by omega) (by omega) (by omega)
    obtain ⟨s1, g1, g2⟩ := hears_m (h := s0 125 i) (s := s) (Xev_c hE (fun c hc' => hc c (by omega) (by omega) (by omega))) hr (by rw [er]; exact hR) hnh h1
    unfold F_X11_laysBegins_2
    rw [hc 121 (by omega) (by omega) (by omega), e0, xw_sm (by omega) (by omega), xw_sm (by omega) (by omega), if_pos (by omega), xgd_t (by omega), hc 125 (by omega) (by omega) (by omega), g1]
    simp only [xbp_s, xbd_s, xls, xli, xlt, xjn]
    rw [xgd_t (by omega), show ((i : Int) + 1) = ((i + 1 : Nat) : Int) by omega]
    refine ih (i + 1) _ f (by omega) (by omega) ?_ ?_
    · intro c c1 c2 c3
      rw [xu_row _ _ _ c3, g2 c c1 c2]
      exact hc c c1 c2 c3
    · intro d h1 h2
      by_cases hd : d = i
      · rw [hd, xu_same, er]
      · rw [xu_slot _ _ _ hd, g2 135 (by decide) (by decide)]
        exact q d h1 (by omega)
theorem laysBegins_m {m : Int} {cd : Int → Int} {nw : Int} {fw : Int → Int} {nd : Int} {fd : Int → Int} {nh r : Int} {s : xW} (hE : Xev m cd nw fw nd fd s) (hr : r = 127 ∨ r = 128) (hR : Xrr nh (s r)) (hnh : nh ≤ 8) (hn : 0 ≤ s 121 4 ∧ s 121 4 ≤ 8) (hh : ∀ d, 0 ≤ d → d < s 121 4 → 0 ≤ s 125 d ∧ s 125 d < nh) :
    ∃ s', F_X11_laysBegins r s = some s' ∧ (∀ c, c ≠ 133 → c ≠ 134 → c ≠ 135 → s' c = s c) ∧ (∀ d : Int, 0 ≤ d → d < s 121 4 → s' 135 d = xhm m cd (xday nw fw (s r 39)) (xday nd fd (s r 39)) (s r 39) (10 * s r 32 + s r 33) (10 * s r (s 125 d) + s r (8 + s 125 d))) := by
  obtain ⟨s', g1, g2, g3⟩ := lays_loop (k := fun (l2_15 : Int) (s16 : xW) => some s16) hE hr hR hnh hn.2 rfl hh (s 121 4).toNat 0 s xN (by omega) (by have := xN_ge; omega) (fun c _ _ _ => rfl) (fun d a b => by omega)
  refine ⟨s', ?_, g2, g3⟩
  unfold F_X11_laysBegins
  rw [xgd_t (by rcases hr with rfl | rfl <;> decide)]
  exact g1
