/-- a call that may refuse by a throw: valid says when it doesn't -/
def XOt (valid : xW → Prop) (cf mf : xW → Option (Int × xW)) : Prop := ∀ (B : Int) (σ τ : xW), 0 ≤ B → B ≤ 1000000 → XR B σ τ → (valid σ → ∃ r σ1 τ1, cf σ = some (r, σ1) ∧ mf τ = some (r, τ1) ∧ τ1 121 0 = 0 ∧ XR (B + 300) σ1 τ1) ∧ (¬ valid σ → ∃ r τ1, mf τ = some (r, τ1) ∧ τ1 121 0 = 1 ∧ XR (B + 300) σ τ1)
theorem XR_thr1 {B v : Int} {σ τ : xW} (h : XR B σ τ) : XR B σ (xu τ 121 0 v) := by
  have hfM : xfm [(121, 0)] τ (xu τ 121 0 v) := xfm_uO xfm_rf (by decide) rfl
  exact XR_mW hfM (by decide +kernel) h (Xrow_mW hfM (by decide +kernel) h.2.1)
theorem op_row {a : Int} (ha : I32 a) : XOt (fun σ => 0 ≤ a ∧ a < σ 3 1) (fun σ => (F_X10_row a σ).map (fun r => (r, σ))) (F_X11_row a) := by
  intro B σ τ hB hB1 h
  have hth := XR_thr h
  obtain ⟨r1, r2, r3⟩ := h.2.1
  have e1 : xu τ 121 0 0 121 1 = σ 3 1 := by rw [xu_slot _ _ _ (by decide)]; exact r2
  refine ⟨fun hv => ⟨σ 4 a, σ, xu τ 121 0 0, ?_, ?_, xu_same _ _ _ _, XR_mono (by omega) hth⟩, fun hv => ⟨0, xu (xu τ 121 0 0) 121 0 1, ?_, xu_same _ _ _ _, XR_mono (by omega) (XR_thr1 hth)⟩⟩
  · unfold F_X10_row
    simp only [xbp_s, xbd_s, xls, xli, xlt, xjn]
    rw [xw_id ha, xw_sm (by omega) (by omega), if_pos hv.1, if_neg (by omega), xgd_t (by omega)]
    rfl
  · unfold F_X11_row
    simp only [xbp_s, xbd_s, xls, xli, xlt, xjn]
    rw [e1, xw_id ha, xw_sm (by omega) (by omega), in_eq (by omega) (by omega) (by omega), if_pos (by omega)]
    simp only [xbp_s, xbd_s, xls, xli, xlt, xjn]
    rw [if_neg (by decide), xgd_t (by omega), xu_row _ _ _ (by decide), r3 a hv.1 hv.2]
  · unfold F_X11_row
    simp only [xbp_s, xbd_s, xls, xli, xlt, xjn]
    rw [e1, xw_id ha, xw_sm (by omega) (by omega), in_eq (by omega) (by omega) (by omega), if_neg (by omega)]
    rfl
theorem on_c {day d w : Int} {s : xW} (hday : 0 ≤ day ∧ day ≤ 2000000) : F_X0_on day d w s = some (xu (xu (xu s 90 1 w) 90 2 d) 90 5 (day % 7)) := by
  unfold F_X0_on
  simp only [xbp_s, xbd_s, xls, xli, xlt, xjn]
  rw [xw_sm (by omega) (by omega), Int.tmod_eq_emod_of_nonneg hday.1]
theorem minuteE_c {m far pl e day d w r : Int} {cd : Int → Int} {s : xW} (h : Xcw m cd r s) (hp : 0 ≤ pl ∧ pl ≤ 99) : ∃ s', F_X0_minute r far pl e (xu (xu (xu s 90 1 w) 90 2 d) 90 5 (day % 7)) = some (d + xdl m cd (xth far w d (pl / 10) (pl % 10) (day % 7) e), s') ∧ ∀ c, c ≠ 90 → c ≠ r + 2 → s' c = s c := by
  have hr := h.1
  generalize hs : xu (xu (xu s 90 1 w) 90 2 d) 90 5 (day % 7) = s1
  have e1 : ∀ c, c ≠ 90 → s1 c = s c := fun c hc => by rw [← hs, xu_row _ _ _ hc, xu_row _ _ _ hc, xu_row _ _ _ hc]
  obtain ⟨arr, ha⟩ := minute_c (s := s1) (far := far) (pl := pl) (e := e) hr (by rw [e1 r (by omega), e1 (r + 1) (by omega)]; exact h.2.1) hp
  have q1 : s1 90 1 = w := by rw [← hs]; simp [xu]
  have q2 : s1 90 2 = d := by rw [← hs]; simp [xu]
  have q3 : s1 90 5 = day % 7 := by rw [← hs]; simp [xu]
  rw [q1, q2, q3] at ha
  refine ⟨_, ha, fun c c1 c2 => ?_⟩
  rw [xrow_o c2, xu_row _ _ _ c1, xu_row _ _ _ c1, xu_row _ _ _ c1, xu_row _ _ _ c1, e1 c c1]
theorem minuteOfGun_c {m h : Int} {cd : Int → Int} {s : xW} (hw : Xcw m cd (s 0 4) s) (hg : 0 ≤ s 17 0 ∧ s 17 0 ≤ 99) (hday : 0 ≤ s 17 5 ∧ s 17 5 ≤ 2000000) (hh : 0 ≤ h ∧ h < 8) : ∃ s', F_X10_minuteOfGun h s = some (xhm m cd (xday (s 5 1) (s 6) (s 17 5)) (xday (s 7 1) (s 8) (s 17 5)) (s 17 5) (s 17 0) (s 18 h), s') ∧ ∀ c, c ≠ 90 → c ≠ s 0 4 + 2 → s' c = s c := by
  have hp := hw.2.2.2.2.2.2.2.2.1 h hh.1 hh.2
  have hRu : s 0 4 ∈ xRules := by rcases hw.1 with a | a <;> rw [a] <;> decide
  obtain ⟨s1, g1, g2⟩ := minuteE_c (far := xfa (s 17 0) (s 18 h)) (pl := s 18 h) (e := 0) (day := s 17 5) (d := xday (s 7 1) (s 8) (s 17 5)) (w := xday (s 5 1) (s 6) (s 17 5)) hw hp
  refine ⟨s1, ?_, g2⟩
  unfold F_X10_minuteOfGun
  rw [xgd_t hh, of_c (Or.inr rfl) hw.2.2.2.1 hday, of_c (Or.inl rfl) hw.2.2.1 hday]
  simp only [xbp_s, xbd_s, xls, xli, xlt, xjn]
  rw [show (7 : Int) + 1 = 8 from rfl, show (5 : Int) + 1 = 6 from rfl, on_c hday]
  simp only [xbp_s, xbd_s, xls, xli, xlt, xjn]
  rw [xu_row _ _ _ (show (0 : Int) ≠ 90 by decide), xu_row _ _ _ (show (0 : Int) ≠ 90 by decide), xu_row _ _ _ (show (0 : Int) ≠ 90 by decide), xgd_t hRu, xu_row _ _ _ (show (17 : Int) ≠ 90 by decide), xu_row _ _ _ (show (17 : Int) ≠ 90 by decide), xu_row _ _ _ (show (17 : Int) ≠ 90 by decide), far_c hg hp]
  simp only [xbp_s, xbd_s, xls, xli, xlt, xjn]
  rw [g1]
  rfl
theorem minuteOfEcho_c {m h : Int} {cd : Int → Int} {s : xW} (hw : Xcw m cd (s 0 4) s) (hg : 0 ≤ s 17 0 ∧ s 17 0 ≤ 99) (hi : 0 ≤ s 17 1 ∧ s 17 1 ≤ 99) (hday : 0 ≤ s 17 5 ∧ s 17 5 ≤ 2000000) (hh : 0 ≤ h ∧ h < 8) : ∃ s', F_X10_minuteOfEcho h s = some (xhe m cd (xday (s 5 1) (s 6) (s 17 5)) (xday (s 7 1) (s 8) (s 17 5)) (s 17 5) (s 17 0) (s 17 1) (s 18 h) 1, s') ∧ ∀ c, c ≠ 90 → c ≠ s 0 4 + 2 → s' c = s c := by
  have hp := hw.2.2.2.2.2.2.2.2.1 h hh.1 hh.2
  have hRu : s 0 4 ∈ xRules := by rcases hw.1 with a | a <;> rw [a] <;> decide
  obtain ⟨s1, g1, g2⟩ := minuteE_c (far := xfa (s 17 0) (s 17 1) + xfa (s 17 1) (s 18 h)) (pl := s 18 h) (e := 1) (day := s 17 5) (d := xday (s 7 1) (s 8) (s 17 5)) (w := xday (s 5 1) (s 6) (s 17 5)) hw hp
  refine ⟨s1, ?_, g2⟩
  unfold F_X10_minuteOfEcho
  rw [xgd_t hh, far_c hg hi, far_c hi hp, of_c (Or.inr rfl) hw.2.2.2.1 hday, of_c (Or.inl rfl) hw.2.2.1 hday]
  simp only [xbp_s, xbd_s, xls, xli, xlt, xjn]
  rw [show (7 : Int) + 1 = 8 from rfl, show (5 : Int) + 1 = 6 from rfl, on_c hday]
  simp only [xbp_s, xbd_s, xls, xli, xlt, xjn]
  rw [xu_row _ _ _ (show (0 : Int) ≠ 90 by decide), xu_row _ _ _ (show (0 : Int) ≠ 90 by decide), xu_row _ _ _ (show (0 : Int) ≠ 90 by decide), xgd_t hRu, g1]
  simp only [xbp_s, xbd_s, xls, xli, xlt, xjn]
  unfold xhe
  rw [if_pos (by decide)]
theorem at_loop {h n : Int} {s : xW} {k : Int → Int → Option Int} (hn : 0 ≤ n ∧ n ≤ 8) (e0 : s 92 0 = n) (hh : I32 h) (hm : ∀ d, 0 ≤ d → d < n → 0 ≤ s 93 d ∧ s 93 d < 8) :
    ∀ (j i f : Nat), (i : Int) + j = n → j < f → F_X4_at_4 h s f (xbits (fun d => decide (s 93 d = h)) i) i k = k (xbits (fun d => decide (s 93 d = h)) n.toNat) n := by
  intro j
  induction j with
  | zero =>
    intro i f hi hf
    obtain ⟨f, rfl⟩ : ∃ f', f = f' + 1 := ⟨f - 1, by omega⟩
    unfold F_X4_at_4
    rw [e0, xw_sm (by omega) (by omega), xw_sm (by omega) (by omega), if_neg (by omega), show n.toNat = i by omega, show n = (i : Int) by omega]
  | succ j ih =>
    intro i f hi hf
    obtain ⟨f, rfl⟩ : ∃ f', f = f' + 1 := ⟨f - 1, by omega⟩
    have h1 := hm i (by omega) (by omega)
    have ih' := ih (i + 1) f (by omega) (by omega)
    rw [xbits_s, show ((i + 1 : Nat) : Int) = (i : Int) + 1 by omega] at ih'
    unfold F_X4_at_4
    simp only [xbp_s, xbd_s, xls, xli, xlt, xjn]
    rw [e0, xw_sm (x := (i : Int)) (by omega) (by omega), xw_sm (x := n) (by omega) (by omega), if_pos (by omega), xgd_t (by omega), xw_sm (by omega) (by omega), xw_id hh, ← ih']
    congr 2
    by_cases q : s 93 i = h <;> simp [q]
theorem hbits_loop {h w n : Int} {s : xW} {k : Int → Int → Option (Int × xW)} (hn : 0 ≤ n ∧ n ≤ 8) (e0 : s 121 4 = n) (hh : I32 h) (hm : ∀ d, 0 ≤ d → d < n → 0 ≤ s 125 d ∧ s 125 d < 8) :
    ∀ (j i f : Nat), (i : Int) + j = n → j < f → F_X11_house_35 h w s f (xbits (fun d => decide (s 125 d = h)) i) i k = k (xbits (fun d => decide (s 125 d = h)) n.toNat) n := by
  intro j
  induction j with
  | zero =>
    intro i f hi hf
    obtain ⟨f, rfl⟩ : ∃ f', f = f' + 1 := ⟨f - 1, by omega⟩
    unfold F_X11_house_35
    rw [e0, xw_sm (by omega) (by omega), xw_sm (by omega) (by omega), if_neg (by omega), show n.toNat = i by omega, show n = (i : Int) by omega]
  | succ j ih =>
    intro i f hi hf
    obtain ⟨f, rfl⟩ : ∃ f', f = f' + 1 := ⟨f - 1, by omega⟩
    have h1 := hm i (by omega) (by omega)
    have ih' := ih (i + 1) f (by omega) (by omega)
    rw [xbits_s, show ((i + 1 : Nat) : Int) = (i : Int) + 1 by omega] at ih'
    unfold F_X11_house_35
    simp only [xbp_s, xbd_s, xls, xli, xlt, xjn]
    rw [e0, xw_sm (x := (i : Int)) (by omega) (by omega), xw_sm (x := n) (by omega) (by omega), if_pos (by omega), xgd_t (by omega), xw_sm (by omega) (by omega), xw_id hh, ← ih']
    congr 2
    by_cases q : s 125 i = h <;> simp [q]
theorem op_house {a b : Int} (ha : I32 a) (hb : I32 b) : XOt (fun σ => (0 ≤ a ∧ a < σ 0 14) ∧ (0 ≤ b ∧ b ≤ 5)) (F_X10_house a b) (F_X11_house a b) := by
  intro B σ τ hB hB1 h
  have hcw := XR_cw h
  have hmw := XR_mw h
  have hmr := XR_mr hB1 h
  have hth := XR_thr h
  obtain ⟨h1, h2, h3, h4, h5, h6, h7, h8, h9, h10⟩ := id h
  have hday := h6.1.1.2.2.2.2.2
  have hgun := h6.1.1.1
  have hhill := h6.1.1.2.1
  have hnh := h5.1
  have hnd := h5.2.2.1
  have e3 : xu τ 121 0 0 121 3 = σ 0 14 := by rw [xu_slot _ _ _ (by decide)]; exact h5.2.1
  have e4 : xu τ 121 0 0 121 4 = σ 92 0 := by rw [xu_slot _ _ _ (by decide)]; exact h5.2.2.2.1
  have e127 : xu τ 121 0 0 127 = τ 127 := xu_row _ _ _ (by decide)
  have e125 : xu τ 121 0 0 125 = τ 125 := xu_row _ _ _ (by decide)
  have hmw1 : Xmw (τ 121 23) (τ 131) σ (xu τ 121 0 0) := Xmw_c hmw (fun c hc => xu_row _ _ _ (by omega)) (fun k hk => xu_slot _ _ _ (by omega))
  constructor
  · rintro ⟨ha2, hb2⟩
    have hpl := h6.2.2.1 a ha2.1 ha2.2
    have hp99 := h6.1.2.1 a ha2.1 (by omega)
    have hw108 := h6.1.2.2.1 a ha2.1 (by omega)
    have hbm := hbits_loop (h := a) (w := b) (n := σ 92 0) (s := xu τ 121 0 0) (k := fun (l3_28 : Int) (l4_29 : Int) => if (xw b) = 0 then xgd (0 ≤ a ∧ a < 40) <| some (((xu τ 121 0 0) 127 a), xu τ 121 0 0) else if (xw b) = 1 then xgd (0 ≤ (8 + a) ∧ (8 + a) < 40) <| some (((xu τ 121 0 0) 127 (8 + a)), xu τ 121 0 0) else if (xw b) = 2 then xgd (0 ≤ (16 + a) ∧ (16 + a) < 40) <| some (((xu τ 121 0 0) 127 (16 + a)), xu τ 121 0 0) else if (xw b) = 3 then xbd (F_X11_hears 127 a (xu τ 121 0 0)) fun r38 s39 => some (r38, s39) else if (xw b) = 4 then xbd (F_X11_echoes 127 a (xu τ 121 0 0)) fun r42 s43 => some (r42, s43) else some (l3_28, xu τ 121 0 0)) hnd e4 ha (fun d x y => by rw [e125, (h5.2.2.2.2 d x y).2.1]; have := (h5.2.2.2.2 d x y).1; omega) (σ 92 0).toNat 0 xN (by omega) (by have := xN_ge; omega)
    have hMC : F_X11_house a b τ = F_X11_house a b τ := rfl
    conv at hMC => rhs; unfold F_X11_house
    simp only [xbp_s, xbd_s, xls, xli, xlt, xjn] at hMC
    rw [isHouse_m ha (by rw [e3]; exact hnh), e3, xw_id hb, in_eq (by omega) (by omega) (by omega)] at hMC
    simp only [xbp_s, xbd_s, xls, xli, xlt, xjn] at hMC
    rw [if_pos ha2, if_pos (by decide), if_pos hb2, if_neg (by decide)] at hMC
    rw [xw_id hb] at hbm
    replace hMC := hMC.trans hbm
    have hCC : F_X10_house a b σ = F_X10_house a b σ := rfl
    conv at hCC => rhs; unfold F_X10_house
    simp only [xbp_s, xbd_s, xls, xli, xlt, xjn] at hCC
    rw [isHouse_c ha hnh] at hCC
    simp only [xbp_s, xbd_s, xls, xli, xlt, xjn] at hCC
    rw [if_pos ha2, if_pos (by decide), xw_id hb, if_pos hb2.1, if_neg (by omega)] at hCC
    rw [e127] at hMC
    -- both worlds after a question
    have fin : ∀ {σ1 τ1 : xW}, xfm (W_X10_house) σ σ1 → xfm (W_X11_house) τ τ1 → XR (B + 300) σ1 τ1 := fun u v => XR_W0 u (by decide +kernel) v (by decide +kernel) h
    by_cases q0 : b = 0
    · rw [if_pos q0] at hMC hCC
      rw [xgd_t (by omega)] at hMC hCC
      refine ⟨_, _, xu τ 121 0 0, hCC, ?_, ?_⟩
      · rw [hMC, xw_sm (by omega) (by omega), Int.tdiv_eq_ediv_of_nonneg hp99.1, show σ 18 a / 10 = τ 127 a by omega]
      · exact ⟨xu_same _ _ _ _, XR_mono (by omega) hth⟩
    rw [if_neg q0] at hMC hCC
    by_cases q1 : b = 1
    · rw [if_pos q1] at hMC hCC
      rw [xgd_t (by omega)] at hMC hCC
      refine ⟨_, _, xu τ 121 0 0, hCC, ?_, ?_⟩
      · rw [hMC, xw_sm (by omega) (by omega), Int.tmod_eq_emod_of_nonneg hp99.1, show σ 18 a % 10 = τ 127 (8 + a) by omega]
      · exact ⟨xu_same _ _ _ _, XR_mono (by omega) hth⟩
    rw [if_neg q1] at hMC hCC
    by_cases q2 : b = 2
    · rw [if_pos q2] at hMC hCC
      rw [xgd_t (by omega)] at hMC hCC
      refine ⟨_, _, xu τ 121 0 0, hCC, ?_, ?_⟩
      · rw [hMC, hpl.2.2.2]
      · exact ⟨xu_same _ _ _ _, XR_mono (by omega) hth⟩
    rw [if_neg q2] at hMC hCC
    by_cases q3 : b = 3
    · rw [if_pos q3] at hMC hCC
      obtain ⟨s1, g1, g2⟩ := minuteOfGun_c hcw hgun (by omega) (show 0 ≤ a ∧ a < 8 by omega)
      obtain ⟨t1, k1, k2⟩ := hears_m (h := a) hmw1.1 (Or.inl rfl) (by rw [e127]; exact hmr.1) hnh.2 ha2
      rw [e127, hmr.2.1, hmr.2.2.1, hmr.2.2.2.1 a ha2.1 ha2.2] at k1
      rw [g1] at hCC
      rw [k1] at hMC
      simp only [xbp_s, xbd_s, xls, xli, xlt, xjn] at hMC hCC
      exact ⟨_, _, _, hCC, hMC, by rw [k2 121 (by decide) (by decide), xu_same], fin (fr_X10_house hCC) (fr_X11_house hMC)⟩
    rw [if_neg q3] at hMC hCC
    by_cases q4 : b = 4
    · rw [if_pos q4] at hMC hCC
      obtain ⟨s1, g1, g2⟩ := minuteOfEcho_c hcw hgun hhill (by omega) (show 0 ≤ a ∧ a < 8 by omega)
      obtain ⟨t1, k1, k2⟩ := echoes_m (h := a) hmw1.1 (Or.inl rfl) (by rw [e127]; exact hmr.1) hnh.2 ha2
      rw [e127, hmr.2.1, hmr.2.2.1, hmr.2.2.2.1 a ha2.1 ha2.2, ← h6.2.1.2.1.1] at k1
      rw [g1] at hCC
      rw [k1] at hMC
      simp only [xbp_s, xbd_s, xls, xli, xlt, xjn] at hMC hCC
      exact ⟨_, _, _, hCC, hMC, by rw [k2 121 (by decide) (by decide), xu_same], fin (fr_X10_house hCC) (fr_X11_house hMC)⟩
    rw [if_neg q4] at hMC hCC
    have hat : F_X4_at a σ = some (xbits (fun d => decide (σ 93 d = a)) (σ 92 0).toNat) := by
      unfold F_X4_at
      exact at_loop hnd rfl ha (fun d x y => by have := (h5.2.2.2.2 d x y).1; omega) (σ 92 0).toNat 0 xN (by omega) (by have := xN_ge; omega)
    rw [hat] at hCC
    simp only [xbp_s, xbd_s, xls, xli, xlt, xjn] at hCC
    rw [e125, xbits_congr (q := fun d => decide (σ 93 d = a)) (σ 92 0).toNat (fun i x y => by simp only [(h5.2.2.2.2 i x (by omega)).2.1])] at hMC
    exact ⟨_, _, _, hCC, hMC, xu_same _ _ _ _, XR_mono (by omega) hth⟩
  · intro hv
    refine ⟨0, xu (xu τ 121 0 0) 121 0 1, ?_, xu_same _ _ _ _, XR_mono (by omega) (XR_thr1 hth)⟩
    unfold F_X11_house F_X11_refuse
    simp only [xbp_s, xbd_s, xls, xli, xlt, xjn]
    rw [isHouse_m ha (by rw [e3]; exact hnh), e3, xw_id hb, in_eq (by omega) (by omega) (by omega)]
    simp only [xbp_s, xbd_s, xls, xli, xlt, xjn, xif01]
    by_cases q : 0 ≤ a ∧ a < σ 0 14
    · rw [if_pos q, if_pos (by decide), if_neg (show ¬ (0 ≤ b ∧ b ≤ 5) from fun z => hv ⟨q, z⟩), if_pos rfl]
    · rw [if_neg q, if_neg (by decide)]
theorem op_deed {a b : Int} (ha : I32 a) (hb : I32 b) : XOt (fun σ => (0 ≤ a ∧ a < σ 92 0) ∧ (0 ≤ b ∧ b ≤ 4)) (F_X10_deed a b) (F_X11_deed a b) := by
  intro B σ τ hB hB1 h
  have hcw := XR_cw h
  have hmw := XR_mw h
  have hmr := XR_mr hB1 h
  have hth := XR_thr h
  obtain ⟨h1, h2, h3, h4, h5, h6, h7, h8, h9, h10⟩ := id h
  have hday := h6.1.1.2.2.2.2.2
  have hgun := h6.1.1.1
  have hnh := h5.1
  have hnd := h5.2.2.1
  have hr := hcw.1
  have e4 : xu τ 121 0 0 121 4 = σ 92 0 := by rw [xu_slot _ _ _ (by decide)]; exact h5.2.2.2.1
  have e127 : xu τ 121 0 0 127 = τ 127 := xu_row _ _ _ (by decide)
  have hmw1 : Xmw (τ 121 23) (τ 131) σ (xu τ 121 0 0) := Xmw_c hmw (fun c hc => xu_row _ _ _ (by omega)) (fun k hk => xu_slot _ _ _ (by omega))
  constructor
  · rintro ⟨ha2, hb2⟩
    obtain ⟨s2, a1, a2⟩ := today_c hcw hgun (by omega)
    obtain ⟨b1, b2, b3, b4, b5⟩ := a2
    obtain ⟨t1, m1, m2, m3, m4, m5⟩ := lays_d (r := 127) hmw1 (Or.inl rfl) (by rw [e127]; exact hmr)
    have e92 : s2 92 = σ 92 := b1 92 (by decide) (by decide) (by omega) (by decide) (by decide)
    have hpl := h5.2.2.2.2 a ha2.1 ha2.2
    have hln := h6.2.2.2 a ha2.1 ha2.2
    have g0 : t1 121 0 = 0 := by rw [m2 121 (by decide) (by decide) (by decide), xu_same]
    have t4 : t1 121 4 = σ 92 0 := by rw [m2 121 (by decide) (by decide) (by decide)]; exact e4
    have hMC : F_X11_deed a b τ = F_X11_deed a b τ := rfl
    conv at hMC => rhs; unfold F_X11_deed
    simp only [xbp_s, xbd_s, xls, xli, xlt, xjn] at hMC
    rw [isDeed_m ha (by rw [e4]; exact hnd), e4, xw_id hb, in_eq (by omega) (by omega) (by omega)] at hMC
    simp only [xbp_s, xbd_s, xls, xli, xlt, xjn] at hMC
    rw [if_pos ha2, if_pos (by decide), if_pos hb2, if_neg (by decide), m1] at hMC
    have hCC : F_X10_deed a b σ = F_X10_deed a b σ := rfl
    conv at hCC => rhs; unfold F_X10_deed
    simp only [xbp_s, xbd_s, xls, xli, xlt, xjn] at hCC
    rw [isDeed_c ha hnd] at hCC
    simp only [xbp_s, xbd_s, xls, xli, xlt, xjn] at hCC
    rw [if_pos ha2, if_pos (by decide), xw_id hb, if_pos hb2.1, if_neg (by omega), a1] at hCC
    simp only [xbp_s, xbd_s, xls, xli, xlt, xjn] at hMC hCC
    have fin : ∀ {r : Int}, F_X10_deed a b σ = some (r, s2) → F_X11_deed a b τ = some (r, t1) → ∃ r σ1 τ1, F_X10_deed a b σ = some (r, σ1) ∧ F_X11_deed a b τ = some (r, τ1) ∧ τ1 121 0 = 0 ∧ XR (B + 300) σ1 τ1 := fun {r} u v => ⟨r, s2, t1, u, v, g0, XR_W0 (fr_X10_deed u) (by decide +kernel) (fr_X11_deed v) (by decide +kernel) h⟩
    by_cases q0 : b = 0
    · rw [if_pos q0] at hMC hCC
      rw [xgd_t (by omega)] at hMC hCC
      refine fin hCC ?_
      rw [hMC, m2 125 (by decide) (by decide) (by decide), xu_row _ _ _ (by decide), hpl.2.1, b1 93 (by decide) (by decide) (by omega) (by decide) (by decide)]
    rw [if_neg q0] at hMC hCC
    by_cases q1 : b = 1
    · rw [if_pos q1] at hMC hCC
      rw [xgd_t (by omega)] at hMC hCC
      refine fin hCC ?_
      rw [hMC, m2 127 (by decide) (by decide) (by decide), e127, ← hln.1, b1 20 (by decide) (by decide) (by omega) (by decide) (by decide)]
    rw [if_neg q1] at hMC hCC
    by_cases q2 : b = 2
    · rw [if_pos q2] at hMC hCC
      rw [xgd_t (by omega)] at hMC hCC
      refine fin hCC ?_
      rw [hMC, m2 126 (by decide) (by decide) (by decide), xu_row _ _ _ (by decide), hpl.2.2.2, b1 94 (by decide) (by decide) (by omega) (by decide) (by decide)]
    rw [if_neg q2] at hMC hCC
    by_cases q3 : b = 3
    · rw [if_pos q3] at hMC hCC
      rw [xgd_t (by omega)] at hMC hCC
      refine fin hCC ?_
      rw [hMC, m4 a ha2.1 ha2.2, (b4 a ha2.1 ha2.2).1]
    rw [if_neg q3] at hMC hCC
    rw [foes_c b2 (by rw [e92]; exact ha2), e92] at hCC
    rw [clashing_m (Or.inl rfl) m3 (by rw [t4]; exact ha2), t4] at hMC
    simp only [xbp_s, xbd_s, xls, xli, xlt, xjn] at hMC hCC
    refine fin hCC ?_
    rw [hMC, xbits_congr (σ 92 0).toNat (fun i x y => (m5 a i ha2.1 ha2.2 x (by omega)).trans (b5 a i ha2.1 ha2.2 x (by omega)).symm)]
  · intro hv
    refine ⟨0, xu (xu τ 121 0 0) 121 0 1, ?_, xu_same _ _ _ _, XR_mono (by omega) (XR_thr1 hth)⟩
    unfold F_X11_deed F_X11_refuse
    simp only [xbp_s, xbd_s, xls, xli, xlt, xjn]
    rw [isDeed_m ha (by rw [e4]; exact hnd), e4, xw_id hb, in_eq (by omega) (by omega) (by omega)]
    simp only [xbp_s, xbd_s, xls, xli, xlt, xjn, xif01]
    by_cases q : 0 ≤ a ∧ a < σ 92 0
    · rw [if_pos q, if_pos (by decide), if_neg (show ¬ (0 ≤ b ∧ b ≤ 4) from fun z => hv ⟨q, z⟩), if_pos rfl]
    · rw [if_neg q, if_neg (by decide)]
