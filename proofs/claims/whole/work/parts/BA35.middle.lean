def xmx (f : Int → Int) : Nat → Int
  | 0 => 0
  | k + 1 => max (xmx f k) (f k)
theorem xmx_r {f : Int → Int} {M : Int} (hM : 0 ≤ M) (h : ∀ i : Int, 0 ≤ f i ∧ f i ≤ M) : ∀ k : Nat, 0 ≤ xmx f k ∧ xmx f k ≤ M
  | 0 => ⟨Int.le_refl _, hM⟩
  | k + 1 => by
    have h1 := xmx_r hM h k
    have h2 := h k
    show 0 ≤ max (xmx f k) (f k) ∧ max (xmx f k) (f k) ≤ M
    omega
theorem xmx_congr {f g : Int → Int} : ∀ k : Nat, (∀ i : Int, 0 ≤ i → i < k → f i = g i) → xmx f k = xmx g k
  | 0, _ => rfl
  | k + 1, h => by
    show max (xmx f k) (f k) = max (xmx g k) (g k)
    rw [xmx_congr k (fun i a b => h i a (by omega)), h k (by omega) (by omega)]
theorem last_loop {n : Int} {s : xW} {H : Int → Int} {k : Int → Int → Option Int} (hn : 0 ≤ n ∧ n ≤ 8) (e0 : s 0 14 = n) (hr : ∀ h, 0 ≤ H h ∧ H h ≤ 1000) (hH : ∀ h, 0 ≤ h → h < n → s 91 h = H h) :
    ∀ (j i f : Nat), (i : Int) + j = n → j < f → F_X10_lastMinute_4 s f (xmx H i) i k = k (xmx H n.toNat) n := by
  intro j
  induction j with
  | zero =>
    intro i f hi hf
    obtain ⟨f, rfl⟩ : ∃ f', f = f' + 1 := ⟨f - 1, by omega⟩
    unfold F_X10_lastMinute_4
    rw [e0, xw_sm (by omega) (by omega), xw_sm (by omega) (by omega), if_neg (by omega), show n.toNat = i by omega, show n = (i : Int) by omega]
  | succ j ih =>
    intro i f hi hf
    obtain ⟨f, rfl⟩ : ∃ f', f = f' + 1 := ⟨f - 1, by omega⟩
    have h1 := hr i
    have h2 := xmx_r (M := 1000) (by decide) hr i
    have ih' := ih (i + 1) f (by omega) (by omega)
    unfold F_X10_lastMinute_4
    rw [e0, xw_sm (x := (i : Int)) (by omega) (by omega), xw_sm (x := n) (by omega) (by omega), if_pos (by omega), xgd_t (by omega), hH i (by omega) (by omega), xw_sm (by omega) (by omega), xw_sm (by omega) (by omega), show ((i : Int) + 1) = ((i + 1 : Nat) : Int) by omega]
    exact ih'
/-- the last of all houses, the gun at a place -/
def xla (m : Int) (cd : Int → Int) (σ : xW) (day gun : Int) : Int := xmx (xhh m cd σ gun day) (σ 0 14).toNat
theorem xhh_r {m : Int} {cd : Int → Int} {σ : xW} (h8 : ∀ i, 0 ≤ σ 8 i ∧ σ 8 i ≤ 9) (gun day h : Int) : 0 ≤ xhh m cd σ gun day h ∧ xhh m cd σ gun day h ≤ 1000 := by
  have := xhm_r (m := m) (cd := cd) (w := xday (σ 5 1) (σ 6) day) (d := xday (σ 7 1) (σ 8) day) (n := day) (gun := gun) (pl := σ 18 h) (h8 _)
  unfold xhh
  omega
theorem xla_r {m : Int} {cd : Int → Int} {σ : xW} (h8 : ∀ i, 0 ≤ σ 8 i ∧ σ 8 i ≤ 9) (day gun : Int) : 0 ≤ xla m cd σ day gun ∧ xla m cd σ day gun ≤ 1000 := xmx_r (by decide) (xhh_r h8 gun day) _
theorem middle_loopC {m : Int} {cd : Int → Int} {σ : xW} {k : Int → Int → Int → xW → Option (Int × xW)} (h : Xcw m cd (σ 0 4) σ) (hday : 0 ≤ σ 17 5 ∧ σ 17 5 ≤ 1000000) :
    ∀ (j i : Nat) (s : xW) (f : Nat), i + j = 100 → j < f → (∀ c, Xcc c → s c = σ c) → ∃ s', F_X10_middle_16 f (xbc0 (xla m cd σ (σ 17 5)) i) (xbs (xla m cd σ (σ 17 5)) i).2 i s k = k (xbs (xla m cd σ (σ 17 5)) 100).1 (xbs (xla m cd σ (σ 17 5)) 100).2 100 s' ∧ (∀ c, Xcc c → s' c = σ c) := by
  have hp : ∀ k : Nat, 0 ≤ xla m cd σ (σ 17 5) k ∧ xla m cd σ (σ 17 5) k ≤ 1000 := fun k => xla_r h.2.2.2.2.1 _ _
  have hRu : σ 0 4 ∈ xRules := by rcases h.1 with a | a <;> rw [a] <;> decide
  have hnh := h.2.2.2.2.2.1
  intro j
  induction j with
  | zero =>
    intro i s f hi hf e
    obtain ⟨f, rfl⟩ : ∃ f', f = f' + 1 := ⟨f - 1, by omega⟩
    refine ⟨s, ?_, e⟩
    obtain rfl : i = 100 := by omega
    unfold F_X10_middle_16
    rw [xw_sm (by omega) (by omega), if_neg (by omega)]
    rfl
  | succ j ih =>
    intro i s f hi hf e
    obtain ⟨f, rfl⟩ : ∃ f', f = f' + 1 := ⟨f - 1, by omega⟩
    have e0 : s 0 = σ 0 := e 0 (by unfold Xcc; omega)
    have e17 : s 17 = σ 17 := e 17 (by unfold Xcc; omega)
    obtain ⟨s1, g1, g2⟩ := planFor_d (gun := i) (day := σ 17 5) (s := s) (Xcw_e h e) (by omega) (by omega)
    have e1 : ∀ c, Xcc c → s1 c = σ c := fun c hc => by rw [Xpf_e h.1 g2 c hc, e c hc]
    have g3 : F_X10_lastMinute s1 = some (xla m cd σ (σ 17 5) i) := by
      unfold F_X10_lastMinute
      refine Eq.trans (last_loop (n := σ 0 14) (s := s1) (H := xhh m cd σ i (σ 17 5)) (k := fun (l1_8 : Int) (l2_9 : Int) => some l1_8) hnh (by rw [e1 0 (by unfold Xcc; omega)]) (xhh_r h.2.2.2.2.1 _ _) (fun h' x y => ?_) (σ 0 14).toNat 0 xN (by omega) (by have := xN_ge; omega)) rfl
      have z := g2.2.2.1 h' x (by rw [e0]; exact y)
      rw [z]
      unfold xhh
      rw [e 5 (by unfold Xcc; omega), e 6 (by unfold Xcc; omega), e 7 (by unfold Xcc; omega), e 8 (by unfold Xcc; omega), e 18 (by unfold Xcc; omega)]
    obtain ⟨s2, k1, k2⟩ := ih (i + 1) s1 f (by omega) (by omega) e1
    refine ⟨s2, ?_, k2⟩
    have hr := xbs_r (p := xla m cd σ (σ 17 5)) hp i
    have hpi := hp i
    rw [← k1, F_X10_middle_16, e0, e17, xw_sm (x := (i : Int)) (by omega) (by omega), if_pos (by omega), xgd_t hRu, g1]
    simp only [xbp_s, xbd_s, xls, xli, xlt, xjn]
    rw [g3]
    simp only [xbp_s, xbd_s, xls, xli, xlt, xjn]
    have hb0 : 0 ≤ xbc0 (xla m cd σ (σ 17 5)) i ∧ xbc0 (xla m cd σ (σ 17 5)) i ≤ 1000000 := by unfold xbc0; split <;> omega
    have en : xbc0 (xla m cd σ (σ 17 5)) (i + 1) = (xbs (xla m cd σ (σ 17 5)) (i + 1)).1 := by unfold xbc0; rw [if_neg (by omega)]
    rw [xw_sm (x := (xbs (xla m cd σ (σ 17 5)) i).2) (by omega) (by omega), xw_sm (x := xla m cd σ (σ 17 5) i) (by omega) (by omega), xw_sm (x := xbc0 (xla m cd σ (σ 17 5)) i) (by omega) (by omega), en, show ((i : Int) + 1) = ((i + 1 : Nat) : Int) by omega]
    rw [show xbs (xla m cd σ (σ 17 5)) (i + 1) = if xla m cd σ (σ 17 5) i < (xbs (xla m cd σ (σ 17 5)) i).1 then (xla m cd σ (σ 17 5) i, (i : Int)) else xbs (xla m cd σ (σ 17 5)) i from rfl]
    by_cases hi0 : i = 0
    · subst hi0
      rw [if_neg (fun z => z rfl), if_pos (by show xla m cd σ (σ 17 5) ((0 : Nat) : Int) < 1000000; omega)]
    · have h3 := hr.2.2 (by omega)
      have eb : xbc0 (xla m cd σ (σ 17 5)) i = (xbs (xla m cd σ (σ 17 5)) i).1 := by unfold xbc0; rw [if_neg hi0]
      rw [if_pos (by omega), eb]
      by_cases q : xla m cd σ (σ 17 5) i < (xbs (xla m cd σ (σ 17 5)) i).1
      · rw [if_pos q, if_pos q]
      · rw [if_neg q, if_neg q]
theorem middle_loopM1 {m : Int} {cd : Int → Int} {gun day a b c0 : Int} {σ s0 : xW} {k : Int → Int → xW → Option (Int × xW)} (h : Xmw m cd σ s0) (h8 : ∀ i, 0 ≤ σ 8 i ∧ σ 8 i ≤ 9) :
    ∀ (j i : Nat) (s : xW) (f : Nat), (i : Int) + j = σ 0 14 → j < f → Xml m cd σ gun day s0 s → ∃ s', F_X11_middle_61 a b c0 f (xmx (xhh m cd σ gun day) i) i s k = k (xla m cd σ day gun) (σ 0 14) s' ∧ Xml m cd σ gun day s0 s' := by
  have hnh := h.2.1
  intro j
  induction j with
  | zero =>
    intro i s f hi hf e
    obtain ⟨f, rfl⟩ : ∃ f', f = f' + 1 := ⟨f - 1, by omega⟩
    refine ⟨s, ?_, e⟩
    unfold F_X11_middle_61 xla
    rw [e.1 121 (by decide) (by decide) (by decide) (by decide), h.2.2.2.1, xw_sm (by omega) (by omega), xw_sm (by omega) (by omega), if_neg (by omega), show (σ 0 14).toNat = i by omega, show σ 0 14 = (i : Int) by omega]
  | succ j ih =>
    intro i s f hi hf e
    obtain ⟨f, rfl⟩ : ∃ f', f = f' + 1 := ⟨f - 1, by omega⟩
    have hmws := Xmw_c (τ1 := s) h (fun c hc => e.1 c (by omega) (by omega) (by omega) (by omega)) (fun k hk => by rw [e.1 121 (by decide) (by decide) (by decide) (by decide)])
    obtain ⟨s1, g1, g2⟩ := hears_m (r := 128) (h := i) (s := s) hmws.1 (Or.inr rfl) e.2.1 hnh.2 (by omega)
    rw [e.2.2.1, e.2.2.2.1, e.2.2.2.2.1 i (by omega) (by omega)] at g1
    have h1 := xhh_r (m := m) (cd := cd) (σ := σ) h8 gun day i
    have h2 := xmx_r (M := 1000) (by decide) (xhh_r (m := m) (cd := cd) (σ := σ) h8 gun day) i
    have e1 : Xml m cd σ gun day s0 s1 := ⟨fun c c1 c2 c3 c4 => by rw [g2 c c1 c2]; exact e.1 c c1 c2 c3 c4, by rw [g2 128 (by decide) (by decide)]; exact e.2⟩
    obtain ⟨s2, k1, k2⟩ := ih (i + 1) s1 f (by omega) (by omega) e1
    refine ⟨s2, ?_, k2⟩
    rw [← k1, F_X11_middle_61, e.1 121 (by decide) (by decide) (by decide) (by decide), h.2.2.2.1, xw_sm (x := (i : Int)) (by omega) (by omega), xw_sm (x := σ 0 14) (by omega) (by omega), if_pos (by omega), g1]
    simp only [xbp_s, xbd_s, xls, xli, xlt, xjn]
    rw [show xhm m cd (xday (σ 5 1) (σ 6) day) (xday (σ 7 1) (σ 8) day) day gun (σ 18 i) = xhh m cd σ gun day i from rfl, xw_sm (by omega) (by omega), xw_sm (by omega) (by omega), show ((i : Int) + 1) = ((i + 1 : Nat) : Int) by omega]
    rfl
theorem middle_loopM {m : Int} {cd : Int → Int} {day : Int} {σ s0 : xW} {k : Int → Int → Int → xW → Option (Int × xW)} (h : Xmw m cd σ s0) (h8 : ∀ i, 0 ≤ σ 8 i ∧ σ 8 i ≤ 9) :
    ∀ (j i : Nat) (s : xW) (f : Nat) (gun : Int), i + j = 100 → j < f → Xml m cd σ gun day s0 s → ∃ s' gun', F_X11_middle_27 f (xbs (xla m cd σ day) i).2 (xbs (xla m cd σ day) i).1 i s k = k (xbs (xla m cd σ day) 100).2 (xbs (xla m cd σ day) 100).1 100 s' ∧ Xml m cd σ gun' day s0 s' := by
  have hp : ∀ k : Nat, 0 ≤ xla m cd σ day k ∧ xla m cd σ day k ≤ 1000 := fun k => xla_r h8 _ _
  have hnh := h.2.1
  intro j
  induction j with
  | zero =>
    intro i s f gun hi hf e
    obtain ⟨f, rfl⟩ : ∃ f', f = f' + 1 := ⟨f - 1, by omega⟩
    obtain rfl : i = 100 := by omega
    refine ⟨s, gun, ?_, e⟩
    unfold F_X11_middle_27
    rw [xw_sm (by omega) (by omega), if_neg (by omega)]
    rfl
  | succ j ih =>
    intro i s f gun hi hf e
    obtain ⟨f, rfl⟩ : ∃ f', f = f' + 1 := ⟨f - 1, by omega⟩
    generalize hs1 : xu (xu s 128 32 ((i : Int) / 10)) 128 33 ((i : Int) % 10) = s1
    have e1 : Xml m cd σ i day s0 s1 := by
      refine ⟨fun c c1 c2 c3 c4 => by rw [← hs1, xu_row _ _ _ c4, xu_row _ _ _ c4]; exact e.1 c c1 c2 c3 c4, ?_⟩
      refine Xmr_gun e.2 (by omega) (fun x x1 x2 => by rw [← hs1, xu_slot _ _ _ x2, xu_slot _ _ _ x1]) (by rw [← hs1]; simp [xu]) (by rw [← hs1, xu_same]) ⟨h.2.1.2, h.2.2.1.2⟩
    have hr := xbs_r (p := xla m cd σ day) hp i
    have hpi := hp i
    obtain ⟨s2, g1, g3⟩ := middle_loopM1 (a := (xbs (xla m cd σ day) i).2) (b := (xbs (xla m cd σ day) i).1) (c0 := (i : Int)) (k := fun (l4_28 : Int) (l5_29 : Int) (s30 : xW) => xli (if (xw l4_28) < (xw (xbs (xla m cd σ day) i).1) then (i : Int) else (xbs (xla m cd σ day) i).2) fun v32 => F_X11_middle_27 f v32 (min (xw (xbs (xla m cd σ day) i).1) (xw l4_28)) ((i : Int) + 1) s30 k) h h8 (σ 0 14).toNat 0 s1 xN (by omega) (by have := xN_ge; omega) e1
    obtain ⟨s3, gun', k1, k2⟩ := ih (i + 1) s2 f i (by omega) (by omega) g3
    refine ⟨s3, gun', ?_, k2⟩
    rw [← k1, F_X11_middle_27, xw_sm (x := (i : Int)) (by omega) (by omega), if_pos (by omega), Int.tdiv_eq_ediv_of_nonneg (by omega), Int.tmod_eq_emod_of_nonneg (by omega)]
    simp only [xbp_s, xbd_s, xls, xli, xlt, xjn]
    rw [hs1]
    refine Eq.trans g1 ?_
    simp only [xbp_s, xbd_s, xls, xli, xlt, xjn]
    rw [xw_sm (x := xla m cd σ day i) (by omega) (by omega), xw_sm (x := (xbs (xla m cd σ day) i).1) (by omega) (by omega), show ((i : Int) + 1) = ((i + 1 : Nat) : Int) by omega]
    rw [show xbs (xla m cd σ day) (i + 1) = if xla m cd σ day i < (xbs (xla m cd σ day) i).1 then (xla m cd σ day i, (i : Int)) else xbs (xla m cd σ day) i from rfl]
    by_cases q : xla m cd σ day i < (xbs (xla m cd σ day) i).1
    · rw [if_pos q, if_pos q, show min (xbs (xla m cd σ day) i).1 (xla m cd σ day i) = xla m cd σ day i by omega]
    · rw [if_neg q, if_neg q, show min (xbs (xla m cd σ day) i).1 (xla m cd σ day i) = (xbs (xla m cd σ day) i).1 by omega]
theorem op_middle : XO F_X10_middle F_X11_middle := by
  intro B σ τ hB hB1 h
  have hcw := XR_cw h
  obtain ⟨h1, h2, h3, h4, h5, h6, h7, h8, h9, h10⟩ := id h
  have hday := h6.1.1.2.2.2.2.2
  have hnh := h5.1
  have e3 : xu τ 121 0 0 121 3 = σ 0 14 := by rw [xu_slot _ _ _ (by decide)]; exact h5.2.1
  by_cases q0 : σ 0 14 = 0
  · refine ⟨-2, σ, xu τ 121 0 0, ?_, ?_, XR_mono (by omega) (XR_thr h)⟩
    · unfold F_X10_middle
      rw [q0]
      rfl
    · unfold F_X11_middle
      simp only [xbp_s, xbd_s, xls, xli, xlt, xjn]
      rw [e3, q0]
      rfl
  · obtain ⟨s4, c1, c2, c3, c4, c5, c6⟩ := copies_d hB1 h
    have hr := xbs_r (p := xla (τ 121 23) (τ 131) σ (σ 17 5)) (fun k => xla_r h3.2.2.1 _ _) 100
    have hr3 := hr.2.2 (by decide)
    obtain ⟨s1, g1, g2⟩ := middle_loopC (k := fun (l1_26 : Int) (l2_27 : Int) (l3_28 : Int) (s29 : xW) => xbp (F_X6_tell_ (xw (Int.tdiv (xw l2_27) 10)) (xw (Int.tmod (xw l2_27) 10)) s29) fun s31 => some (l1_26, s31)) hcw (by omega) 100 0 σ xN (by omega) (by have := xN_ge; omega) (fun c _ => rfl)
    obtain ⟨t2, gun', k1, k2⟩ := middle_loopM (k := fun (l1_39 : Int) (l2_40 : Int) (l3_41 : Int) (s42 : xW) => xls (xu s42 121 1 0) fun s43 => xbp (F_X11_enters (xw (Int.tdiv (xw l1_39) 10)) s43) fun s46 => xbp (F_X11_enters (xw (Int.tmod (xw l1_39) 10)) s46) fun s48 => some (l2_40, s48)) c3 h3.2.2.1 100 0 s4 xN (σ 17 0) (by omega) (by have := xN_ge; omega) c2
    generalize xbs (xla (τ 121 23) (τ 131) σ (σ 17 5)) 100 = Q at *
    obtain ⟨q1, q2⟩ := Q
    simp only [] at g1 k1 hr hr3
    have eC : F_X10_middle σ = some (q1, xt2 s1 (q2 / 10) (q2 % 10)) := by
      unfold F_X10_middle
      rw [xw_sm (by omega) (by omega), if_neg q0]
      refine Eq.trans g1 ?_
      rw [xw_sm (x := q2) (by omega) (by omega), Int.tdiv_eq_ediv_of_nonneg hr3.1, Int.tmod_eq_emod_of_nonneg hr3.1, xw_sm (by omega) (by omega), xw_sm (by omega) (by omega), tell_2]
      rfl
    have eM : F_X11_middle τ = some (q1, xe2 t2 (q2 / 10) (q2 % 10)) := by
      unfold F_X11_middle
      simp only [xbp_s, xbd_s, xls, xli, xlt, xjn]
      rw [e3, xw_sm (by omega) (by omega), if_neg q0, c1]
      simp only [xbp_s, xbd_s, xls, xli, xlt, xjn]
      refine Eq.trans k1 ?_
      simp only [xbp_s, xbd_s, xls, xli, xlt, xjn]
      rw [xw_sm (x := q2) (by omega) (by omega), Int.tdiv_eq_ediv_of_nonneg hr3.1, Int.tmod_eq_emod_of_nonneg hr3.1, xw_sm (by omega) (by omega), xw_sm (by omega) (by omega), ent_1]
      simp only [xbp_s, xbd_s, xls, xli, xlt, xjn]
      rw [ent_2]
      rfl
    refine ⟨_, _, _, eC, eM, XR_W (fr_X10_middle eC) (by decide +kernel) (fr_X11_middle eM) (by decide +kernel) h (Xrow_2 (a := q2 / 10) (b := q2 % 10) rfl (by simp [xt2, xt1, xu]) rfl (by simp [xe2, xe1, xu]))⟩
