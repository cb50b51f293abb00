/-! lasts, quiet: days one behind the other -/
theorem pairsOn_e {m : Int} {cd : Int → Int} {day : Int} {σ s : xW} (h : Xcw m cd (σ 0 4) σ) (e : ∀ c, Xcc c → s c = σ c) (hg : 0 ≤ σ 17 0 ∧ σ 17 0 ≤ 99) (hday : 0 ≤ day ∧ day ≤ 2000000) : ∃ s1, F_X10_pairsOn day s = some (xpr m cd σ (σ 17 0) day, s1) ∧ (∀ c, Xcc c → s1 c = σ c) ∧ s1 3 = s 3 ∧ s1 4 = s 4 := by
  have hr := h.1
  have e0 : s 0 = σ 0 := e 0 (by unfold Xcc; omega)
  have e17 : s 17 = σ 17 := e 17 (by unfold Xcc; omega)
  obtain ⟨s1, g1, g2⟩ := pairsOn_c (m := m) (cd := cd) (day := day) (s := s) (by rw [e0]; exact Xcw_e h e) (by rw [e17]; exact hg) hday
  rw [e17, xpr_same (Xsame_e e)] at g1
  rw [e0] at g2
  refine ⟨s1, g1, fun c hc => ?_, g2.1 3 (by decide) (by decide) (by omega) (by decide) (by decide), g2.1 4 (by decide) (by decide) (by omega) (by decide) (by decide)⟩
  rw [Xpf_e h.1 g2 c hc, e c hc]
theorem lasts_loopC {m : Int} {cd : Int → Int} {σ : xW} {k : Int → Int → xW → Option (Int × xW)} (h : Xcw m cd (σ 0 4) σ) (hg : 0 ≤ σ 17 0 ∧ σ 17 0 ≤ 99) (hday : 0 ≤ σ 17 5 ∧ σ 17 5 ≤ 1000000) (hp : 0 ≤ σ 17 2 ∧ σ 17 2 ≤ 99) :
    ∀ (j i : Nat) (s : xW) (f : Nat), (i : Int) + j = σ 17 2 → j < f → (∀ c, Xcc c → s c = σ c) → ∃ s', F_X10_lasts_4 f (xsum (fun n => xpr m cd σ (σ 17 0) (σ 17 5 + n)) i) i s k = k (xsum (fun n => xpr m cd σ (σ 17 0) (σ 17 5 + n)) (σ 17 2).toNat) (σ 17 2) s' ∧ (∀ c, Xcc c → s' c = σ c) := by
  intro j
  induction j with
  | zero =>
    intro i s f hi hf e
    obtain ⟨f, rfl⟩ : ∃ f', f = f' + 1 := ⟨f - 1, by omega⟩
    refine ⟨s, ?_, e⟩
    unfold F_X10_lasts_4
    rw [e 17 (by unfold Xcc; omega), xw_sm (by omega) (by omega), xw_sm (by omega) (by omega), if_neg (by omega)]
    rw [show σ 17 2 = (i : Int) by omega, show ((i : Int)).toNat = i by omega]
  | succ j ih =>
    intro i s f hi hf e
    obtain ⟨f, rfl⟩ : ∃ f', f = f' + 1 := ⟨f - 1, by omega⟩
    obtain ⟨s1, g1, g2, -⟩ := pairsOn_e (day := σ 17 5 + i) h e hg (by omega)
    unfold F_X10_lasts_4
    rw [e 17 (by unfold Xcc; omega), xw_sm (by omega) (by omega), xw_sm (by omega) (by omega), if_pos (by omega), g1]
    simp only [xbp_s, xbd_s, xls, xli, xlt, xjn]
    rw [show ((i : Int) + 1) = ((i + 1 : Nat) : Int) by omega]
    exact ih (i + 1) s1 f (by omega) (by omega) g2
/-- the reference's world in the midst of such a loop: then is the town on day -/
def Xml (m : Int) (cd : Int → Int) (σ : xW) (gun day : Int) (s0 s : xW) : Prop := (∀ c, c ≠ 133 → c ≠ 134 → c ≠ 135 → c ≠ 128 → s c = s0 c) ∧ Xmr σ gun day (s 128)
theorem con_l {m : Int} {cd : Int → Int} {gun day : Int} {σ s0 s : xW} (h : Xmw m cd σ s0) (hL : Xml m cd σ gun day s0 s) (hday : day ≤ 1999999) : ∃ s1, F_X11_clashesOn 128 s = some (xpr m cd σ gun day, s1) ∧ Xml m cd σ gun (day + 1) s0 (xu s1 128 39 (s1 128 39 + 1)) ∧ Xml m cd σ gun day s0 s1 := by
  obtain ⟨e, hR⟩ := hL
  obtain ⟨s1, g1, g2⟩ := con_d (r := 128) (Xmw_c h (fun c hc => e c (by omega) (by omega) (by omega) (by omega)) (fun k hk => by rw [e 121 (by decide) (by decide) (by decide) (by decide)])) (Or.inr rfl) hR
  have e128 : s1 128 = s 128 := g2 128 (by decide) (by decide) (by decide)
  refine ⟨s1, g1, ⟨fun c c1 c2 c3 c4 => ?_, ?_⟩, ⟨fun c c1 c2 c3 c4 => ?_, ?_⟩⟩
  · rw [xu_row _ _ _ c4, g2 c c1 c2 c3, e c c1 c2 c3 c4]
  · have h39 := hR.2.2.1
    have hd := hR.1.2.2.2.2.1
    refine Xmr_day hR (by omega) (fun x hx => by rw [xu_slot _ _ _ hx, e128]) (by rw [xu_same, e128, h39]) ⟨h.2.1.2, h.2.2.1.2⟩
  · rw [g2 c c1 c2 c3, e c c1 c2 c3 c4]
  · rw [e128]; exact hR
theorem lasts_loopM {m : Int} {cd : Int → Int} {gun day p : Int} {σ s0 : xW} {k : Int → Int → xW → Option (Int × xW)} (h : Xmw m cd σ s0) (hday : 0 ≤ day ∧ day ≤ 1000000) (hp : 0 ≤ p ∧ p ≤ 99) (e0 : s0 127 36 = p) :
    ∀ (j i : Nat) (s : xW) (f : Nat), (i : Int) + j = p → j < f → Xml m cd σ gun (day + i) s0 s → ∃ s', F_X11_lasts_13 f (xsum (fun n => xpr m cd σ gun (day + n)) i) i s k = k (xsum (fun n => xpr m cd σ gun (day + n)) p.toNat) p s' ∧ Xml m cd σ gun (day + p) s0 s' := by
  intro j
  induction j with
  | zero =>
    intro i s f hi hf e
    obtain ⟨f, rfl⟩ : ∃ f', f = f' + 1 := ⟨f - 1, by omega⟩
    refine ⟨s, ?_, by rw [show p = (i : Int) by omega]; exact e⟩
    unfold F_X11_lasts_13
    rw [e.1 127 (by decide) (by decide) (by decide) (by decide), e0, xw_sm (by omega) (by omega), xw_sm (by omega) (by omega), if_neg (by omega)]
    rw [show p = (i : Int) by omega, show ((i : Int)).toNat = i by omega]
  | succ j ih =>
    intro i s f hi hf e
    obtain ⟨f, rfl⟩ : ∃ f', f = f' + 1 := ⟨f - 1, by omega⟩
    obtain ⟨s1, g1, g2, -⟩ := con_l h e (by omega)
    unfold F_X11_lasts_13
    rw [e.1 127 (by decide) (by decide) (by decide) (by decide), e0, xw_sm (by omega) (by omega), xw_sm (by omega) (by omega), if_pos (by omega), g1]
    simp only [xbp_s, xbd_s, xls, xli, xlt, xjn]
    rw [show ((i : Int) + 1) = ((i + 1 : Nat) : Int) by omega]
    exact ih (i + 1) _ f (by omega) (by omega) (by rw [show day + ((i + 1 : Nat) : Int) = day + i + 1 by omega]; exact g2)
/-- the reference, then as now -/
theorem copies_d {B : Int} {σ τ : xW} (hB1 : B ≤ 1000000) (h : XR B σ τ) : ∃ s4, F_X11_copies (xu τ 121 0 0) = some s4 ∧ Xml (τ 121 23) (τ 131) σ (σ 17 0) (σ 17 5) s4 s4 ∧ Xmw (τ 121 23) (τ 131) σ s4 ∧ (∀ c, c ≠ 121 → c ≠ 128 → s4 c = τ c) ∧ (∀ k, k ≠ 0 → s4 121 k = τ 121 k) ∧ (∀ x : Int, 0 ≤ x → x < 40 → s4 128 x = τ 127 x) := by
  have hmw := XR_mw h
  have hmr := XR_mr hB1 h
  obtain ⟨arr, c1, c2⟩ := copies_m (s := xu τ 121 0 0)
  have ea : ∀ x : Int, 0 ≤ x → x < 40 → arr x = τ 127 x := fun x y z => by rw [c1 x y z, xu_row _ _ _ (by decide)]
  refine ⟨_, c2, ⟨fun c _ _ _ _ => rfl, ?_⟩, ?_, ?_, ?_, ?_⟩
  · rw [xrow_s]
    exact Xmr_cp ⟨hmw.2.1, hmw.2.2.1⟩ hmr ea
  · exact Xmw_c hmw (fun c hc => by rw [xrow_o (by omega), xu_row _ _ _ (by omega)]) (fun k hk => by rw [xrow_o (by omega), xu_slot _ _ _ (by omega)])
  · intro c x y
    rw [xrow_o y, xu_row _ _ _ x]
  · intro k x
    rw [xrow_o (by decide), xu_slot _ _ _ x]
  · rw [xrow_s]
    exact ea
theorem op_lasts : XO F_X10_lasts F_X11_lasts := by
  intro B σ τ hB hB1 h
  have hcw := XR_cw h
  obtain ⟨h1, h2, h3, h4, h5, h6, h7, h8, h9, h10⟩ := id h
  have hday := h6.1.1.2.2.2.2.2
  have hgun := h6.1.1.1
  have hpow := h6.1.1.2.2.1
  obtain ⟨s4, c1, c2, c3, c4, c5, c6⟩ := copies_d hB1 h
  have hS := xsum_r (f := fun n => xpr (τ 121 23) (τ 131) σ (σ 17 0) (σ 17 5 + n)) (M := 64) (σ 17 2).toNat (fun i _ _ => xpr_r _ _ _ _ _ h5.2.2.1)
  have e36 : s4 127 36 = σ 17 2 := by rw [c4 127 (by decide) (by decide)]; exact h6.2.1.2.2.1.symm
  obtain ⟨s1, g1, g2⟩ := lasts_loopC (k := fun (l1_11 : Int) (l2_12 : Int) (s13 : xW) => xbp (F_X6_tell (xw l1_11) s13) fun s15 => some ((s15 17 2), s15)) hcw hgun (by omega) hpow (σ 17 2).toNat 0 σ xN (by omega) (by have := xN_ge; omega) (fun c _ => rfl)
  obtain ⟨t1, k1, k2⟩ := lasts_loopM (gun := σ 17 0) (day := σ 17 5) (k := fun (l1_17 : Int) (l2_18 : Int) (s19 : xW) => xls (xu s19 121 1 0) fun s20 => xbp (F_X11_enters (xw l1_17) s20) fun s23 => some ((s23 127 36), s23)) c3 (by omega) hpow e36 (σ 17 2).toNat 0 s4 xN (by omega) (by have := xN_ge; omega) (by rw [show σ 17 5 + ((0 : Nat) : Int) = σ 17 5 by omega]; exact c2)
  generalize hsum : xsum (fun n => xpr (τ 121 23) (τ 131) σ (σ 17 0) (σ 17 5 + n)) (σ 17 2).toNat = S at *
  have eC : F_X10_lasts σ = some (σ 17 2, xt1 s1 S) := by
    unfold F_X10_lasts
    refine Eq.trans g1 ?_
    rw [tell_1]
    simp only [xbp_s, xbd_s, xls, xli, xlt, xjn]
    rw [xw_sm (by omega) (by omega), xt1_o (by decide) (by decide), g2 17 (by unfold Xcc; omega)]
  have eM : F_X11_lasts τ = some (σ 17 2, xe1 t1 S) := by
    unfold F_X11_lasts
    simp only [xbp_s, xbd_s, xls, xli, xlt, xjn]
    rw [c1]
    simp only [xbp_s, xbd_s, xls, xli, xlt, xjn]
    refine Eq.trans k1 ?_
    simp only [xbp_s, xbd_s, xls, xli, xlt, xjn]
    rw [xw_sm (by omega) (by omega), ent_1]
    simp only [xbp_s, xbd_s, xls, xli, xlt, xjn]
    rw [xe1_o (by decide) (by decide), k2.1 127 (by decide) (by decide) (by decide) (by decide), e36]
  refine ⟨_, _, _, eC, eM, XR_W (fr_X10_lasts eC) (by decide +kernel) (fr_X11_lasts eM) (by decide +kernel) h (Xrow_1 (a := S) ?_ ?_ ?_ ?_)⟩
  · rfl
  · simp [xt1, xu]
  · rfl
  · simp [xe1, xu]
/-- quiet: the first, how many -/
def xqt (p : Int → Int) : Nat → Int × Int
  | 0 => (-2, 0)
  | k + 1 => if p k = 0 then (if (xqt p k).2 = 0 then (k : Int) else (xqt p k).1, (xqt p k).2 + 1) else xqt p k
theorem xqt_r (p : Int → Int) : ∀ k : Nat, 0 ≤ (xqt p k).2 ∧ (xqt p k).2 ≤ k
  | 0 => by simp [xqt]
  | k + 1 => by
    have h := xqt_r p k
    unfold xqt
    split
    · show 0 ≤ (xqt p k).2 + 1 ∧ (xqt p k).2 + 1 ≤ _
      omega
    · omega
theorem quiet_loopC {m : Int} {cd : Int → Int} {σ : xW} {k : Int → Int → Int → xW → Option (Int × xW)} (h : Xcw m cd (σ 0 4) σ) (hg : 0 ≤ σ 17 0 ∧ σ 17 0 ≤ 99) (hday : 0 ≤ σ 17 5 ∧ σ 17 5 ≤ 1000000) :
    ∀ (j i : Nat) (s : xW) (f : Nat), i + j = 100 → j < f → (∀ c, Xcc c → s c = σ c) → s 3 = σ 3 → s 4 = σ 4 → ∃ s', F_X10_quiet_7 f (xqt (fun n => xpr m cd σ (σ 17 0) (σ 17 5 + n)) i).1 (xqt (fun n => xpr m cd σ (σ 17 0) (σ 17 5 + n)) i).2 i s k = k (xqt (fun n => xpr m cd σ (σ 17 0) (σ 17 5 + n)) 100).1 (xqt (fun n => xpr m cd σ (σ 17 0) (σ 17 5 + n)) 100).2 100 s' ∧ (∀ c, Xcc c → s' c = σ c) ∧ s' 3 = σ 3 ∧ s' 4 = σ 4 := by
  intro j
  induction j with
  | zero =>
    intro i s f hi hf e q3 q4
    obtain ⟨f, rfl⟩ : ∃ f', f = f' + 1 := ⟨f - 1, by omega⟩
    refine ⟨s, ?_, e, q3, q4⟩
    obtain rfl : i = 100 := by omega
    unfold F_X10_quiet_7
    rw [xw_sm (by omega) (by omega), if_neg (by omega)]
    rfl
  | succ j ih =>
    intro i s f hi hf e q3 q4
    obtain ⟨f, rfl⟩ : ∃ f', f = f' + 1 := ⟨f - 1, by omega⟩
    obtain ⟨s1, g1, g2, g3, g4⟩ := pairsOn_e (day := σ 17 5 + i) h e hg (by omega)
    obtain ⟨s2, k1, k2⟩ := ih (i + 1) s1 f (by omega) (by omega) g2 (g3.trans q3) (g4.trans q4)
    refine ⟨s2, ?_, k2⟩
    rw [← k1]
    have hr := xqt_r (fun n => xpr m cd σ (σ 17 0) (σ 17 5 + n)) i
    have hp := xpr_r m cd σ (σ 17 0) (σ 17 5 + i) h.2.2.2.2.2.2.1
    rw [F_X10_quiet_7]
    rw [e 17 (by unfold Xcc; omega), xw_sm (by omega) (by omega), if_pos (by omega), g1]
    simp only [xbp_s, xbd_s, xls, xli, xlt, xjn]
    rw [xw_sm (x := (xqt (fun n => xpr m cd σ (σ 17 0) (σ 17 5 + n)) i).2) (by omega) (by omega), xw_sm (by omega) (by omega), show ((i : Int) + 1) = ((i + 1 : Nat) : Int) by omega]
    rw [xqt]
    by_cases q : xpr m cd σ (σ 17 0) (σ 17 5 + i) = 0
    · rw [if_pos q, if_pos q]
    · rw [if_neg q, if_neg q]
theorem quiet_loopM {m : Int} {cd : Int → Int} {gun day : Int} {σ s0 : xW} {k : Int → Int → Int → xW → Option (Int × xW)} (h : Xmw m cd σ s0) (hday : 0 ≤ day ∧ day ≤ 1000000) :
    ∀ (j i : Nat) (s : xW) (f : Nat), i + j = 100 → j < f → Xml m cd σ gun (day + i) s0 s → ∃ s', F_X11_quiet_16 f (xqt (fun n => xpr m cd σ gun (day + n)) i).1 (xqt (fun n => xpr m cd σ gun (day + n)) i).2 i s k = k (xqt (fun n => xpr m cd σ gun (day + n)) 100).1 (xqt (fun n => xpr m cd σ gun (day + n)) 100).2 100 s' ∧ Xml m cd σ gun (day + 100) s0 s' := by
  intro j
  induction j with
  | zero =>
    intro i s f hi hf e
    obtain ⟨f, rfl⟩ : ∃ f', f = f' + 1 := ⟨f - 1, by omega⟩
    obtain rfl : i = 100 := by omega
    refine ⟨s, ?_, e⟩
    unfold F_X11_quiet_16
    rw [xw_sm (by omega) (by omega), if_neg (by omega)]
    rfl
  | succ j ih =>
    intro i s f hi hf e
    obtain ⟨f, rfl⟩ : ∃ f', f = f' + 1 := ⟨f - 1, by omega⟩
    obtain ⟨s1, g1, g2, -⟩ := con_l h e (by omega)
    obtain ⟨s2, k1, k2⟩ := ih (i + 1) _ f (by omega) (by omega) (by rw [show day + ((i + 1 : Nat) : Int) = day + i + 1 by omega]; exact g2)
    refine ⟨s2, ?_, k2⟩
    rw [← k1]
    have hr := xqt_r (fun n => xpr m cd σ gun (day + n)) i
    have hp := xpr_r m cd σ gun (day + i) h.2.2.1
    rw [F_X11_quiet_16]
    rw [xw_sm (by omega) (by omega), if_pos (by omega), g1]
    simp only [xbp_s, xbd_s, xls, xli, xlt, xjn, flag_m, xif01]
    rw [xw_sm (x := (xqt (fun n => xpr m cd σ gun (day + n)) i).2) (by omega) (by omega), xw_sm (by omega) (by omega), show ((i : Int) + 1) = ((i + 1 : Nat) : Int) by omega]
    rw [xqt]
    by_cases q : xpr m cd σ gun (day + i) = 0
    · simp [q]
    · simp [q]
theorem op_quiet : XO F_X10_quiet F_X11_quiet := by
  intro B σ τ hB hB1 h
  have hcw := XR_cw h
  obtain ⟨h1, h2, h3, h4, h5, h6, h7, h8, h9, h10⟩ := id h
  have hday := h6.1.1.2.2.2.2.2
  have hgun := h6.1.1.1
  obtain ⟨s4, c1, c2, c3, c4, c5, c6⟩ := copies_d hB1 h
  have hr := xqt_r (fun n => xpr (τ 121 23) (τ 131) σ (σ 17 0) (σ 17 5 + n)) 100
  obtain ⟨s1, g1, g2, g3, g4⟩ := quiet_loopC (k := fun (l1_23 : Int) (l2_24 : Int) (l3_25 : Int) (s26 : xW) => xjn (fun (s27 : xW) => some (l1_23, s27)) fun j28 => if 0 < (xw l2_24) then xbp (F_X6_tell (xw l2_24) s26) fun s33 => j28 s33 else j28 s26) hcw hgun (by omega) 100 0 σ xN (by omega) (by have := xN_ge; omega) (fun c _ => rfl) rfl rfl
  obtain ⟨t1, k1, k2⟩ := quiet_loopM (gun := σ 17 0) (day := σ 17 5) (k := fun (l1_30 : Int) (l2_31 : Int) (l3_32 : Int) (s33 : xW) => xjn (fun (s34 : xW) => some (l1_30, s34)) fun j35 => if 0 < (xw l2_31) then xls (xu s33 121 1 0) fun s39 => xbp (F_X11_enters (xw l2_31) s39) fun s42 => j35 s42 else j35 s33) c3 (by omega) 100 0 s4 xN (by omega) (by have := xN_ge; omega) (by rw [show σ 17 5 + ((0 : Nat) : Int) = σ 17 5 by omega]; exact c2)
  generalize xqt (fun n => xpr (τ 121 23) (τ 131) σ (σ 17 0) (σ 17 5 + n)) 100 = Q at *
  obtain ⟨q1, q2⟩ := Q
  simp only [xbp_s, xbd_s, xls, xli, xlt, xjn] at g1 k1 hr
  by_cases hq : 0 < q2
  · have eC : F_X10_quiet σ = some (q1, xt1 s1 q2) := by
      unfold F_X10_quiet
      simp only [xbp_s, xbd_s, xls, xli, xlt, xjn]
      refine Eq.trans g1 ?_
      rw [xw_sm (by omega) (by omega), if_pos hq, tell_1]
      rfl
    have eM : F_X11_quiet τ = some (q1, xe1 t1 q2) := by
      unfold F_X11_quiet
      simp only [xbp_s, xbd_s, xls, xli, xlt, xjn]
      rw [c1]
      simp only [xbp_s, xbd_s, xls, xli, xlt, xjn]
      refine Eq.trans k1 ?_
      rw [xw_sm (by omega) (by omega), if_pos hq, ent_1]
      rfl
    refine ⟨_, _, _, eC, eM, XR_W (fr_X10_quiet eC) (by decide +kernel) (fr_X11_quiet eM) (by decide +kernel) h (Xrow_1 (a := q2) ?_ ?_ ?_ ?_)⟩
    · rfl
    · simp [xt1, xu]
    · rfl
    · simp [xe1, xu]
  · have eC : F_X10_quiet σ = some (q1, s1) := by
      unfold F_X10_quiet
      simp only [xbp_s, xbd_s, xls, xli, xlt, xjn]
      refine Eq.trans g1 ?_
      rw [xw_sm (by omega) (by omega), if_neg hq]
    have eM : F_X11_quiet τ = some (q1, t1) := by
      unfold F_X11_quiet
      simp only [xbp_s, xbd_s, xls, xli, xlt, xjn]
      rw [c1]
      simp only [xbp_s, xbd_s, xls, xli, xlt, xjn]
      refine Eq.trans k1 ?_
      rw [xw_sm (by omega) (by omega), if_neg hq]
    refine ⟨_, _, _, eC, eM, XR_W (fr_X10_quiet eC) (by decide +kernel) (fr_X11_quiet eM) (by decide +kernel) h ?_⟩
    refine Xrow_c (by rw [g3]) g4 (Xrow_m ?_ ?_ h2)
    · rw [k2.1 121 (by decide) (by decide) (by decide) (by decide), c5 1 (by decide)]
    · rw [k2.1 122 (by decide) (by decide) (by decide) (by decide), c4 122 (by decide) (by decide)]
