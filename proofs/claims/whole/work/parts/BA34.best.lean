/-- the least of p over places, and the first place that has it -/
def xbs (p : Int → Int) : Nat → Int × Int
  | 0 => (1000000, -1)
  | k + 1 => if p k < (xbs p k).1 then (p k, (k : Int)) else xbs p k
theorem xbs_r {p : Int → Int} (hp : ∀ k : Nat, 0 ≤ p k ∧ p k ≤ 1000) : ∀ k : Nat, (0 ≤ (xbs p k).1 ∧ (xbs p k).1 ≤ 1000000) ∧ (-1 ≤ (xbs p k).2 ∧ (xbs p k).2 < k) ∧ (0 < k → 0 ≤ (xbs p k).2 ∧ (xbs p k).1 ≤ 1000)
  | 0 => ⟨(by decide : (0 : Int) ≤ 1000000 ∧ (1000000 : Int) ≤ 1000000), (by decide : (-1 : Int) ≤ -1 ∧ (-1 : Int) < ((0 : Nat) : Int)), fun z => by omega⟩
  | k + 1 => by
    obtain ⟨h1, h2, h3⟩ := xbs_r hp k
    have h4 := hp k
    unfold xbs
    by_cases q : p k < (xbs p k).1
    · rw [if_pos q]
      refine ⟨⟨h4.1, by show p k ≤ 1000000; omega⟩, ⟨by show -1 ≤ (k : Int); omega, by show (k : Int) < ((k + 1 : Nat) : Int); omega⟩, fun _ => ⟨by show 0 ≤ (k : Int); omega, h4.2⟩⟩
    · rw [if_neg q]
      have hk : 0 < k := by
        rcases Nat.eq_zero_or_pos k with rfl | z
        · exfalso; apply q; show p ((0 : Nat) : Int) < 1000000; omega
        · exact z
      exact ⟨h1, ⟨h2.1, by omega⟩, fun _ => h3 hk⟩
/-- the class begins with 0, the reference with a million -/
def xbc0 (p : Int → Int) (k : Nat) : Int := if k = 0 then 0 else (xbs p k).1
theorem best_loopC {m : Int} {cd : Int → Int} {σ : xW} {k : Int → Int → Int → xW → Option (Int × xW)} (h : Xcw m cd (σ 0 4) σ) (hday : 0 ≤ σ 17 5 ∧ σ 17 5 ≤ 1000000) :
    ∀ (j i : Nat) (s : xW) (f : Nat), i + j = 100 → j < f → (∀ c, Xcc c → s c = σ c) → ∃ s', F_X10_best_6 f (xbc0 (fun g => xpr m cd σ g (σ 17 5)) i) (xbs (fun g => xpr m cd σ g (σ 17 5)) i).2 i s k = k (xbs (fun g => xpr m cd σ g (σ 17 5)) 100).1 (xbs (fun g => xpr m cd σ g (σ 17 5)) 100).2 100 s' ∧ (∀ c, Xcc c → s' c = σ c) := by
  have hp : ∀ k : Nat, 0 ≤ xpr m cd σ k (σ 17 5) ∧ xpr m cd σ k (σ 17 5) ≤ 1000 := fun k => by have := xpr_r m cd σ k (σ 17 5) h.2.2.2.2.2.2.1; omega
  have hRu : σ 0 4 ∈ xRules := by rcases h.1 with a | a <;> rw [a] <;> decide
  intro j
  induction j with
  | zero =>
    intro i s f hi hf e
    obtain ⟨f, rfl⟩ : ∃ f', f = f' + 1 := ⟨f - 1, by omega⟩
    refine ⟨s, ?_, e⟩
    obtain rfl : i = 100 := by omega
    unfold F_X10_best_6
    rw [xw_sm (by omega) (by omega), if_neg (by omega)]
    rfl
  | succ j ih =>
    intro i s f hi hf e
    obtain ⟨f, rfl⟩ : ∃ f', f = f' + 1 := ⟨f - 1, by omega⟩
    have e0 : s 0 = σ 0 := e 0 (by unfold Xcc; omega)
    have e17 : s 17 = σ 17 := e 17 (by unfold Xcc; omega)
    obtain ⟨s1, g1, g2⟩ := planFor_d (gun := i) (day := σ 17 5) (s := s) (Xcw_e h e) (by omega) (by omega)
    have g3 := pairs_d h.1 (by rw [e 92 (by unfold Xcc; omega)]; exact h.2.2.2.2.2.2.1) g2
    rw [xpr_same (Xsame_e e)] at g3
    obtain ⟨s2, k1, k2⟩ := ih (i + 1) s1 f (by omega) (by omega) (fun c hc => by rw [Xpf_e h.1 g2 c hc, e c hc])
    refine ⟨s2, ?_, k2⟩
    have hr := xbs_r (p := fun g => xpr m cd σ g (σ 17 5)) hp i
    have hpi := hp i
    rw [← k1, F_X10_best_6, e0, e17, xw_sm (x := (i : Int)) (by omega) (by omega), if_pos (by omega), xgd_t hRu, g1]
    simp only [xbp_s, xbd_s, xls, xli, xlt, xjn]
    rw [g3]
    simp only [xbp_s, xbd_s, xls, xli, xlt, xjn]
    have hb0 : 0 ≤ xbc0 (fun g => xpr m cd σ g (σ 17 5)) i ∧ xbc0 (fun g => xpr m cd σ g (σ 17 5)) i ≤ 1000000 := by unfold xbc0; split <;> omega
    have en : xbc0 (fun g => xpr m cd σ g (σ 17 5)) (i + 1) = (xbs (fun g => xpr m cd σ g (σ 17 5)) (i + 1)).1 := by unfold xbc0; rw [if_neg (by omega)]
    rw [xw_sm (x := (xbs (fun g => xpr m cd σ g (σ 17 5)) i).2) (by omega) (by omega), xw_sm (x := xpr m cd σ i (σ 17 5)) (by omega) (by omega), xw_sm (x := xbc0 (fun g => xpr m cd σ g (σ 17 5)) i) (by omega) (by omega), en, show ((i : Int) + 1) = ((i + 1 : Nat) : Int) by omega]
    rw [show xbs (fun g => xpr m cd σ g (σ 17 5)) (i + 1) = if xpr m cd σ i (σ 17 5) < (xbs (fun g => xpr m cd σ g (σ 17 5)) i).1 then (xpr m cd σ i (σ 17 5), (i : Int)) else xbs (fun g => xpr m cd σ g (σ 17 5)) i from rfl]
    by_cases hi0 : i = 0
    · subst hi0
      rw [if_neg (fun z => z rfl), if_pos (by show xpr m cd σ ((0 : Nat) : Int) (σ 17 5) < 1000000; omega)]
    · have h3 := hr.2.2 (by omega)
      have eb : xbc0 (fun g => xpr m cd σ g (σ 17 5)) i = (xbs (fun g => xpr m cd σ g (σ 17 5)) i).1 := by unfold xbc0; rw [if_neg hi0]
      rw [if_pos (by omega), eb]
      by_cases q : xpr m cd σ i (σ 17 5) < (xbs (fun g => xpr m cd σ g (σ 17 5)) i).1
      · rw [if_pos q, if_pos q]
      · rw [if_neg q, if_neg q]
theorem Xmr_gun {σ : xW} {gun day g : Int} {r r' : Int → Int} (h : Xmr σ gun day r) (hg : 0 ≤ g ∧ g ≤ 99) (e : ∀ x : Int, x ≠ 32 → x ≠ 33 → r' x = r x) (e2 : r' 32 = g / 10) (e3 : r' 33 = g % 10) (hn : σ 0 14 ≤ 8 ∧ σ 92 0 ≤ 8) : Xmr σ g day r' := by
  obtain ⟨⟨a1, a2, a3, a4, a5, a6⟩, b, c, d, f⟩ := h
  refine ⟨⟨?_, ?_, ?_, ?_, ?_, fun h x y => ?_⟩, ?_, ?_, fun h x y => ?_, fun d x y => ?_⟩
  · rw [e2]; omega
  · rw [e3]; omega
  · rw [e 34 (by decide) (by decide)]; exact a3
  · rw [e 35 (by decide) (by decide)]; exact a4
  · rw [e 39 (by decide) (by decide)]; exact a5
  · rw [e h (by omega) (by omega), e (8 + h) (by omega) (by omega)]; exact a6 h x y
  · rw [e2, e3]; omega
  · rw [e 39 (by decide) (by decide)]; exact c
  · rw [e h (by omega) (by omega), e (8 + h) (by omega) (by omega)]; exact d h x y
  · rw [e (24 + d) (by omega) (by omega)]; exact f d x y
theorem best_loopM {m : Int} {cd : Int → Int} {day v : Int} {σ s0 : xW} {k : Int → Int → Int → xW → Option (Int × xW)} (h : Xmw m cd σ s0) (hdy : day ≤ 1999999) :
    ∀ (j i : Nat) (s : xW) (f : Nat) (gun : Int), i + j = 100 → j < f → Xml m cd σ gun day s0 s → ∃ s' gun', F_X11_best_27 v f (xbs (fun g => xpr m cd σ g day) i).2 (xbs (fun g => xpr m cd σ g day) i).1 i s k = k (xbs (fun g => xpr m cd σ g day) 100).2 (xbs (fun g => xpr m cd σ g day) 100).1 100 s' ∧ Xml m cd σ gun' day s0 s' := by
  have hp : ∀ k : Nat, 0 ≤ xpr m cd σ k day ∧ xpr m cd σ k day ≤ 1000 := fun k => by have := xpr_r m cd σ k day h.2.2.1; omega
  intro j
  induction j with
  | zero =>
    intro i s f gun hi hf e
    obtain ⟨f, rfl⟩ : ∃ f', f = f' + 1 := ⟨f - 1, by omega⟩
    obtain rfl : i = 100 := by omega
    refine ⟨s, gun, ?_, e⟩
    unfold F_X11_best_27
    rw [xw_sm (by omega) (by omega), if_neg (by omega)]
    rfl
  | succ j ih =>
    intro i s f gun hi hf e
    obtain ⟨f, rfl⟩ : ∃ f', f = f' + 1 := ⟨f - 1, by omega⟩
    have hday := e.2.1.2.2.2.2.1
    have hda := e.2.2.2.1
    generalize hs1 : xu (xu s 128 32 ((i : Int) / 10)) 128 33 ((i : Int) % 10) = s1
    have e1 : Xml m cd σ i day s0 s1 := by
      refine ⟨fun c c1 c2 c3 c4 => by rw [← hs1, xu_row _ _ _ c4, xu_row _ _ _ c4]; exact e.1 c c1 c2 c3 c4, ?_⟩
      refine Xmr_gun e.2 (by omega) (fun x x1 x2 => by rw [← hs1, xu_slot _ _ _ x2, xu_slot _ _ _ x1]) (by rw [← hs1]; simp [xu]) (by rw [← hs1, xu_same]) ⟨h.2.1.2, h.2.2.1.2⟩
    obtain ⟨s2, g1, -, g3⟩ := con_l h e1 hdy
    obtain ⟨s3, gun', k1, k2⟩ := ih (i + 1) s2 f i (by omega) (by omega) g3
    refine ⟨s3, gun', ?_, k2⟩
    have hr := xbs_r (p := fun g => xpr m cd σ g day) hp i
    have hpi := hp i
    rw [← k1, F_X11_best_27, xw_sm (x := (i : Int)) (by omega) (by omega), if_pos (by omega), Int.tdiv_eq_ediv_of_nonneg (by omega), Int.tmod_eq_emod_of_nonneg (by omega)]
    simp only [xbp_s, xbd_s, xls, xli, xlt, xjn]
    rw [hs1, g1]
    simp only [xbp_s, xbd_s, xls, xli, xlt, xjn]
    rw [xw_sm (x := xpr m cd σ i day) (by omega) (by omega), xw_sm (x := (xbs (fun g => xpr m cd σ g day) i).1) (by omega) (by omega), show ((i : Int) + 1) = ((i + 1 : Nat) : Int) by omega]
    rw [show xbs (fun g => xpr m cd σ g day) (i + 1) = if xpr m cd σ i day < (xbs (fun g => xpr m cd σ g day) i).1 then (xpr m cd σ i day, (i : Int)) else xbs (fun g => xpr m cd σ g day) i from rfl]
    by_cases q : xpr m cd σ i day < (xbs (fun g => xpr m cd σ g day) i).1
    · rw [if_pos q, if_pos q, show min (xbs (fun g => xpr m cd σ g day) i).1 (xpr m cd σ i day) = xpr m cd σ i day by omega]
    · rw [if_neg q, if_neg q, show min (xbs (fun g => xpr m cd σ g day) i).1 (xpr m cd σ i day) = (xbs (fun g => xpr m cd σ g day) i).1 by omega]
theorem op_best : XO F_X10_best F_X11_best := by
  intro B σ τ hB hB1 h
  have hcw := XR_cw h
  have hmw := XR_mw h
  have hmr := XR_mr hB1 h
  obtain ⟨h1, h2, h3, h4, h5, h6, h7, h8, h9, h10⟩ := id h
  have hday := h6.1.1.2.2.2.2.2
  have hgun := h6.1.1.1
  have hnd := h5.2.2.1
  have hr := xbs_r (p := fun g => xpr (τ 121 23) (τ 131) σ g (σ 17 5)) (fun k => by have := xpr_r (τ 121 23) (τ 131) σ k (σ 17 5) hnd; omega) 100
  have hr3 := hr.2.2 (by decide)
  have hpt := xpr_r (τ 121 23) (τ 131) σ (σ 17 0) (σ 17 5) hnd
  obtain ⟨s1, g1, g2⟩ := best_loopC (k := fun (l1_25 : Int) (l2_26 : Int) (l3_27 : Int) (s28 : xW) => xbd (F_X10_pairsOn (s28 17 5) s28) fun r30 s31 => xbp (F_X6_tell__ (xw (Int.tdiv (xw l2_26) 10)) (xw (Int.tmod (xw l2_26) 10)) (xw r30) s31) fun s33 => some (l1_25, s33)) hcw (by omega) 100 0 σ xN (by omega) (by have := xN_ge; omega) (fun c _ => rfl)
  obtain ⟨s2, b1, b2, -, -⟩ := pairsOn_e (day := σ 17 5) hcw g2 hgun (by omega)
  have hmw1 : Xmw (τ 121 23) (τ 131) σ (xu τ 121 0 0) := Xmw_c hmw (fun c hc => xu_row _ _ _ (by omega)) (fun k hk => xu_slot _ _ _ (by omega))
  obtain ⟨t5, c1, c2⟩ := con_d (r := 127) hmw1 (Or.inl rfl) (by rw [xu_row _ _ _ (by decide)]; exact hmr)
  obtain ⟨arr, d1, d2⟩ := copies_m (s := t5)
  have t127 : t5 127 = τ 127 := by rw [c2 127 (by decide) (by decide) (by decide), xu_row _ _ _ (by decide)]
  have hmw7 : Xmw (τ 121 23) (τ 131) σ (xrow t5 128 arr) := Xmw_c hmw1 (fun c hc => by rw [xrow_o (by omega), c2 c (by omega) (by omega) (by omega)]) (fun k hk => by rw [xrow_o (by decide), c2 121 (by decide) (by decide) (by decide)])
  have hml : Xml (τ 121 23) (τ 131) σ (σ 17 0) (σ 17 5) (xrow t5 128 arr) (xrow t5 128 arr) := by
    refine ⟨fun c _ _ _ _ => rfl, ?_⟩
    rw [xrow_s]
    exact Xmr_cp ⟨h5.1, hnd⟩ hmr (fun x y z => by rw [d1 x y z, t127])
  obtain ⟨t2, gun', k1, k2⟩ := best_loopM (v := xpr (τ 121 23) (τ 131) σ (σ 17 0) (σ 17 5)) (k := fun (l2_29 : Int) (l3_30 : Int) (l4_31 : Int) (s32 : xW) => xls (xu s32 121 1 0) fun s33 => xbp (F_X11_enters (xw (Int.tdiv (xw l2_29) 10)) s33) fun s36 => xbp (F_X11_enters (xw (Int.tmod (xw l2_29) 10)) s36) fun s38 => xbp (F_X11_enters (xw (xpr (τ 121 23) (τ 131) σ (σ 17 0) (σ 17 5))) s38) fun s40 => some (l3_30, s40)) hmw7 (by omega) 100 0 (xrow t5 128 arr) xN (σ 17 0) (by omega) (by have := xN_ge; omega) hml
  generalize xbs (fun g => xpr (τ 121 23) (τ 131) σ g (σ 17 5)) 100 = Q at *
  obtain ⟨q1, q2⟩ := Q
  simp only [] at g1 k1 hr hr3
  generalize hpp : xpr (τ 121 23) (τ 131) σ (σ 17 0) (σ 17 5) = P at *
  have eC : F_X10_best σ = some (q1, xt3 s2 (q2 / 10) (q2 % 10) P) := by
    unfold F_X10_best
    refine Eq.trans g1 ?_
    rw [g2 17 (by unfold Xcc; omega), b1]
    simp only [xbp_s, xbd_s, xls, xli, xlt, xjn]
    rw [xw_sm (x := q2) (by omega) (by omega), Int.tdiv_eq_ediv_of_nonneg hr3.1, Int.tmod_eq_emod_of_nonneg hr3.1, xw_sm (by omega) (by omega), xw_sm (by omega) (by omega), xw_sm (by omega) (by omega), tell_3]
    rfl
  have eM : F_X11_best τ = some (q1, xe3 t2 (q2 / 10) (q2 % 10) P) := by
    unfold F_X11_best
    simp only [xbp_s, xbd_s, xls, xli, xlt, xjn]
    rw [c1]
    simp only [xbp_s, xbd_s, xls, xli, xlt, xjn]
    rw [d2]
    simp only [xbp_s, xbd_s, xls, xli, xlt, xjn]
    refine Eq.trans k1 ?_
    simp only [xbp_s, xbd_s, xls, xli, xlt, xjn]
    rw [xw_sm (x := q2) (by omega) (by omega), Int.tdiv_eq_ediv_of_nonneg hr3.1, Int.tmod_eq_emod_of_nonneg hr3.1, xw_sm (by omega) (by omega), xw_sm (by omega) (by omega), xw_sm (by omega) (by omega), ent_1]
    simp only [xbp_s, xbd_s, xls, xli, xlt, xjn]
    rw [ent_2]
    simp only [xbp_s, xbd_s, xls, xli, xlt, xjn]
    rw [ent_3]
    rfl
  refine ⟨_, _, _, eC, eM, XR_W (fr_X10_best eC) (by decide +kernel) (fr_X11_best eM) (by decide +kernel) h (Xrow_3 (a := q2 / 10) (b := q2 % 10) (c := P) rfl (by simp [xt3, xt2, xt1, xu]) rfl (by simp [xe3, xe2, xe1, xu]))⟩
