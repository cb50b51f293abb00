theorem note_o {B : Int} {σ τ : xW} (hR : XR B σ τ) : ∃ σ1, F_X3_note σ = some σ1 ∧ XR B σ1 τ ∧ (∀ c, c < 23 ∨ 86 < c → σ1 c = σ c) := by
  obtain ⟨h1, h2, h3, h4, h5, h6, h7, h8, h9, h10⟩ := id hR
  obtain ⟨p1, p2, p3, p4⟩ := id h7
  have e1 : ∀ c, c < 23 ∨ 86 < c → xtc σ (23 + 4 * σ 21 1) 17 c = σ c := fun c hc => xtc_far (by omega)
  refine ⟨_, note_c p1, ⟨?_, ?_, ?_, ?_, ?_, ?_, ?_, ?_, ?_, ?_⟩, e1⟩
  · exact Xtext_c (by rw [e1 1 (by omega)]) (e1 2 (by omega)) h1
  · exact Xrow_c (by rw [e1 3 (by omega)]) (e1 4 (by omega)) h2
  · exact Xsky_c (by rw [e1 5 (by omega)]) (e1 6 (by omega)) (by rw [e1 7 (by omega)]) (e1 8 (by omega)) h3
  · exact Xrule_c (by rw [e1 0 (by omega)]) (by rw [e1 0 (by omega)]) (fun _ => ⟨by rw [e1 9 (by omega)], e1 10 (by omega)⟩) (fun _ => ⟨by rw [e1 13 (by omega)], e1 14 (by omega)⟩) h4
  · exact Xplan_c (by rw [e1 0 (by omega)]) (by rw [e1 92 (by omega)]) (e1 93 (by omega)) (e1 94 (by omega)) h5
  · exact Xtown_c (by rw [e1 0 (by omega)]) (by rw [e1 92 (by omega)]) (e1 17 (by omega)) (e1 18 (by omega)) (e1 19 (by omega)) (e1 20 (by omega)) h6
  · unfold Xpast
    rw [e1 21 (by omega), e1 0 (by omega), e1 92 (by omega)]
    refine ⟨p1, p2, p3, fun j j1 j2 => ?_⟩
    have ex : xpt (xtc σ (23 + 4 * σ 21 1) 17) j = xpt σ j := by unfold xpt; rw [e1 21 (by omega)]
    have hne := xpt_ne p1 (show 1 ≤ j ∧ j ≤ 15 by omega)
    rw [ex, xtc_far (by omega), xtc_far (by omega), xtc_far (by omega), xtc_far (by omega)]
    exact p4 j j1 j2
  · exact Xkept_c (e1 88 (by omega)) (fun c c1 c2 => e1 c (by omega)) (by rw [e1 0 (by omega)]) (by rw [e1 92 (by omega)]) h8
  · exact Xrep_c (by rw [e1 100 (by omega)]) (e1 101 (by omega)) (e1 102 (by omega)) (by rw [e1 0 (by omega)]) h9
  · exact Xforts_c (by rw [e1 105 (by omega)]) (e1 106 (by omega)) h10
theorem XR_dd {B : Int} {σ τ : xW} (h : XR B σ τ) : Xdd B (τ 121 23) (τ 131) 127 σ τ := ⟨XR_cw h, XR_mw h, h.2.2.2.2.2.1⟩
/-- what may change in both over days -/
def XdM (r : Int) (τ τ1 : xW) : Prop := (∀ c, c ≠ r → c ≠ 121 → c ≠ 133 → c ≠ 134 → c ≠ 135 → τ1 c = τ c) ∧ (∀ k, k ≠ 30 → k ≠ 31 → τ1 121 k = τ 121 k)
theorem pass_loop {B m : Int} {cd : Int → Int} {r n : Int} {σ0 τ0 : xW} {k : Int → Int → Int → xW → Option (Int × xW)} {k' : Int → xW → Option xW} (hB : 0 ≤ B ∧ B ≤ 1999900) (hr : r = 127 ∨ r = 128) (hn : 0 ≤ n ∧ n ≤ 60) :
    ∀ (j i : Nat) (σ τ : xW) (f f' : Nat) (S M : Int), (i : Int) + j = n → j < f → j < f' → Xdd (B + i) m cd r σ τ → Xday σ0 σ → XdM r τ0 τ → τ 121 30 = S → τ 121 31 = M → (0 ≤ S ∧ S ≤ 64 * i) → (0 ≤ M ∧ M ≤ i) →
    ∃ S' M' σ' τ', F_X10_passDays_19 n f S M i σ k = k S' M' n σ' ∧ F_X11_goesOn_12 r n f' i τ k' = k' n τ' ∧ Xdd (B + n) m cd r σ' τ' ∧ Xday σ0 σ' ∧ XdM r τ0 τ' ∧ τ' 121 30 = S' ∧ τ' 121 31 = M' ∧ (0 ≤ S' ∧ S' ≤ 4000) ∧ (0 ≤ M' ∧ M' ≤ 60) := by
  intro j
  induction j with
  | zero =>
    intro i σ τ f f' S M hi hf hf' hd hc hm e1 e2 b1 b2
    obtain ⟨f, rfl⟩ : ∃ g, f = g + 1 := ⟨f - 1, by omega⟩
    obtain ⟨f', rfl⟩ : ∃ g, f' = g + 1 := ⟨f' - 1, by omega⟩
    refine ⟨S, M, σ, τ, ?_, ?_, by rw [show n = (i : Int) by omega]; exact hd, hc, hm, e1, e2, by omega, by omega⟩
    · unfold F_X10_passDays_19
      rw [xw_sm (by omega) (by omega), xw_sm (by omega) (by omega), if_neg (by omega), show n = (i : Int) by omega]
    · unfold F_X11_goesOn_12
      rw [xw_sm (by omega) (by omega), xw_sm (by omega) (by omega), if_neg (by omega), show n = (i : Int) by omega]
  | succ j ih =>
    intro i σ τ f f' S M hi hf hf' hd hc hm e1 e2 b1 b2
    obtain ⟨f, rfl⟩ : ∃ g, f = g + 1 := ⟨f - 1, by omega⟩
    obtain ⟨f', rfl⟩ : ∃ g, f' = g + 1 := ⟨f' - 1, by omega⟩
    obtain ⟨p, σ1, τ1, g1, g2, g3, g4, g5, g6, g7, g8, g9, g10⟩ := day_d (by omega) hr hd
    unfold F_X10_passDays_19 F_X11_goesOn_12
    rw [xw_sm (by omega) (by omega), xw_sm (by omega) (by omega), if_pos (by omega), if_pos (by omega), g1, g2]
    simp only [xbp_s, xbd_s, xls, xli, xlt, xjn]
    rw [xw_sm (by omega) (by omega), show ((i : Int) + 1) = ((i + 1 : Nat) : Int) by omega]
    refine ih (i + 1) σ1 τ1 f f' _ _ (by omega) (by omega) (by omega) (by rw [show B + ((i + 1 : Nat) : Int) = B + i + 1 by omega]; exact g4) (fun c x1 x2 x3 x4 x5 x6 x7 x8 => by rw [g5 c x1 x2 x3 x4 x5 x6 x7 x8]; exact hc c x1 x2 x3 x4 x5 x6 x7 x8) ⟨fun c x1 x2 x3 x4 x5 => by rw [g7 c x1 x2 x3 x4 x5]; exact hm.1 c x1 x2 x3 x4 x5, fun k x1 x2 => by rw [g8 k x1 x2]; exact hm.2 k x1 x2⟩ (by rw [g9, e1]) (by rw [g10, e2]) (by omega) ?_
    split <;> omega
/-- back from the town and its row to all -/
theorem XR_of_dd {B C m : Int} {cd : Int → Int} {σ σ1 τ τ1 : xW} (hBC : B ≤ C) (h : XR B σ τ) (hd : Xdd C m cd 127 σ1 τ1) (hc : Xday σ σ1) (hm : XdM 127 τ τ1) : XR C σ1 τ1 := by
  obtain ⟨h1, h2, h3, h4, h5, h6, h7, h8, h9, h10⟩ := XR_mono hBC h
  have e : ∀ c, c ≠ 17 → c ≠ 19 → c ≠ 90 → c ≠ 91 → c ≠ 11 → c ≠ 15 → c ≠ 95 → c ≠ 96 → σ1 c = σ c := hc
  have f : ∀ c, c ≠ 127 → c ≠ 121 → c ≠ 133 → c ≠ 134 → c ≠ 135 → τ1 c = τ c := hm.1
  have g : ∀ k, k ≠ 30 → k ≠ 31 → τ1 121 k = τ 121 k := hm.2
  have E : ∀ c, (c ≤ 10 ∨ c = 13 ∨ c = 14 ∨ c = 18 ∨ (20 ≤ c ∧ c ≤ 88) ∨ (92 ≤ c ∧ c ≤ 94) ∨ 97 ≤ c) → σ1 c = σ c := fun c hq => e c (by omega) (by omega) (by omega) (by omega) (by omega) (by omega) (by omega) (by omega)
  have F' : ∀ c, (122 ≤ c ∧ c ≤ 126) ∨ (128 ≤ c ∧ c ≤ 132) ∨ 136 ≤ c → τ1 c = τ c := fun c hq => f c (by omega) (by omega) (by omega) (by omega) (by omega)
  refine ⟨?_, ?_, ?_, ?_, ?_, ⟨hd.2.2.1, hd.2.2.2⟩, ?_, ?_, ?_, ?_⟩
  · exact Xtext_c (by rw [E 1 (by omega)]) (E 2 (by omega)) (Xtext_m (g 15 (by decide) (by decide)) (F' 129 (by omega)) h1)
  · exact Xrow_c (by rw [E 3 (by omega)]) (E 4 (by omega)) (Xrow_m (g 1 (by decide) (by decide)) (F' 122 (by omega)) h2)
  · exact Xsky_c (by rw [E 5 (by omega)]) (E 6 (by omega)) (by rw [E 7 (by omega)]) (E 8 (by omega)) (Xsky_m (g 6 (by decide) (by decide)) (F' 123 (by omega)) (g 7 (by decide) (by decide)) (F' 124 (by omega)) h3)
  · exact Xrule_c (by rw [E 0 (by omega)]) (by rw [E 0 (by omega)]) (fun _ => ⟨by rw [E 9 (by omega)], E 10 (by omega)⟩) (fun _ => ⟨by rw [E 13 (by omega)], E 14 (by omega)⟩) (Xrule_m (g 23 (by decide) (by decide)) (F' 131 (by omega)) h4)
  · exact Xplan_c (by rw [E 0 (by omega)]) (by rw [E 92 (by omega)]) (E 93 (by omega)) (E 94 (by omega)) (Xplan_m (g 3 (by decide) (by decide)) (g 4 (by decide) (by decide)) (F' 125 (by omega)) (F' 126 (by omega)) h5)
  · exact Xpast_c (by rw [E 21 (by omega)]) (by rw [E 21 (by omega)]) (fun c c1 c2 => E c (by omega)) (by rw [E 0 (by omega)]) (by rw [E 92 (by omega)]) (Xpast_m (g 28 (by decide) (by decide)) (F' 136 (by omega)) h7)
  · exact Xkept_c (E 88 (by omega)) (fun c c1 c2 => E c (by omega)) (by rw [E 0 (by omega)]) (by rw [E 92 (by omega)]) (Xkept_m (g 5 (by decide) (by decide)) (F' 151 (by omega)) (F' 152 (by omega)) (F' 153 (by omega)) h8)
  · exact Xrep_c (by rw [E 100 (by omega)]) (E 101 (by omega)) (E 102 (by omega)) (by rw [E 0 (by omega)]) (Xrep_m (g 42 (by decide) (by decide)) (F' 146 (by omega)) (F' 147 (by omega)) h9)
  · exact Xforts_c (by rw [E 105 (by omega)]) (E 106 (by omega)) h10
theorem XR_t2 {B a b : Int} {σ τ : xW} (h : XR B σ τ) : XR B (xt2 σ a b) (xe2 τ a b) := by
  have hfC : xfm [(3, 1), (4, -1)] σ (xt2 σ a b) := by
    intro c k h1 h2
    simp only [List.mem_cons, Prod.mk.injEq, List.not_mem_nil, or_false, not_or, not_and] at h1 h2
    by_cases hc : c = 4
    · exact absurd trivial (h2.2 hc)
    · by_cases hc3 : c = 3
      · subst hc3
        have hk : k ≠ 1 := fun z => h1.1 rfl z
        unfold xt2 xt1
        rw [xu_slot _ _ _ hk, xu_row _ _ _ (by decide), xu_slot _ _ _ hk, xu_row _ _ _ (by decide), xu_slot _ _ _ hk]
      · rw [xt2_o hc3 hc]
  have hfM : xfm [(121, 1), (122, -1)] τ (xe2 τ a b) := by
    intro c k h1 h2
    simp only [List.mem_cons, Prod.mk.injEq, List.not_mem_nil, or_false, not_or, not_and] at h1 h2
    by_cases hc : c = 122
    · exact absurd trivial (h2.2 hc)
    · by_cases hc3 : c = 121
      · subst hc3
        have hk : k ≠ 1 := fun z => h1.1 rfl z
        rw [xe2_k hk]
      · rw [xe2_o hc3 hc]
  obtain ⟨h1, h2, h3, h4, h5, h6, h7, h8, h9, h10⟩ := id h
  refine ⟨Xtext_cW hfC (by decide +kernel) (Xtext_mW hfM (by decide +kernel) h1), ?_, Xsky_cW hfC (by decide +kernel) (Xsky_mW hfM (by decide +kernel) h3), Xrule_cW hfC (by decide +kernel) (Xrule_mW hfM (by decide +kernel) h4), Xplan_cW hfC (by decide +kernel) (Xplan_mW hfM (by decide +kernel) h5), Xtown_cW hfC (by decide +kernel) (Xtown_mW hfM (by decide +kernel) h6), Xpast_cW hfC (by decide +kernel) (Xpast_mW hfM (by decide +kernel) h7), Xkept_cW hfC (by decide +kernel) (Xkept_mW hfM (by decide +kernel) h8), Xrep_cW hfC (by decide +kernel) (Xrep_mW hfM (by decide +kernel) h9), Xforts_cW hfC (by decide +kernel) h10⟩
  exact Xrow_2 (a := a) (b := b) rfl (by simp [xt2, xt1, xu]) rfl (by simp [xe2, xe1, xu])
theorem op_days {a : Int} (ha : I32 a) : XO (F_X10_days a) (F_X11_days a) := by
  intro B σ τ hB hB1 hR
  by_cases q : 0 ≤ a ∧ a ≤ 60
  · obtain ⟨σ1, τ1, a1, a2, a3, a4, a5, a6⟩ := note_d (XR_thr hR)
    have hdd := XR_dd a3
    generalize hg : xu (xu τ1 121 30 0) 121 31 0 = t2
    have g1 : ∀ c, c ≠ 121 → t2 c = τ1 c := fun c hc => by rw [← hg, xu_row _ _ _ hc, xu_row _ _ _ hc]
    have g2 : ∀ k, k ≠ 30 → k ≠ 31 → t2 121 k = τ1 121 k := fun k x y => by rw [← hg, xu_slot _ _ _ y, xu_slot _ _ _ x]
    have hdd2 : Xdd (B + (0 : Nat)) (τ1 121 23) (τ1 131) 127 σ1 t2 := ⟨hdd.1, Xmw_c hdd.2.1 (fun c hc => g1 c (by omega)) (fun k hk => g2 k (by omega) (by omega)), by rw [show B + ((0 : Nat) : Int) = B by omega]; exact hdd.2.2.1, by rw [g1 127 (by decide)]; exact hdd.2.2.2⟩
    obtain ⟨S, M, σ2, τ2, b1, b2, b3, b4, b5, b6, b7, b8, b9⟩ := pass_loop (k := fun (l2_23 : Int) (l3_24 : Int) (l4_25 : Int) (s26 : xW) => xbp (F_X6_tell_ (xw l2_23) (xw l3_24) s26) fun s28 => some ((s28 17 2), s28)) (k' := fun (l3_15 : Int) (s16 : xW) => some s16) (σ0 := σ1) (τ0 := τ1) (by omega) (Or.inl rfl) q a.toNat 0 σ1 t2 xN xN 0 0 (by omega) (by have := xN_ge; omega) (by have := xN_ge; omega) hdd2 (fun c _ _ _ _ _ _ _ _ => rfl) ⟨fun c _ x _ _ _ => g1 c x, g2⟩ (by rw [← hg]; simp [xu]) (by rw [← hg]; simp [xu]) (by omega) (by omega)
    have hX := XR_of_dd (show B ≤ B + a by omega) a3 b3 b4 b5
    have hX2 : XR (B + 300) (xt2 σ2 S M) (xe2 τ2 S M) := XR_mono (by omega) (XR_t2 hX)
    have hp := hX.2.2.2.2.2.1.1.1.2.2.1
    have e36 : τ2 127 36 = σ2 17 2 := hX.2.2.2.2.2.1.2.1.2.2.1.symm
    have hn := Xnote_keep (show B ≤ B + 300 by omega) hX2 a4 (fun c c1 c2 => by rw [xt2_o (by omega) (by omega)]; exact b4 c (by omega) (by omega) (by omega) (by omega) (by omega) (by omega) (by omega) (by omega)) (by rw [xt2_o (by decide) (by decide), b4 0 (by decide) (by decide) (by decide) (by decide) (by decide) (by decide) (by decide) (by decide)]) (by rw [xt2_o (by decide) (by decide), b4 92 (by decide) (by decide) (by decide) (by decide) (by decide) (by decide) (by decide) (by decide)]) (by rw [xe2_o (by decide) (by decide)]; exact b5.1 136 (by decide) (by decide) (by decide) (by decide) (by decide))
    obtain ⟨σ3, τ3, c1, c2, c3⟩ := add_d (v := σ2 17 2) hX2 hn
    refine ⟨σ2 17 2, σ3, τ3, ?_, ?_, c3⟩
    · unfold F_X10_days F_X10_passDays F_X10_noted
      rw [a1]
      simp only [xbp_s, xbd_s, xls, xli, xlt, xjn]
      rw [xw_id ha, if_pos q.1, if_neg (by omega)]
      have b1' : F_X10_passDays_19 a xN 0 0 0 σ1 (fun (l2_23 : Int) (l3_24 : Int) (l4_25 : Int) (s26 : xW) => xbp (F_X6_tell_ (xw l2_23) (xw l3_24) s26) fun s28 => some ((s28 17 2), s28)) = some (σ2 17 2, xt2 σ2 S M) := by
        refine Eq.trans b1 ?_
        rw [tell_2, xw_sm (by omega) (by omega), xw_sm (by omega) (by omega)]
        simp only [xbp_s, xbd_s, xls, xli, xlt, xjn]
        rw [xt2_o (by decide) (by decide)]
      rw [b1']
      simp only [xbp_s, xbd_s, xls, xli, xlt, xjn]
      rw [xw_sm (by omega) (by omega), if_pos (by omega), c1]
      rfl
    · unfold F_X11_days F_X11_goesOn
      simp only [xbp_s, xbd_s, xls, xli, xlt, xjn]
      rw [xw_id ha, in_eq (by omega) (by omega) (by omega), if_pos q]
      simp only [xbp_s, xbd_s, xls, xli, xlt, xjn]
      rw [if_neg (by decide), a2]
      simp only [xbp_s, xbd_s, xls, xli, xlt, xjn]
      rw [xgd_t (show (127 : Int) ∈ xNows by decide), hg]
      have b2' : F_X11_goesOn_12 127 a xN 0 t2 (fun (l3_15 : Int) (s16 : xW) => some s16) = some τ2 := b2
      rw [b2']
      simp only [xbp_s, xbd_s, xls, xli, xlt, xjn]
      rw [xu_slot _ _ _ (show (30 : Int) ≠ 1 by decide), b6, xw_sm (by omega) (by omega), ent_1]
      simp only [xbp_s, xbd_s, xls, xli, xlt, xjn]
      rw [xe1_k (by decide), b7, xw_sm (by omega) (by omega), ent_2]
      simp only [xbp_s, xbd_s, xls, xli, xlt, xjn]
      rw [xe2_o (by decide) (by decide), e36, c2]
      rfl
  · obtain ⟨σ1, a1, a3, a5⟩ := note_o hR
    refine ⟨-1, σ1, xu τ 121 0 0, ?_, ?_, XR_mono (by omega) (XR_thr a3)⟩
    · unfold F_X10_days F_X10_passDays F_X10_noted
      rw [a1]
      simp only [xbp_s, xbd_s, xls, xli, xlt, xjn]
      rw [xw_id ha]
      by_cases q1 : 0 ≤ a
      · rw [if_pos q1, if_pos (by omega)]
        rfl
      · rw [if_neg q1]
        rfl
    · unfold F_X11_days
      simp only [xbp_s, xbd_s, xls, xli, xlt, xjn]
      rw [xw_id ha, in_eq (by omega) (by omega) (by omega), if_neg q]
      rfl
