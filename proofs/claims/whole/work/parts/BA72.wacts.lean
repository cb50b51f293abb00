/-! acts of a week: row and text are left out -/
def XRr (B : Int) (σ τ : xW) : Prop := Xsky σ τ ∧ Xrule σ τ ∧ Xplan σ τ ∧ Xtown B σ τ ∧ Xpast B σ τ ∧ Xkept B σ τ ∧ Xrep σ τ ∧ Xforts σ
theorem XR_r {B : Int} {σ τ : xW} (h : XR B σ τ) : XRr B σ τ := by
  obtain ⟨h1, h2, h3, h4, h5, h6, h7, h8, h9, h10⟩ := h
  exact ⟨h3, h4, h5, h6, h7, h8, h9, h10⟩
theorem XRr_R {B : Int} {σ τ : xW} (h : XRr B σ τ) (h1 : Xtext σ τ) (hr : Xrow σ τ) : XR B σ τ := by
  obtain ⟨h3, h4, h5, h6, h7, h8, h9, h10⟩ := h
  exact ⟨h1, hr, h3, h4, h5, h6, h7, h8, h9, h10⟩
theorem XRr_mono {B C : Int} {σ τ : xW} (hBC : B ≤ C) (h : XRr B σ τ) : XRr C σ τ := by
  obtain ⟨h3, h4, h5, h6, h7, h8, h9, h10⟩ := h
  refine ⟨h3, h4, h5, ⟨Xti_mono hBC h6.1, h6.2⟩, ⟨h7.1, h7.2.1, h7.2.2.1, fun j a b => ?_⟩, ⟨⟨h8.1.1, by have := h8.1.2; omega⟩, fun i a b => ?_⟩, h9, h10⟩
  · exact ⟨Xti_mono hBC (h7.2.2.2 j a b).1, (h7.2.2.2 j a b).2⟩
  · obtain ⟨q1, q2, q3, q4, q5⟩ := h8.2 i a b
    exact ⟨q1, q2, q3, q4, fun z => ⟨Xti_mono hBC (q5 z).1, (q5 z).2⟩⟩
theorem XRr_rule {B : Int} {σ τ : xW} (h : XRr B σ τ) : (σ 0 4 = 9 ∨ σ 0 4 = 13) ∧ σ 0 4 ∈ xRules ∧ XRC (σ (σ 0 4) 1) (σ (σ 0 4 + 1)) (τ 121 23) (τ 131) := by
  have h4 := h.2.1
  refine ⟨by rcases h4.1 with ⟨a, b⟩ | ⟨a, b⟩ <;> simp [a], ?_, h4.2⟩
  rcases h4.1 with ⟨a, b⟩ | ⟨a, b⟩ <;> rw [a] <;> decide
theorem XRr_cw {B : Int} {σ τ : xW} (h : XRr B σ τ) : Xcw (τ 121 23) (τ 131) (σ 0 4) σ := by
  obtain ⟨a, b, c⟩ := XRr_rule h
  obtain ⟨h3, h4, h5, h6, h7, h8, h9, h10⟩ := h
  exact ⟨a, c, h3.1.1, h3.2.1, h3.2.2.1, h5.1, h5.2.2.1, fun d x y => ⟨(h5.2.2.2.2 d x y).1, (h5.2.2.2.2 d x y).2.2.1⟩, h6.1.2.1, h6.1.2.2.2⟩
theorem XRr_mw {B : Int} {σ τ : xW} (h : XRr B σ τ) : Xmw (τ 121 23) (τ 131) σ τ := by
  obtain ⟨h3, h4, h5, h6, h7, h8, h9, h10⟩ := h
  exact ⟨⟨⟨_, _, h4.2⟩, rfl, rfl, h3.1, h3.2⟩, h5.1, h5.2.2.1, h5.2.1, h5.2.2.2.1, fun d x y => ⟨(h5.2.2.2.2 d x y).1, (h5.2.2.2.2 d x y).2.1, (h5.2.2.2.2 d x y).2.2.2⟩, h6.1.2.2.2⟩
theorem XRr_mr {B : Int} {σ τ : xW} (hB : B ≤ 1000300) (h : XRr B σ τ) : Xmr σ (σ 17 0) (σ 17 5) (τ 127) := by
  obtain ⟨h3, h4, h5, h6, h7, h8, h9, h10⟩ := h
  refine ⟨Xrr_of (by omega) h5.1.2 h6.1 h6.2, h6.2.1.1.1.symm, h6.2.1.2.2.2.2.2.symm, fun h x y => (h6.2.2.1 h x y).1.symm, fun d x y => (h6.2.2.2 d x y).1.symm⟩
theorem XRr_of_dd {B C m : Int} {cd : Int → Int} {σ σ1 τ τ1 : xW} (hBC : B ≤ C) (h : XRr B σ τ) (hd : Xdd C m cd 127 σ1 τ1) (hc : Xday σ σ1) (hm : XdM 127 τ τ1) : XRr C σ1 τ1 := by
  obtain ⟨h3, h4, h5, h6, h7, h8, h9, h10⟩ := XRr_mono hBC h
  have e : ∀ c, c ≠ 17 → c ≠ 19 → c ≠ 90 → c ≠ 91 → c ≠ 11 → c ≠ 15 → c ≠ 95 → c ≠ 96 → σ1 c = σ c := hc
  have f : ∀ c, c ≠ 127 → c ≠ 121 → c ≠ 133 → c ≠ 134 → c ≠ 135 → τ1 c = τ c := hm.1
  have g : ∀ k, k ≠ 30 → k ≠ 31 → τ1 121 k = τ 121 k := hm.2
  have E : ∀ c, (c ≤ 10 ∨ c = 13 ∨ c = 14 ∨ c = 18 ∨ (20 ≤ c ∧ c ≤ 88) ∨ (92 ≤ c ∧ c ≤ 94) ∨ 97 ≤ c) → σ1 c = σ c := fun c hq => e c (by omega) (by omega) (by omega) (by omega) (by omega) (by omega) (by omega) (by omega)
  have F' : ∀ c, (122 ≤ c ∧ c ≤ 126) ∨ (128 ≤ c ∧ c ≤ 132) ∨ 136 ≤ c → τ1 c = τ c := fun c hq => f c (by omega) (by omega) (by omega) (by omega) (by omega)
  refine ⟨?_, ?_, ?_, ⟨hd.2.2.1, hd.2.2.2⟩, ?_, ?_, ?_, ?_⟩
  · exact Xsky_c (by rw [E 5 (by omega)]) (E 6 (by omega)) (by rw [E 7 (by omega)]) (E 8 (by omega)) (Xsky_m (g 6 (by decide) (by decide)) (F' 123 (by omega)) (g 7 (by decide) (by decide)) (F' 124 (by omega)) h3)
  · exact Xrule_c (by rw [E 0 (by omega)]) (by rw [E 0 (by omega)]) (fun _ => ⟨by rw [E 9 (by omega)], E 10 (by omega)⟩) (fun _ => ⟨by rw [E 13 (by omega)], E 14 (by omega)⟩) (Xrule_m (g 23 (by decide) (by decide)) (F' 131 (by omega)) h4)
  · exact Xplan_c (by rw [E 0 (by omega)]) (by rw [E 92 (by omega)]) (E 93 (by omega)) (E 94 (by omega)) (Xplan_m (g 3 (by decide) (by decide)) (g 4 (by decide) (by decide)) (F' 125 (by omega)) (F' 126 (by omega)) h5)
  · exact Xpast_c (by rw [E 21 (by omega)]) (by rw [E 21 (by omega)]) (fun c c1 c2 => E c (by omega)) (by rw [E 0 (by omega)]) (by rw [E 92 (by omega)]) (Xpast_m (g 28 (by decide) (by decide)) (F' 136 (by omega)) h7)
  · exact Xkept_c (E 88 (by omega)) (fun c c1 c2 => E c (by omega)) (by rw [E 0 (by omega)]) (by rw [E 92 (by omega)]) (Xkept_m (g 5 (by decide) (by decide)) (F' 151 (by omega)) (F' 152 (by omega)) (F' 153 (by omega)) h8)
  · exact Xrep_c (by rw [E 100 (by omega)]) (E 101 (by omega)) (E 102 (by omega)) (by rw [E 0 (by omega)]) (Xrep_m (g 42 (by decide) (by decide)) (F' 146 (by omega)) (F' 147 (by omega)) h9)
  · exact Xforts_c (by rw [E 105 (by omega)]) (E 106 (by omega)) h10
theorem XRr_dd {B : Int} {σ τ : xW} (h : XRr B σ τ) : Xdd B (τ 121 23) (τ 131) 127 σ τ := ⟨XRr_cw h, XRr_mw h, h.2.2.2.1⟩
def XB (cf mf : xW → Option (Int × xW)) : Prop := ∀ (B : Int) (σ τ : xW), 0 ≤ B → B ≤ 1000300 → XRr B σ τ → ∃ r σ1 τ1, cf σ = some (r, σ1) ∧ mf τ = some (r, τ1) ∧ I32 r ∧ XRr B σ1 τ1 ∧ (∀ c, 21 ≤ c → c ≤ 86 → σ1 c = σ c) ∧ σ1 0 14 = σ 0 14 ∧ σ1 92 0 = σ 92 0 ∧ τ1 136 = τ 136
theorem XB_no {B r : Int} {cf mf : xW → Option (Int × xW)} {σ τ : xW} (h : XRr B σ τ) (h1 : cf σ = some (r, σ)) (h2 : mf τ = some (r, τ)) (hr : I32 r) : ∃ r σ1 τ1, cf σ = some (r, σ1) ∧ mf τ = some (r, τ1) ∧ I32 r ∧ XRr B σ1 τ1 ∧ (∀ c, 21 ≤ c → c ≤ 86 → σ1 c = σ c) ∧ σ1 0 14 = σ 0 14 ∧ σ1 92 0 = σ 92 0 ∧ τ1 136 = τ 136 :=
  ⟨r, σ, τ, h1, h2, hr, h, fun _ _ _ => rfl, rfl, rfl, rfl⟩
theorem XB_buy {a : Int} (ha : I32 a) : XB (F_X10_buy a) (F_X11_buysSome a) := by
  intro B σ τ hB hB1 h
  obtain ⟨h3, h4, h5, h6, h7, h8, h9, h10⟩ := id h
  have hp := h6.1.1.2.2.1
  have e36 : τ 127 36 = σ 17 2 := h6.2.1.2.2.1.symm
  have hnh := h5.1
  have hnd := h5.2.2.1
  by_cases hc : 1 ≤ a ∧ a ≤ 99
  · by_cases hq : 99 < σ 17 2 + a
    · refine XB_no (r := -3) h ?_ ?_ (by decide)
      · unfold F_X10_buy
        simp only [xbp_s, xbd_s, xls, xli, xlt, xjn]
        rw [xw_id ha, xw_sm (by omega) (by omega), if_pos hc.1, if_neg (by omega), if_pos hq]
      · unfold F_X11_buysSome
        rw [xw_id ha, in_eq (by omega) (by omega) (by omega), if_pos hc, e36, xw_sm (x := σ 17 2 + a) (by omega) (by omega)]
        simp only [xbp_s, xbd_s, xls, xli, xlt, xjn]
        rw [if_neg (by decide), if_pos hq]
    · have eC : F_X10_buy a σ = some (σ 17 2 + a, xu σ 17 2 (σ 17 2 + a)) := by
        unfold F_X10_buy
        simp only [xbp_s, xbd_s, xls, xli, xlt, xjn]
        rw [xw_id ha, xw_sm (by omega) (by omega), if_pos hc.1, if_neg (by omega), if_neg hq, xu_same]
      have eM : F_X11_buysSome a τ = some (σ 17 2 + a, xu τ 127 36 (σ 17 2 + a)) := by
        unfold F_X11_buysSome
        rw [xw_id ha, in_eq (by omega) (by omega) (by omega), if_pos hc, e36, xw_sm (x := σ 17 2 + a) (by omega) (by omega)]
        simp only [xbp_s, xbd_s, xls, xli, xlt, xjn]
        rw [if_neg (by decide), if_neg hq, xu_same]
      have hfC := fr_X10_buy eC
      have hfM := fr_X11_buysSome eM
      refine ⟨_, _, _, eC, eM, by omega, ?_, fun c c1 c2 => xu_row _ _ _ (by omega), rfl, rfl, xu_row _ _ _ (by decide)⟩
      refine ⟨Xsky_cW hfC (by decide +kernel) (Xsky_mW hfM (by decide +kernel) h3), Xrule_cW hfC (by decide +kernel) (Xrule_mW hfM (by decide +kernel) h4), Xplan_cW hfC (by decide +kernel) (Xplan_mW hfM (by decide +kernel) h5), ?_, Xpast_cW hfC (by decide +kernel) (Xpast_mW hfM (by decide +kernel) h7), Xkept_cW hfC (by decide +kernel) (Xkept_mW hfM (by decide +kernel) h8), Xrep_cW hfC (by decide +kernel) (Xrep_mW hfM (by decide +kernel) h9), Xforts_cW hfC (by decide +kernel) h10⟩
      obtain ⟨⟨t1, t2⟩, t3, t4, t5⟩ := id h6
      refine ⟨⟨?_, ?_⟩, ?_, ?_, ?_⟩
      · simp [xu]; omega
      · rw [xu_row _ _ _ (by decide), xu_row _ _ _ (by decide), xu_row _ _ _ (by decide)]; exact t2
      · simp [xu]; omega
      · intro x y z
        simp [xu] at z ⊢
        rw [if_neg (by omega), if_neg (by omega), if_neg (by omega)]
        exact t4 x y z
      · intro x y z
        simp [xu] at z ⊢
        rw [if_neg (by omega)]
        exact t5 x y z
  · refine XB_no (r := -1) h ?_ ?_ (by decide)
    · unfold F_X10_buy
      simp only [xbp_s, xbd_s, xls, xli, xlt, xjn]
      rw [xw_id ha]
      by_cases q : 1 ≤ a
      · rw [if_pos q, if_pos (by omega)]
      · rw [if_neg q]
    · unfold F_X11_buysSome
      rw [xw_id ha, in_eq (by omega) (by omega) (by omega), if_neg hc]
      rfl
theorem XB_haul {x y : Int} (hx : I32 x) (hy : I32 y) : XB (F_X10_haul x y) (F_X11_haulsTo 127 x y) := by
  intro B σ τ hB hB1 h
  obtain ⟨h3, h4, h5, h6, h7, h8, h9, h10⟩ := id h
  have hg := h6.1.1.1
  have hgr := h6.2.1.1
  have hnh := h5.1
  have hnd := h5.2.2.1
  have eC := haul_c (s := σ) hx hy hg
  have eM := haulsTo_m (s := τ) hx hy (Or.inl rfl) (by omega)
  rw [← hgr.1] at eM
  by_cases q : (0 ≤ x ∧ x ≤ 9) ∧ (0 ≤ y ∧ y ≤ 9)
  · rw [if_pos q] at eC eM
    have hr := xfa_r (a := σ 17 0) (b := 10 * x + y) hg (by omega)
    have hfC := fr_X10_haul eC
    have hfM := fr_X11_haulsTo eM
    refine ⟨_, _, _, eC, eM, by split <;> omega, ?_, fun c c1 c2 => xu_row _ _ _ (by omega), rfl, rfl, by rw [xu_row _ _ _ (by decide), xu_row _ _ _ (by decide)]⟩
    refine ⟨Xsky_cW hfC (by decide +kernel) (Xsky_mW hfM (by decide +kernel) h3), Xrule_cW hfC (by decide +kernel) (Xrule_mW hfM (by decide +kernel) h4), Xplan_cW hfC (by decide +kernel) (Xplan_mW hfM (by decide +kernel) h5), ?_, Xpast_cW hfC (by decide +kernel) (Xpast_mW hfM (by decide +kernel) h7), Xkept_cW hfC (by decide +kernel) (Xkept_mW hfM (by decide +kernel) h8), Xrep_cW hfC (by decide +kernel) (Xrep_mW hfM (by decide +kernel) h9), Xforts_cW hfC (by decide +kernel) h10⟩
    obtain ⟨⟨t1, t2⟩, t3, t4, t5⟩ := id h6
    refine ⟨⟨?_, ?_⟩, ?_, ?_, ?_⟩
    · simp [xu]; omega
    · rw [xu_row _ _ _ (by decide), xu_row _ _ _ (by decide), xu_row _ _ _ (by decide)]; exact t2
    · simp [xu]; omega
    · intro u v z
      simp [xu] at z ⊢
      have hh : u < 8 := by omega
      rw [if_neg (by omega), if_neg (by omega), if_neg (by omega), if_neg (by omega), if_neg (by omega), if_neg (by omega)]
      exact t4 u v z
    · intro u v z
      simp [xu] at z ⊢
      rw [if_neg (by omega), if_neg (by omega)]
      exact t5 u v z
  · rw [if_neg q] at eC eM
    exact XB_no (r := -1) h eC eM (by decide)
theorem XB_move {h x y : Int} (hh : I32 h) (hx : I32 x) (hy : I32 y) : XB (F_X10_move h x y) (F_X11_movesTo 127 h x y) := by
  intro B σ τ hB hB1 hR
  obtain ⟨h3, h4, h5, h6, h7, h8, h9, h10⟩ := id hR
  have hnh := h5.1
  have hnd := h5.2.2.1
  have hrr := XRr_mr hB1 hR
  have eC := move_c (s := σ) hh hx hy hnh h6.1.2.1
  have eM := movesTo_m (s := τ) hh hx hy (Or.inl rfl) hnh h5.2.1 hrr.1.2.2.2.2.2
  by_cases q : ((0 ≤ x ∧ x ≤ 9) ∧ (0 ≤ y ∧ y ≤ 9)) ∧ (0 ≤ h ∧ h < σ 0 14)
  · rw [if_pos q] at eC eM
    rw [hrr.2.2.2.1 h q.2.1 q.2.2] at eM
    have hr := xfa_r (a := σ 18 h) (b := 10 * x + y) (h6.1.2.1 h q.2.1 (by omega)) (by omega)
    have hfC := fr_X10_move eC
    have hfM := fr_X11_movesTo eM
    refine ⟨_, _, _, eC, eM, by split <;> omega, ?_, fun c c1 c2 => xu_row _ _ _ (by omega), rfl, rfl, by rw [xu_row _ _ _ (by decide), xu_row _ _ _ (by decide)]⟩
    refine ⟨Xsky_cW hfC (by decide +kernel) (Xsky_mW hfM (by decide +kernel) h3), Xrule_cW hfC (by decide +kernel) (Xrule_mW hfM (by decide +kernel) h4), Xplan_cW hfC (by decide +kernel) (Xplan_mW hfM (by decide +kernel) h5), ?_, Xpast_cW hfC (by decide +kernel) (Xpast_mW hfM (by decide +kernel) h7), Xkept_cW hfC (by decide +kernel) (Xkept_mW hfM (by decide +kernel) h8), Xrep_cW hfC (by decide +kernel) (Xrep_mW hfM (by decide +kernel) h9), Xforts_cW hfC (by decide +kernel) h10⟩
    obtain ⟨⟨t1, t2, t2b, t2c⟩, t3, t4, t5⟩ := id h6
    refine ⟨⟨?_, ?_, ?_, ?_⟩, ?_, ?_, ?_⟩
    · rw [xu_row _ _ _ (by decide)]; exact t1
    · intro u u1 u2
      by_cases hu : u = h
      · rw [hu, xu_same]; omega
      · rw [xu_slot _ _ _ hu]; exact t2 u u1 u2
    · rw [xu_row _ _ _ (by decide)]; exact t2b
    · rw [xu_row _ _ _ (by decide)]; exact t2c
    · simp only [xu]
      simp
      repeat rw [if_neg (by omega)]
      exact t3
    · intro u v z
      have z' : u < σ 0 14 := z
      have hq := t4 u v z'
      by_cases hu : u = h
      · subst hu
        simp [xu]
        repeat rw [if_neg (by omega)]
        omega
      · simp [xu, hu]
        repeat rw [if_neg (by omega)]
        exact hq
    · intro u v z
      have z' : u < σ 92 0 := z
      simp [xu]
      repeat rw [if_neg (by omega)]
      exact t5 u v z'
  · rw [if_neg q] at eC eM
    exact XB_no (r := -1) hR eC eM (by decide)
theorem XB_take {d v : Int} (hd : I32 d) (hv : I32 v) : XB (F_X10_lengthen d v) (F_X11_takesSome d v) := by
  intro B σ τ hB hB1 hR
  obtain ⟨h3, h4, h5, h6, h7, h8, h9, h10⟩ := id hR
  have hnh := h5.1
  have hnd := h5.2.2.1
  have e4 := h5.2.2.2.1
  by_cases q : (0 ≤ d ∧ d < σ 92 0) ∧ (1 ≤ v ∧ v ≤ 9)
  · have hl := h6.2.2.2 d q.1.1 q.1.2
    have hl2 := h6.1.2.2.2 d q.1.1 (by omega)
    have eC : F_X10_lengthen d v σ = some (if σ 20 d = v then -2 else σ 20 d, xu σ 20 d v) := by
      unfold F_X10_lengthen
      rw [isDeed_c hd hnd]
      simp only [xbp_s, xbd_s, xls, xli, xlt, xjn, xif01]
      rw [if_pos q.1, if_pos (by decide), xw_id hv, if_pos q.2.1, if_neg (by omega), xgd_t (by omega), xgd_t (by omega), xw_sm (by omega) (by omega)]
    have eM : F_X11_takesSome d v τ = some (if σ 20 d = v then -2 else σ 20 d, xu τ 127 (24 + d) v) := by
      unfold F_X11_takesSome
      rw [isDeed_m hd (by rw [e4]; exact hnd), e4, xw_id hv, in_eq (by omega) (by omega) (by omega)]
      simp only [xbp_s, xbd_s, xls, xli, xlt, xjn, xif01]
      rw [if_pos q.1, if_pos (by decide), if_pos q.2, if_neg (by decide), xgd_t (by omega), xgd_t (by omega), ← hl.1, xw_sm (by omega) (by omega)]
    have hfC := fr_X10_lengthen eC
    have hfM := fr_X11_takesSome eM
    refine ⟨_, _, _, eC, eM, by split <;> omega, ?_, fun c c1 c2 => xu_row _ _ _ (by omega), rfl, rfl, xu_row _ _ _ (by decide)⟩
    refine ⟨Xsky_cW hfC (by decide +kernel) (Xsky_mW hfM (by decide +kernel) h3), Xrule_cW hfC (by decide +kernel) (Xrule_mW hfM (by decide +kernel) h4), Xplan_cW hfC (by decide +kernel) (Xplan_mW hfM (by decide +kernel) h5), ?_, Xpast_cW hfC (by decide +kernel) (Xpast_mW hfM (by decide +kernel) h7), Xkept_cW hfC (by decide +kernel) (Xkept_mW hfM (by decide +kernel) h8), Xrep_cW hfC (by decide +kernel) (Xrep_mW hfM (by decide +kernel) h9), Xforts_cW hfC (by decide +kernel) h10⟩
    obtain ⟨⟨t1, t2, t2b, t2c⟩, t3, t4, t5⟩ := id h6
    refine ⟨⟨?_, ?_, ?_, ?_⟩, ?_, ?_, ?_⟩
    · rw [xu_row _ _ _ (by decide)]; exact t1
    · rw [xu_row _ _ _ (by decide)]; exact t2
    · rw [xu_row _ _ _ (by decide)]; exact t2b
    · intro u u1 u2
      by_cases hu : u = d
      · rw [hu, xu_same]; omega
      · rw [xu_slot _ _ _ hu]; exact t2c u u1 u2
    · simp only [xu]
      simp
      repeat rw [if_neg (by omega)]
      exact t3
    · intro u a b
      have z' : u < σ 0 14 := b
      have hq := t4 u a z'
      simp [xu]
      repeat rw [if_neg (by omega)]
      exact hq
    · intro u a b
      have z' : u < σ 92 0 := b
      by_cases hu : u = d
      · subst hu
        simp [xu]
        omega
      · simp [xu, hu]
        repeat rw [if_neg (by omega)]
        exact t5 u a z'
  · refine XB_no (r := -1) hR ?_ ?_ (by decide)
    · unfold F_X10_lengthen
      rw [isDeed_c hd hnd]
      simp only [xbp_s, xbd_s, xls, xli, xlt, xjn, xif01]
      rw [xw_id hv]
      by_cases q1 : 0 ≤ d ∧ d < σ 92 0
      · rw [if_pos q1, if_pos (by decide)]
        by_cases q2 : 1 ≤ v
        · rw [if_pos q2, if_pos (by omega)]
        · rw [if_neg q2]
      · rw [if_neg q1, if_neg (by decide)]
    · unfold F_X11_takesSome
      rw [isDeed_m hd (by rw [e4]; exact hnd), e4, xw_id hv, in_eq (by omega) (by omega) (by omega)]
      simp only [xbp_s, xbd_s, xls, xli, xlt, xjn, xif01]
      by_cases q1 : 0 ≤ d ∧ d < σ 92 0
      · rw [if_pos q1, if_pos (by decide), if_neg (show ¬ (1 ≤ v ∧ v ≤ 9) by omega), if_pos rfl]
      · rw [if_neg q1, if_neg (by decide)]
theorem wpass_loop {B m : Int} {cd : Int → Int} {n : Int} {σ0 τ0 : xW} {k : Int → Int → Int → xW → Option (Int × xW)} {k' : Int → xW → Option (Int × xW)} (hB : 0 ≤ B ∧ B ≤ 1999900) (hn : 0 ≤ n ∧ n ≤ 60) :
    ∀ (j i : Nat) (σ τ : xW) (f f' : Nat) (S M : Int), (i : Int) + j = n → j < f → j < f' → Xdd (B + i) m cd 127 σ τ → Xday σ0 σ → XdM 127 τ0 τ →
    ∃ S' M' σ' τ', F_X10_passDays_19 n f S M i σ k = k S' M' n σ' ∧ F_X11_does_46 n f' i τ k' = k' n τ' ∧ Xdd (B + n) m cd 127 σ' τ' ∧ Xday σ0 σ' ∧ XdM 127 τ0 τ' := by
  intro j
  induction j with
  | zero =>
    intro i σ τ f f' S M hi hf hf' hd hc hm
    obtain ⟨f, rfl⟩ : ∃ g, f = g + 1 := ⟨f - 1, by omega⟩
    obtain ⟨f', rfl⟩ : ∃ g, f' = g + 1 := ⟨f' - 1, by omega⟩
    refine ⟨S, M, σ, τ, ?_, ?_, by rw [show n = (i : Int) by omega]; exact hd, hc, hm⟩
    · unfold F_X10_passDays_19
      rw [xw_sm (by omega) (by omega), xw_sm (by omega) (by omega), if_neg (by omega), show n = (i : Int) by omega]
    · unfold F_X11_does_46
      rw [xw_sm (by omega) (by omega), xw_sm (by omega) (by omega), if_neg (by omega), show n = (i : Int) by omega]
  | succ j ih =>
    intro i σ τ f f' S M hi hf hf' hd hc hm
    obtain ⟨f, rfl⟩ : ∃ g, f = g + 1 := ⟨f - 1, by omega⟩
    obtain ⟨f', rfl⟩ : ∃ g, f' = g + 1 := ⟨f' - 1, by omega⟩
    obtain ⟨p, σ1, τ1, g1, g2, g3, g4, g5, g6, g7, g8, g9, g10⟩ := day_d (by omega) (Or.inl rfl) hd
    unfold F_X10_passDays_19 F_X11_does_46
    rw [xw_sm (by omega) (by omega), xw_sm (by omega) (by omega), if_pos (by omega), if_pos (by omega), g1, g2]
    simp only [xbp_s, xbd_s, xls, xli, xlt, xjn]
    rw [show ((i : Int) + 1) = ((i + 1 : Nat) : Int) by omega]
    exact ih (i + 1) σ1 τ1 f f' _ _ (by omega) (by omega) (by omega) (by rw [show B + ((i + 1 : Nat) : Int) = B + i + 1 by omega]; exact g4) (fun c x1 x2 x3 x4 x5 x6 x7 x8 => by rw [g5 c x1 x2 x3 x4 x5 x6 x7 x8]; exact hc c x1 x2 x3 x4 x5 x6 x7 x8) ⟨fun c x1 x2 x3 x4 x5 => by rw [g7 c x1 x2 x3 x4 x5]; exact hm.1 c x1 x2 x3 x4 x5, fun k x1 x2 => by rw [g8 k x1 x2]; exact hm.2 k x1 x2⟩
theorem XRr_row {B : Int} {σ σ1 τ : xW} (h : XRr B σ τ) (e : ∀ c, c ≠ 3 → c ≠ 4 → σ1 c = σ c) : XRr B σ1 τ := by
  have hf : xfm [(3, -1), (4, -1)] σ σ1 := fun c k w1 w2 => by
    rw [e c (fun z => w2 (by rw [z]; decide)) (fun z => w2 (by rw [z]; decide))]
  obtain ⟨h3, h4, h5, h6, h7, h8, h9, h10⟩ := h
  exact ⟨Xsky_cW hf (by decide) h3, Xrule_cW hf (by decide) h4, Xplan_cW hf (by decide) h5, Xtown_cW hf (by decide) h6, Xpast_cW hf (by decide) h7, Xkept_cW hf (by decide) h8, Xrep_cW hf (by decide) h9, Xforts_cW hf (by decide) h10⟩
theorem note_r {B : Int} {σ τ : xW} (h : XRr B σ τ) : ∃ σ1 τ1, F_X3_note σ = some σ1 ∧ F_X11_putsBy τ = some τ1 ∧ XRr B σ1 τ1 ∧ Xnote B σ1 τ1 ∧ (∀ c, c < 23 ∨ 86 < c → σ1 c = σ c) ∧ (∀ c, c ≠ 136 → τ1 c = τ c) := by
  obtain ⟨h3, h4, h5, h6, h7, h8, h9, h10⟩ := id h
  obtain ⟨p1, p2, p3, p4⟩ := id h7
  obtain ⟨arr, a1, a2, a3⟩ := putsBy_m (s := τ) (by rw [p3]; exact p2)
  rw [p3] at a1 a2
  have e1 : ∀ c, c < 23 ∨ 86 < c → xtc σ (23 + 4 * σ 21 1) 17 c = σ c := fun c hc => xtc_far (by omega)
  have e2 : ∀ c, c ≠ 136 → xrow τ 136 arr c = τ c := fun c hc => xrow_o hc
  have hpast : Xpast B (xtc σ (23 + 4 * σ 21 1) 17) (xrow τ 136 arr) := by
    unfold Xpast
    rw [e1 21 (by omega), e1 0 (by omega), e1 92 (by omega), e2 121 (by decide), xrow_s]
    refine ⟨p1, p2, p3, fun j j1 j2 => ?_⟩
    have ex : xpt (xtc σ (23 + 4 * σ 21 1) 17) j = xpt σ j := by unfold xpt; rw [e1 21 (by omega)]
    have hne := xpt_ne p1 (show 1 ≤ j ∧ j ≤ 15 by omega)
    rw [ex, xtc_far (by omega), xtc_far (by omega), xtc_far (by omega), xtc_far (by omega)]
    refine ⟨(p4 j j1 j2).1, Xtr_row h5.1.2 h5.2.2.1.2 (p4 j j1 j2).2 (fun k k1 k2 => a2 _ (by omega))⟩
  refine ⟨_, _, note_c p1, a3, ?_, ⟨hpast, ?_, ?_⟩, e1, e2⟩
  · refine ⟨?_, ?_, ?_, ?_, hpast, ?_, ?_, ?_⟩
    · exact Xsky_c (by rw [e1 5 (by omega)]) (e1 6 (by omega)) (by rw [e1 7 (by omega)]) (e1 8 (by omega)) (Xsky_m (by rw [e2 121 (by decide)]) (e2 123 (by decide)) (by rw [e2 121 (by decide)]) (e2 124 (by decide)) h3)
    · exact Xrule_c (by rw [e1 0 (by omega)]) (by rw [e1 0 (by omega)]) (fun _ => ⟨by rw [e1 9 (by omega)], e1 10 (by omega)⟩) (fun _ => ⟨by rw [e1 13 (by omega)], e1 14 (by omega)⟩) (Xrule_m (by rw [e2 121 (by decide)]) (e2 131 (by decide)) h4)
    · exact Xplan_c (by rw [e1 0 (by omega)]) (by rw [e1 92 (by omega)]) (e1 93 (by omega)) (e1 94 (by omega)) (Xplan_m (by rw [e2 121 (by decide)]) (by rw [e2 121 (by decide)]) (e2 125 (by decide)) (e2 126 (by decide)) h5)
    · exact Xtown_c (by rw [e1 0 (by omega)]) (by rw [e1 92 (by omega)]) (e1 17 (by omega)) (e1 18 (by omega)) (e1 19 (by omega)) (e1 20 (by omega)) (Xtown_m (e2 127 (by decide)) h6)
    · exact Xkept_c (e1 88 (by omega)) (fun c c1 c2 => e1 c (by omega)) (by rw [e1 0 (by omega)]) (by rw [e1 92 (by omega)]) (Xkept_m (by rw [e2 121 (by decide)]) (e2 151 (by decide)) (e2 152 (by decide)) (e2 153 (by decide)) h8)
    · exact Xrep_c (by rw [e1 100 (by omega)]) (e1 101 (by omega)) (e1 102 (by omega)) (by rw [e1 0 (by omega)]) (Xrep_m (by rw [e2 121 (by decide)]) (e2 146 (by decide)) (e2 147 (by decide)) h9)
    · exact Xforts_c (by rw [e1 105 (by omega)]) (e1 106 (by omega)) h10
  · rw [e1 21 (by omega)]
    exact Xti_tc (u := 17) h6.1
  · rw [e1 21 (by omega), e1 0 (by omega), e1 92 (by omega), xrow_s]
    exact Xtr_row h5.1.2 h5.2.2.1.2 (Xtr_tc (u := 17) h5.1.2 h5.2.2.1.2 h6.2) a1
theorem add_r {B v : Int} {σ τ : xW} (h : XRr B σ τ) (hn : Xnote B σ τ) : ∃ σ1 τ1, F_X3_add σ = some σ1 ∧ F_X11_adds v τ = some (v, τ1) ∧ XRr B σ1 τ1 := by
  obtain ⟨h3, h4, h5, h6, h7, h8, h9, h10⟩ := id h
  obtain ⟨⟨p1, p2, p3, p4⟩, n1, n2⟩ := hn
  obtain ⟨τ1, a1, a2, a3, a4, a5⟩ := adds_m (s := τ) (v := v) (by rw [p3]; exact p2)
  have hC := padd_c p1 p2
  have hfC := fr_X3_add hC
  have hfM := fr_X11_adds a1
  generalize hs : xu (xu σ 21 1 ((σ 21 1 + 1) % 16)) 21 2 (min 15 (σ 21 2 + 1)) = σ1 at *
  have e1 : σ1 21 1 = (σ 21 1 + 1) % 16 := by rw [← hs]; simp [xu]
  have e2 : σ1 21 2 = min 15 (σ 21 2 + 1) := by rw [← hs]; simp [xu]
  have e3 : ∀ c, c ≠ 21 → σ1 c = σ c := fun c hc => by rw [← hs, xu_row _ _ _ hc, xu_row _ _ _ hc]
  refine ⟨σ1, τ1, hC, a1, ?_⟩
  refine ⟨Xsky_cW hfC (by decide +kernel) (Xsky_mW hfM (by decide +kernel) h3), Xrule_cW hfC (by decide +kernel) (Xrule_mW hfM (by decide +kernel) h4), Xplan_cW hfC (by decide +kernel) (Xplan_mW hfM (by decide +kernel) h5), Xtown_cW hfC (by decide +kernel) (Xtown_mW hfM (by decide +kernel) h6), ?_, Xkept_cW hfC (by decide +kernel) (Xkept_mW hfM (by decide +kernel) h8), Xrep_cW hfC (by decide +kernel) (Xrep_mW hfM (by decide +kernel) h9), Xforts_cW hfC (by decide +kernel) h10⟩
  unfold Xpast
  rw [e1, e2, e3 0 (by decide), e3 92 (by decide)]
  refine ⟨by omega, by omega, by rw [a4, p3], fun j j1 j2 => ?_⟩
  have ht : ∀ c, 23 ≤ c → σ1 c = σ c := fun c hc => e3 c (by omega)
  by_cases hj : j = 1
  · have ex : xpt σ1 j = 23 + 4 * σ 21 1 := by unfold xpt; rw [e1]; omega
    rw [ex, ht _ (by omega), ht _ (by omega), ht _ (by omega), ht _ (by omega)]
    refine ⟨n1, Xtr_row h5.1.2 h5.2.2.1.2 n2 (fun k k1 k2 => ?_)⟩
    rw [a5 _ (by omega) (by omega), p3]
    by_cases q : σ 21 2 = 15
    · rw [if_pos q, show 40 * (min 15 (σ 21 2 + 1) - j) + k + 40 = 40 * σ 21 2 + k by omega]
    · rw [if_neg q, show 40 * (min 15 (σ 21 2 + 1) - j) + k = 40 * σ 21 2 + k by omega]
  · have ex : xpt σ1 j = xpt σ (j - 1) := by unfold xpt; rw [e1]; omega
    have hx := xpt_r σ (j - 1)
    rw [ex, ht _ (by omega), ht _ (by omega), ht _ (by omega), ht _ (by omega)]
    have hp := p4 (j - 1) (by omega) (by omega)
    refine ⟨hp.1, Xtr_row h5.1.2 h5.2.2.1.2 hp.2 (fun k k1 k2 => ?_)⟩
    rw [a5 _ (by omega) (by omega), p3]
    by_cases q : σ 21 2 = 15
    · rw [if_pos q, show 40 * (min 15 (σ 21 2 + 1) - j) + k + 40 = 40 * (σ 21 2 - (j - 1)) + k by omega]
    · rw [if_neg q, show 40 * (min 15 (σ 21 2 + 1) - j) + k = 40 * (σ 21 2 - (j - 1)) + k by omega]
theorem Xnote_keepr {B C : Int} {σ σ1 τ τ1 : xW} (hBC : B ≤ C) (hx : XRr C σ1 τ1) (hn : Xnote B σ τ) (e1 : ∀ c, 21 ≤ c → c ≤ 86 → σ1 c = σ c) (e2 : σ1 0 14 = σ 0 14) (e3 : σ1 92 0 = σ 92 0) (e4 : τ1 136 = τ 136) : Xnote C σ1 τ1 := by
  obtain ⟨⟨p1, p2, p3, p4⟩, n1, n2⟩ := hn
  refine ⟨hx.2.2.2.2.1, ?_, ?_⟩
  · rw [e1 21 (by omega) (by omega), e1 _ (by omega) (by omega), e1 _ (by omega) (by omega), e1 _ (by omega) (by omega), e1 _ (by omega) (by omega)]
    exact Xti_mono hBC n1
  · rw [e2, e3, e4, e1 21 (by omega) (by omega), e1 _ (by omega) (by omega), e1 _ (by omega) (by omega), e1 _ (by omega) (by omega), e1 _ (by omega) (by omega)]
    exact n2
theorem XRr_rowM {B : Int} {σ τ τ1 : xW} (h : XRr B σ τ) (e : ∀ c, c ≠ 121 → c ≠ 122 → τ1 c = τ c) (e2 : ∀ k, k ≠ 1 → τ1 121 k = τ 121 k) : XRr B σ τ1 := by
  have hf : xfm [(121, 1), (122, -1)] τ τ1 := fun c k w1 w2 => by
    by_cases z : c = 121
    · rw [z]
      rw [z] at w1
      exact e2 k (fun y => w1 (by rw [y]; decide))
    · rw [e c z (fun y => w2 (by rw [y]; decide))]
  obtain ⟨h3, h4, h5, h6, h7, h8, h9, h10⟩ := h
  exact ⟨Xsky_mW hf (by decide) h3, Xrule_mW hf (by decide) h4, Xplan_mW hf (by decide) h5, Xtown_mW hf (by decide) h6, Xpast_mW hf (by decide) h7, Xkept_mW hf (by decide) h8, Xrep_mW hf (by decide) h9, h10⟩
