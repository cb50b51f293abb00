/-- an act of both -/
def XA (cf mf : xW → Option (Int × xW)) : Prop := ∀ (B : Int) (σ τ : xW), 0 ≤ B → B ≤ 1000000 → XR B σ τ → ∃ r σ1 τ1, cf σ = some (r, σ1) ∧ mf τ = some (r, τ1) ∧ I32 r ∧ XR (B + 300) σ1 τ1 ∧ (∀ c, 21 ≤ c → c ≤ 86 → σ1 c = σ c) ∧ σ1 0 14 = σ 0 14 ∧ σ1 92 0 = σ 92 0 ∧ τ1 136 = τ 136
theorem Xnote_keep {B C : Int} {σ σ1 τ τ1 : xW} (hBC : B ≤ C) (hx : XR C σ1 τ1) (hn : Xnote B σ τ) (e1 : ∀ c, 21 ≤ c → c ≤ 86 → σ1 c = σ c) (e2 : σ1 0 14 = σ 0 14) (e3 : σ1 92 0 = σ 92 0) (e4 : τ1 136 = τ 136) : Xnote C σ1 τ1 := by
  obtain ⟨⟨p1, p2, p3, p4⟩, n1, n2⟩ := hn
  refine ⟨hx.2.2.2.2.2.2.1, ?_, ?_⟩
  · rw [e1 21 (by omega) (by omega), e1 _ (by omega) (by omega), e1 _ (by omega) (by omega), e1 _ (by omega) (by omega), e1 _ (by omega) (by omega)]
    exact Xti_mono hBC n1
  · rw [e2, e3, e4, e1 21 (by omega) (by omega), e1 _ (by omega) (by omega), e1 _ (by omega) (by omega), e1 _ (by omega) (by omega), e1 _ (by omega) (by omega)]
    exact n2
theorem act_O {cf mf : xW → Option (Int × xW)} (h : XA cf mf) : XO (fun s => xbp (F_X3_note s) fun s2 => xbd (cf s2) fun r4 s5 => xbd (F_X10_noted r4 s5) fun r7 s8 => some (r7, s8)) (fun s => xls (xu s 121 0 0) fun s1 => xbp (F_X11_putsBy s1) fun s4 => xbd (mf s4) fun r6 s7 => xbd (F_X11_counted r6 s7) fun r9 s10 => some (r9, s10)) := by
  intro B σ τ hB hB1 hR
  obtain ⟨σ1, τ1, a1, a2, a3, a4, a5, a6⟩ := note_d (XR_thr hR)
  obtain ⟨r, σ2, τ2, b1, b2, b3, b4, b5, b6, b7, b8⟩ := h B σ1 τ1 hB hB1 a3
  have hn := Xnote_keep (show B ≤ B + 300 by omega) b4 a4 b5 b6 b7 b8
  simp only [xbp_s, xbd_s, xls, xli, xlt, xjn]
  rw [a1, a2]
  simp only [xbp_s, xbd_s, xls, xli, xlt, xjn]
  rw [b1, b2]
  simp only [xbp_s, xbd_s, xls, xli, xlt, xjn, F_X10_noted, F_X11_counted]
  rw [xw_id b3]
  by_cases q : 0 ≤ r
  · obtain ⟨σ3, τ3, c1, c2, c3⟩ := add_d (v := r) b4 hn
    rw [if_pos q, if_neg (by omega), c1, c2]
    exact ⟨r, σ3, τ3, rfl, rfl, c3⟩
  · rw [if_neg q, if_pos (by omega)]
    exact ⟨r, σ2, τ2, rfl, rfl, b4⟩
theorem XA_no {B r : Int} {cf mf : xW → Option (Int × xW)} {σ τ : xW} (h : XR B σ τ) (h1 : cf σ = some (r, σ)) (h2 : mf τ = some (r, τ)) (hr : I32 r) : ∃ r σ1 τ1, cf σ = some (r, σ1) ∧ mf τ = some (r, τ1) ∧ I32 r ∧ XR (B + 300) σ1 τ1 ∧ (∀ c, 21 ≤ c → c ≤ 86 → σ1 c = σ c) ∧ σ1 0 14 = σ 0 14 ∧ σ1 92 0 = σ 92 0 ∧ τ1 136 = τ 136 :=
  ⟨r, σ, τ, h1, h2, hr, XR_mono (by omega) h, fun _ _ _ => rfl, rfl, rfl, rfl⟩
theorem XA_buy {a : Int} (ha : I32 a) : XA (F_X10_buy a) (F_X11_buysSome a) := by
  intro B σ τ hB hB1 h
  obtain ⟨h1, h2, h3, h4, h5, h6, h7, h8, h9, h10⟩ := id h
  have hp := h6.1.1.2.2.1
  have e36 : τ 127 36 = σ 17 2 := h6.2.1.2.2.1.symm
  have hnh := h5.1
  have hnd := h5.2.2.1
  by_cases hc : 1 ≤ a ∧ a ≤ 99
  · by_cases hq : 99 < σ 17 2 + a
    · refine XA_no (r := -3) h ?_ ?_ (by decide)
      · unfold F_X10_buy
        simp only [xbp_s, xbd_s, xls, xli, xlt, xjn]
        rw [xw_id ha, xw_sm (by omega) (by omega), if_pos hc.1, if_neg (by omega), if_pos hq]
      · unfold F_X11_buysSome
        rw [xw_id ha, in_eq (by omega) (by omega) (by omega), if_pos hc, e36, xw_sm (x := σ 17 2 + a) (by omega) (by omega)]
        simp only [xbp_s, xbd_s, xls, xli, xlt, xjn]
        rw [if_neg (by decide), if_pos hq]
    · have eC : F_X10_buy a σ = some (σ 17 2 + a, xu σ 17 2 (σ 17 2 + a)) := by
        unfold F_X10_buy
        simp only [xbp_s, xbd_s, xls, xli, xlt, xjn]
        rw [xw_id ha, xw_sm (by omega) (by omega), if_pos hc.1, if_neg (by omega), if_neg hq, xu_same]
      have eM : F_X11_buysSome a τ = some (σ 17 2 + a, xu τ 127 36 (σ 17 2 + a)) := by
        unfold F_X11_buysSome
        rw [xw_id ha, in_eq (by omega) (by omega) (by omega), if_pos hc, e36, xw_sm (x := σ 17 2 + a) (by omega) (by omega)]
        simp only [xbp_s, xbd_s, xls, xli, xlt, xjn]
        rw [if_neg (by decide), if_neg hq, xu_same]
      have hfC := fr_X10_buy eC
      have hfM := fr_X11_buysSome eM
      refine ⟨_, _, _, eC, eM, by omega, ?_, fun c c1 c2 => xu_row _ _ _ (by omega), rfl, rfl, xu_row _ _ _ (by decide)⟩
      refine XR_mono (show _ ≤ B + 300 by omega) ⟨Xtext_cW hfC (by decide +kernel) (Xtext_mW hfM (by decide +kernel) h1), Xrow_cW hfC (by decide +kernel) (Xrow_mW hfM (by decide +kernel) h2), Xsky_cW hfC (by decide +kernel) (Xsky_mW hfM (by decide +kernel) h3), Xrule_cW hfC (by decide +kernel) (Xrule_mW hfM (by decide +kernel) h4), Xplan_cW hfC (by decide +kernel) (Xplan_mW hfM (by decide +kernel) h5), ?_, Xpast_cW hfC (by decide +kernel) (Xpast_mW hfM (by decide +kernel) h7), Xkept_cW hfC (by decide +kernel) (Xkept_mW hfM (by decide +kernel) h8), Xrep_cW hfC (by decide +kernel) (Xrep_mW hfM (by decide +kernel) h9), Xforts_cW hfC (by decide +kernel) h10⟩
      obtain ⟨⟨t1, t2⟩, t3, t4, t5⟩ := id h6
      refine ⟨⟨?_, ?_⟩, ?_, ?_, ?_⟩
      · simp [xu]; omega
      · rw [xu_row _ _ _ (by decide), xu_row _ _ _ (by decide), xu_row _ _ _ (by decide)]; exact t2
      · simp [xu]; omega
      · intro x y z
        simp [xu] at z ⊢
        rw [if_neg (by omega), if_neg (by omega), if_neg (by omega)]
        exact t4 x y z
      · intro x y z
        simp [xu] at z ⊢
        rw [if_neg (by omega)]
        exact t5 x y z
  · refine XA_no (r := -1) h ?_ ?_ (by decide)
    · unfold F_X10_buy
      simp only [xbp_s, xbd_s, xls, xli, xlt, xjn]
      rw [xw_id ha]
      by_cases q : 1 ≤ a
      · rw [if_pos q, if_pos (by omega)]
      · rw [if_neg q]
    · unfold F_X11_buysSome
      rw [xw_id ha, in_eq (by omega) (by omega) (by omega), if_neg hc]
      rfl
theorem op_buys {a : Int} (ha : I32 a) : XO (F_X10_buys a) (F_X11_buys a) := act_O (XA_buy ha)
theorem placeOf_c {x y : Int} {s : xW} (hx : I32 x) (hy : I32 y) : F_X10_placeOf x y s = some (if (0 ≤ x ∧ x ≤ 9) ∧ (0 ≤ y ∧ y ≤ 9) then 10 * x + y else -1) := by
  unfold F_X10_placeOf
  simp only [xbp_s, xbd_s, xls, xli, xlt, xjn]
  rw [xw_id hx, xw_id hy]
  by_cases q : (0 ≤ x ∧ x ≤ 9) ∧ (0 ≤ y ∧ y ≤ 9)
  · rw [if_pos (by omega : 0 ≤ x), if_pos (by omega : x < 10), if_pos (by omega : 0 ≤ y), if_pos (by omega : y < 10), if_pos q, if_pos (by decide)]
    congr 1
    omega
  · have e : (if 0 ≤ x then if x < 10 then if 0 ≤ y then if y < 10 then 1 else 0 else 0 else 0 else 0) = (0 : Int) := by
      repeat' split
      all_goals omega
    rw [e, if_neg q, if_neg (by decide)]
theorem isPlace_m {x y : Int} {s : xW} (hx : I32 x) (hy : I32 y) : F_X11_isPlace x y s = some (if (0 ≤ x ∧ x ≤ 9) ∧ (0 ≤ y ∧ y ≤ 9) then 1 else 0) := by
  unfold F_X11_isPlace
  rw [xw_id hx, xw_id hy, in_eq (by omega) (by omega) (by omega), in_eq (by omega) (by omega) (by omega)]
  simp only [xbp_s, xbd_s, xls, xli, xlt, xjn, xif01]
  by_cases q1 : 0 ≤ x ∧ x ≤ 9
  · rw [if_pos q1, if_pos (by decide)]
    by_cases q2 : 0 ≤ y ∧ y ≤ 9
    · rw [if_pos q2, if_pos (by decide), if_pos ⟨q1, q2⟩]
      rfl
    · rw [if_neg q2, if_neg (by decide), if_neg (fun z => q2 z.2)]
      rfl
  · rw [if_neg q1, if_neg (by decide), if_neg (fun z => q1 z.1)]
    rfl
theorem puts_m {r i j x y : Int} {s : xW} (hr : r = 127 ∨ r = 128) (hi : 0 ≤ i ∧ i < 40) (hj : 0 ≤ j ∧ j < 40) (hu : (0 ≤ s r i ∧ s r i ≤ 9) ∧ (0 ≤ s r j ∧ s r j ≤ 9)) (hx : (0 ≤ x ∧ x ≤ 9) ∧ (0 ≤ y ∧ y ≤ 9)) : F_X11_puts r i j x y s = some (xfa (10 * s r i + s r j) (10 * x + y), xu (xu s r i x) r j y) := by
  unfold F_X11_puts
  rw [xgd_t (by rcases hr with rfl | rfl <;> decide), xgd_t hi, xgd_t hj, far_m hu.1 hu.2 hx.1 hx.2]
  simp only [xbp_s, xbd_s, xls, xli, xlt, xjn]
  rw [xgd_t hi, xgd_t hj]
theorem xfa_0 {a b : Int} (ha : 0 ≤ a ∧ a ≤ 99) (hb : 0 ≤ b ∧ b ≤ 99) : xfa a b = 0 ↔ a = b := by
  unfold xfa xab
  constructor
  · intro h
    split at h <;> split at h <;> omega
  · rintro rfl
    simp
/-- the gun is hauled: row r of the reference -/
theorem haulsTo_m {r x y : Int} {s : xW} (hx : I32 x) (hy : I32 y) (hr : r = 127 ∨ r = 128) (hu : (0 ≤ s r 32 ∧ s r 32 ≤ 9) ∧ (0 ≤ s r 33 ∧ s r 33 ≤ 9)) : F_X11_haulsTo r x y s = if (0 ≤ x ∧ x ≤ 9) ∧ (0 ≤ y ∧ y ≤ 9) then some (if xfa (10 * s r 32 + s r 33) (10 * x + y) = 0 then -2 else xfa (10 * s r 32 + s r 33) (10 * x + y), xu (xu s r 32 x) r 33 y) else some (-1, s) := by
  unfold F_X11_haulsTo
  rw [xgd_t (by rcases hr with rfl | rfl <;> decide), isPlace_m hx hy]
  simp only [xbp_s, xbd_s, xls, xli, xlt, xjn, xif01]
  by_cases q : (0 ≤ x ∧ x ≤ 9) ∧ (0 ≤ y ∧ y ≤ 9)
  · have := xfa_r (a := 10 * s r 32 + s r 33) (b := 10 * x + y) (by omega) (by omega)
    rw [if_pos q, if_pos (by decide), puts_m hr (by decide) (by decide) hu q, if_pos q]
    simp only [xbp_s, xbd_s, xls, xli, xlt, xjn]
    rw [xw_sm (by omega) (by omega)]
  · rw [if_neg q, if_neg (by decide), if_neg q]
    rfl
theorem haul_c {x y : Int} {s : xW} (hx : I32 x) (hy : I32 y) (hg : 0 ≤ s 17 0 ∧ s 17 0 ≤ 99) : F_X10_haul x y s = if (0 ≤ x ∧ x ≤ 9) ∧ (0 ≤ y ∧ y ≤ 9) then some (if xfa (s 17 0) (10 * x + y) = 0 then -2 else xfa (s 17 0) (10 * x + y), xu s 17 0 (10 * x + y)) else some (-1, s) := by
  unfold F_X10_haul
  rw [placeOf_c hx hy]
  simp only [xbp_s, xbd_s, xls, xli, xlt, xjn]
  by_cases q : (0 ≤ x ∧ x ≤ 9) ∧ (0 ≤ y ∧ y ≤ 9)
  · have := xfa_r (a := s 17 0) (b := 10 * x + y) hg (by omega)
    rw [if_pos q, if_pos q, xw_sm (by omega) (by omega), if_neg (by omega), far_c hg (by omega)]
    simp only [xbp_s, xbd_s, xls, xli, xlt, xjn]
    rw [xw_sm (by omega) (by omega)]
  · rw [if_neg q, if_neg q, if_pos (by decide)]
theorem XA_haul {x y : Int} (hx : I32 x) (hy : I32 y) : XA (F_X10_haul x y) (F_X11_haulsTo 127 x y) := by
  intro B σ τ hB hB1 h
  obtain ⟨h1, h2, h3, h4, h5, h6, h7, h8, h9, h10⟩ := id h
  have hg := h6.1.1.1
  have hgr := h6.2.1.1
  have hnh := h5.1
  have hnd := h5.2.2.1
  have eC := haul_c (s := σ) hx hy hg
  have eM := haulsTo_m (s := τ) hx hy (Or.inl rfl) (by omega)
  rw [← hgr.1] at eM
  by_cases q : (0 ≤ x ∧ x ≤ 9) ∧ (0 ≤ y ∧ y ≤ 9)
  · rw [if_pos q] at eC eM
    have hr := xfa_r (a := σ 17 0) (b := 10 * x + y) hg (by omega)
    have hfC := fr_X10_haul eC
    have hfM := fr_X11_haulsTo eM
    refine ⟨_, _, _, eC, eM, by split <;> omega, ?_, fun c c1 c2 => xu_row _ _ _ (by omega), rfl, rfl, by rw [xu_row _ _ _ (by decide), xu_row _ _ _ (by decide)]⟩
    refine XR_mono (show _ ≤ B + 300 by omega) ⟨Xtext_cW hfC (by decide +kernel) (Xtext_mW hfM (by decide +kernel) h1), Xrow_cW hfC (by decide +kernel) (Xrow_mW hfM (by decide +kernel) h2), Xsky_cW hfC (by decide +kernel) (Xsky_mW hfM (by decide +kernel) h3), Xrule_cW hfC (by decide +kernel) (Xrule_mW hfM (by decide +kernel) h4), Xplan_cW hfC (by decide +kernel) (Xplan_mW hfM (by decide +kernel) h5), ?_, Xpast_cW hfC (by decide +kernel) (Xpast_mW hfM (by decide +kernel) h7), Xkept_cW hfC (by decide +kernel) (Xkept_mW hfM (by decide +kernel) h8), Xrep_cW hfC (by decide +kernel) (Xrep_mW hfM (by decide +kernel) h9), Xforts_cW hfC (by decide +kernel) h10⟩
    obtain ⟨⟨t1, t2⟩, t3, t4, t5⟩ := id h6
    refine ⟨⟨?_, ?_⟩, ?_, ?_, ?_⟩
    · simp [xu]; omega
    · rw [xu_row _ _ _ (by decide), xu_row _ _ _ (by decide), xu_row _ _ _ (by decide)]; exact t2
    · simp [xu]; omega
    · intro u v z
      simp [xu] at z ⊢
      have hh : u < 8 := by omega
      rw [if_neg (by omega), if_neg (by omega), if_neg (by omega), if_neg (by omega), if_neg (by omega), if_neg (by omega)]
      exact t4 u v z
    · intro u v z
      simp [xu] at z ⊢
      rw [if_neg (by omega), if_neg (by omega)]
      exact t5 u v z
  · rw [if_neg q] at eC eM
    exact XA_no (r := -1) h eC eM (by decide)
theorem op_hauls {x y : Int} (hx : I32 x) (hy : I32 y) : XO (F_X10_hauls x y) (F_X11_hauls x y) := act_O (XA_haul hx hy)
