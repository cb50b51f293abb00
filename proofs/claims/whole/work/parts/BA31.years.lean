theorem xushr_r (x : Int) : 0 ≤ xushr x 16 ∧ xushr x 16 ≤ 65535 := by
  unfold xushr
  rw [show ((Int32.ofInt 16).toUInt32 &&& Int32.toUInt32 31) = (16 : UInt32) by decide]
  generalize (Int32.ofInt x).toUInt32 = u
  have h : (u >>> 16).toNat < 65536 := by
    rw [UInt32.toNat_shiftRight]
    have := u.toNat_lt
    have e : (16 : UInt32).toNat % 32 = 16 := by decide
    rw [e, Nat.shiftRight_eq_div_pow]
    omega
  generalize u >>> 16 = w at h
  have e2 : w.toInt32.toInt = (w.toNat : Int) := by
    show w.toBitVec.toInt = (w.toBitVec.toNat : Int)
    have h2 : w.toBitVec.toNat < 65536 := h
    rw [BitVec.toInt_eq_toNat_cond, if_pos (by omega)]
  rw [e2]
  omega
def xnx (d : Int) : Int := d * 1103515245 + 12345
def xdr (d n : Int) : Int := xushr (xnx d) 16 % n
theorem xdr_r {d n : Int} (hn : 0 < n) : 0 ≤ xdr d n ∧ xdr d n < n := ⟨Int.emod_nonneg _ (by omega), Int.emod_lt_of_pos _ hn⟩
theorem draw_c {n : Int} {s : xW} (hn : 0 < n ∧ n ≤ 100) : F_X10_draw n s = some (xdr (s 0 15) n, xu s 0 15 (xnx (s 0 15))) := by
  have h := xushr_r (xnx (s 0 15))
  unfold F_X10_draw
  simp only [xbp_s, xbd_s, xls, xli, xlt, xjn]
  rw [xu_same, xw_sm (x := n) (by omega) (by omega), if_pos hn.1, xgd_t (by omega)]
  unfold xdr xnx at *
  rw [xw_sm (by omega) (by omega), Int.tmod_eq_emod_of_nonneg h.1]
theorem draw_m {n : Int} {s : xW} (hn : 0 < n ∧ n ≤ 100) : F_X11_draws n s = some (xdr (s 121 48) n, xu s 121 48 (xnx (s 121 48))) := by
  have h := xushr_r (xnx (s 121 48))
  unfold F_X11_draws
  simp only [xbp_s, xbd_s, xls, xli, xlt, xjn]
  rw [xu_same, xw_sm (x := n) (by omega) (by omega), xgd_t (by omega)]
  unfold xdr xnx at *
  rw [xw_sm (by omega) (by omega), Int.tmod_eq_emod_of_nonneg h.1]
/-- the worlds in the midst of years(): as ahead of it but for .. -/
def XyC (σ σ1 : xW) : Prop := (∀ c, c ≠ 0 → c ≠ 17 → c ≠ 18 → c ≠ 19 → c ≠ 90 → c ≠ 91 → c ≠ 11 → c ≠ 15 → c ≠ 95 → c ≠ 96 → σ1 c = σ c) ∧ (∀ k, k ≠ 15 → σ1 0 k = σ 0 k)
def XyM (τ τ1 : xW) : Prop := (∀ c, c ≠ 128 → c ≠ 121 → c ≠ 133 → c ≠ 134 → c ≠ 135 → τ1 c = τ c) ∧ (∀ k, k ≠ 30 → k ≠ 31 → k ≠ 48 → τ1 121 k = τ 121 k)
theorem Xdd_draw {B m : Int} {cd : Int → Int} {σ τ : xW} {x y : Int} (h : Xdd B m cd 128 σ τ) : Xdd B m cd 128 (xu σ 0 15 x) (xu τ 121 48 y) := by
  have e1 : ∀ c, c ≠ 0 → xu σ 0 15 x c = σ c := fun c hc => xu_row _ _ _ hc
  have e2 : ∀ k, k ≠ 15 → xu σ 0 15 x 0 k = σ 0 k := fun k hk => xu_slot _ _ _ hk
  have e3 : ∀ c, c ≠ 121 → xu τ 121 48 y c = τ c := fun c hc => xu_row _ _ _ hc
  obtain ⟨h1, h2, h3, h4⟩ := h
  have hr := h1.1
  have h2' := Xmw_c (τ1 := xu τ 121 48 y) h2 (fun c hc => e3 c (by omega)) (fun k hk => xu_slot _ _ _ (by omega))
  refine ⟨?_, ?_, ?_, ?_⟩
  · rw [e2 4 (by decide)]
    unfold Xcw at *
    rw [e1 _ (by omega), e1 _ (by omega), e1 5 (by decide), e1 7 (by decide), e1 8 (by decide), e2 14 (by decide), e1 92 (by decide), e1 93 (by decide), e1 94 (by decide), e1 18 (by decide), e1 20 (by decide)]
    exact h1
  · unfold Xmw at *
    rw [e1 5 (by decide), e1 6 (by decide), e1 7 (by decide), e1 8 (by decide), e2 14 (by decide), e1 92 (by decide), e1 93 (by decide), e1 94 (by decide), e1 20 (by decide)]
    exact h2'
  · rw [e1 17 (by decide), e1 18 (by decide), e1 19 (by decide), e1 20 (by decide)]; exact h3
  · rw [e1 17 (by decide), e1 18 (by decide), e1 19 (by decide), e1 20 (by decide), e2 14 (by decide), e1 92 (by decide), e3 128 (by decide)]; exact h4
theorem Xdd_haul {B m : Int} {cd : Int → Int} {σ τ : xW} {x y : Int} (hx : (0 ≤ x ∧ x ≤ 9) ∧ (0 ≤ y ∧ y ≤ 9)) (h : Xdd B m cd 128 σ τ) : Xdd B m cd 128 (xu σ 17 0 (10 * x + y)) (xu (xu τ 128 32 x) 128 33 y) := by
  have e1 : ∀ c, c ≠ 17 → xu σ 17 0 (10 * x + y) c = σ c := fun c hc => xu_row _ _ _ hc
  have e3 : ∀ c, c ≠ 128 → xu (xu τ 128 32 x) 128 33 y c = τ c := fun c hc => by rw [xu_row _ _ _ hc, xu_row _ _ _ hc]
  obtain ⟨h1, h2, h3, h4⟩ := h
  have hr := h1.1
  have hnh := h2.2.1
  have hnd := h2.2.2.1
  have h2' := Xmw_c (τ1 := xu (xu τ 128 32 x) 128 33 y) h2 (fun c hc => e3 c (by omega)) (fun k hk => by rw [e3 121 (by decide)])
  refine ⟨?_, ?_, ?_, ?_⟩
  · rw [e1 0 (by decide)]
    unfold Xcw at *
    rw [e1 _ (by omega), e1 _ (by omega), e1 5 (by decide), e1 7 (by decide), e1 8 (by decide), e1 0 (by decide), e1 92 (by decide), e1 93 (by decide), e1 94 (by decide), e1 18 (by decide), e1 20 (by decide)]
    exact h1
  · unfold Xmw at *
    rw [e1 5 (by decide), e1 6 (by decide), e1 7 (by decide), e1 8 (by decide), e1 0 (by decide), e1 92 (by decide), e1 93 (by decide), e1 94 (by decide), e1 20 (by decide)]
    exact h2'
  · rw [e1 18 (by decide), e1 19 (by decide), e1 20 (by decide)]
    refine ⟨?_, h3.2⟩
    have := h3.1
    simp [xu]
    omega
  · rw [e1 18 (by decide), e1 19 (by decide), e1 20 (by decide), e1 0 (by decide), e1 92 (by decide)]
    obtain ⟨t3, t4, t5⟩ := h4
    refine ⟨?_, fun u v z => ?_, fun u v z => ?_⟩
    · simp [xu]; omega
    · rw [xu_slot _ _ _ (by omega), xu_slot _ _ _ (by omega), xu_slot _ _ _ (by omega), xu_slot _ _ _ (by omega), xu_slot _ _ _ (by omega), xu_slot _ _ _ (by omega)]
      exact t4 u v z
    · rw [xu_slot _ _ _ (by omega), xu_slot _ _ _ (by omega)]
      exact t5 u v z
theorem Xdd_move {B m : Int} {cd : Int → Int} {σ τ : xW} {h x y : Int} (hx : (0 ≤ x ∧ x ≤ 9) ∧ (0 ≤ y ∧ y ≤ 9)) (hh : 0 ≤ h ∧ h < σ 0 14) (hd : Xdd B m cd 128 σ τ) : Xdd B m cd 128 (xu σ 18 h (10 * x + y)) (xu (xu τ 128 h x) 128 (8 + h) y) := by
  have e1 : ∀ c, c ≠ 18 → xu σ 18 h (10 * x + y) c = σ c := fun c hc => xu_row _ _ _ hc
  have e3 : ∀ c, c ≠ 128 → xu (xu τ 128 h x) 128 (8 + h) y c = τ c := fun c hc => by rw [xu_row _ _ _ hc, xu_row _ _ _ hc]
  obtain ⟨h1, h2, h3, h4⟩ := hd
  have hr := h1.1
  have hnh := h2.2.1
  have hnd := h2.2.2.1
  have h2' := Xmw_c (τ1 := xu (xu τ 128 h x) 128 (8 + h) y) h2 (fun c hc => e3 c (by omega)) (fun k hk => by rw [e3 121 (by decide)])
  have e18 : ∀ u, 0 ≤ u → u < 8 → 0 ≤ xu σ 18 h (10 * x + y) 18 u ∧ xu σ 18 h (10 * x + y) 18 u ≤ 99 := fun u u1 u2 => by
    by_cases hu : u = h
    · rw [hu, xu_same]; omega
    · rw [xu_slot _ _ _ hu]; exact h3.2.1 u u1 u2
  refine ⟨?_, ?_, ?_, ?_⟩
  · rw [e1 0 (by decide)]
    unfold Xcw at *
    rw [e1 _ (by omega), e1 _ (by omega), e1 5 (by decide), e1 7 (by decide), e1 8 (by decide), e1 0 (by decide), e1 92 (by decide), e1 93 (by decide), e1 94 (by decide), e1 20 (by decide)]
    exact ⟨h1.1, h1.2.1, h1.2.2.1, h1.2.2.2.1, h1.2.2.2.2.1, h1.2.2.2.2.2.1, h1.2.2.2.2.2.2.1, h1.2.2.2.2.2.2.2.1, e18, h1.2.2.2.2.2.2.2.2.2⟩
  · unfold Xmw at *
    rw [e1 5 (by decide), e1 6 (by decide), e1 7 (by decide), e1 8 (by decide), e1 0 (by decide), e1 92 (by decide), e1 93 (by decide), e1 94 (by decide), e1 20 (by decide)]
    exact h2'
  · rw [e1 17 (by decide), e1 19 (by decide), e1 20 (by decide)]
    exact ⟨h3.1, e18, h3.2.2⟩
  · rw [e1 17 (by decide), e1 19 (by decide), e1 20 (by decide), e1 0 (by decide), e1 92 (by decide)]
    obtain ⟨t3, t4, t5⟩ := h4
    refine ⟨?_, fun u v z => ?_, fun u v z => ?_⟩
    · simp only [xu]
      simp
      repeat rw [if_neg (by omega)]
      exact t3
    · have hq := t4 u v z
      by_cases hu : u = h
      · subst hu
        rw [xu_same, xu_same, xu_slot _ _ _ (by omega), xu_same, xu_slot _ _ _ (by omega), xu_slot _ _ _ (by omega)]
        exact ⟨rfl, hx.2.1, hx.2.2, hq.2.2.2⟩
      · rw [xu_slot _ _ _ hu, xu_slot _ _ _ (by omega), xu_slot _ _ _ hu, xu_slot _ _ _ (by omega), xu_slot _ _ _ (by omega), xu_slot _ _ _ (by omega), xu_slot _ _ _ (by omega)]
        exact hq
    · rw [xu_slot _ _ _ (by omega), xu_slot _ _ _ (by omega)]
      exact t5 u v z
theorem xbd_n {α : Type} {r : Int} {s : xW} {k : Int → xW → Option α} : xbd (some (r, s)) k = k r s := (congrArg (fun o => xbd o k) (Eq.refl (some (r, s)))).trans rfl
theorem xbp_n {α β : Type} {r : β} {k : β → Option α} : xbp (some r) k = k r := (congrArg (fun o => xbp o k) (Eq.refl (some r))).trans rfl
theorem years_loop {B m : Int} {cd : Int → Int} {n : Int} {σ0 τ0 : xW} {k : Int → Int → Int → xW → Option (Int × xW)} {k' : Int → xW → Option (Int × xW)} {nx : Int → Int} {dr : Int → Int → Int} (hdc : ∀ {n : Int} {s : xW} (d : Int), s 0 15 = d → 0 < n ∧ n ≤ 100 → F_X10_draw n s = some (dr d n, xu s 0 15 (nx d))) (hdm : ∀ {n : Int} {s : xW} (d : Int), s 121 48 = d → 0 < n ∧ n ≤ 100 → F_X11_draws n s = some (dr d n, xu s 121 48 (nx d))) (hdr : ∀ {d n : Int}, 0 < n → 0 ≤ dr d n ∧ dr d n < n) (hB : 0 ≤ B ∧ B ≤ 1999900) (hn : 0 ≤ n ∧ n ≤ 60) :
    ∀ (j i : Nat) (σ τ : xW) (f f' : Nat) (S M : Int), (i : Int) + j = n → j < f → j < f' → Xdd (B + i) m cd 128 σ τ → XyC σ0 σ → XyM τ0 τ → σ 0 15 = τ 121 48 → τ 121 30 = S → τ 121 31 = M → (0 ≤ S ∧ S ≤ 64 * i) → (0 ≤ M ∧ M ≤ i) →
    ∃ S' M' σ' τ', F_X10_years_37 n f S M i σ k = k S' M' n σ' ∧ F_X11_years_39 n f' i τ k' = k' n τ' ∧ Xdd (B + n) m cd 128 σ' τ' ∧ XyC σ0 σ' ∧ XyM τ0 τ' ∧ τ' 121 30 = S' ∧ τ' 121 31 = M' ∧ (0 ≤ S' ∧ S' ≤ 4000) ∧ (0 ≤ M' ∧ M' ≤ 60) := by
  intro j
  induction j with
  | zero =>
    intro i σ τ f f' S M hi hf hf' hd hc hm e0 e1 e2 b1 b2
    obtain ⟨f, rfl⟩ : ∃ g, f = g + 1 := ⟨f - 1, by omega⟩
    obtain ⟨f', rfl⟩ : ∃ g, f' = g + 1 := ⟨f' - 1, by omega⟩
    refine ⟨S, M, σ, τ, ?_, ?_, by rw [show n = (i : Int) by omega]; exact hd, hc, hm, e1, e2, by omega, by omega⟩
    · unfold F_X10_years_37
      rw [xw_sm (by omega) (by omega), xw_sm (by omega) (by omega), if_neg (by omega), show n = (i : Int) by omega]
    · unfold F_X11_years_39
      rw [xw_sm (by omega) (by omega), xw_sm (by omega) (by omega), if_neg (by omega), show n = (i : Int) by omega]
  | succ j ih =>
    intro i σ τ f f' S M hi hf hf' hd hc hm e0 e1 e2 b1 b2
    obtain ⟨f, rfl⟩ : ∃ g, f = g + 1 := ⟨f - 1, by omega⟩
    obtain ⟨f', rfl⟩ : ∃ g, f' = g + 1 := ⟨f' - 1, by omega⟩
    have hnh := hd.2.1.2.1
    have e3 : τ 121 3 = σ 0 14 := hd.2.1.2.2.2.1
    -- the next round, out of any two worlds that are fit
    have next : ∀ (S1 M1 : Int) (σ1 τ1 : xW), Xdd (B + ((i + 1 : Nat) : Int)) m cd 128 σ1 τ1 → XyC σ0 σ1 → XyM τ0 τ1 → σ1 0 15 = τ1 121 48 → τ1 121 30 = S1 → τ1 121 31 = M1 → (0 ≤ S1 ∧ S1 ≤ 64 * ((i + 1 : Nat) : Int)) → (0 ≤ M1 ∧ M1 ≤ ((i + 1 : Nat) : Int)) → ∃ S' M' σ' τ', F_X10_years_37 n f S1 M1 ((i : Int) + 1) σ1 k = k S' M' n σ' ∧ F_X11_years_39 n f' ((i : Int) + 1) τ1 k' = k' n τ' ∧ Xdd (B + n) m cd 128 σ' τ' ∧ XyC σ0 σ' ∧ XyM τ0 τ' ∧ τ' 121 30 = S' ∧ τ' 121 31 = M' ∧ (0 ≤ S' ∧ S' ≤ 4000) ∧ (0 ≤ M' ∧ M' ≤ 60) := by
      intro S1 M1 σ1 τ1 x1 x2 x3 x4 x5 x6 x7 x8
      rw [show ((i : Int) + 1) = ((i + 1 : Nat) : Int) by omega]
      exact ih (i + 1) σ1 τ1 f f' S1 M1 (by omega) (by omega) (by omega) x1 x2 x3 x4 x5 x6 x7 x8
    have mono : ∀ {σ1 τ1 : xW}, Xdd (B + i) m cd 128 σ1 τ1 → Xdd (B + ((i + 1 : Nat) : Int)) m cd 128 σ1 τ1 := fun z => ⟨z.1, z.2.1, Xti_mono (by omega) z.2.2.1, z.2.2.2⟩
    generalize hD : τ 121 48 = D at *
    unfold F_X10_years_37 F_X11_years_39
    simp only [xbp_s, xbd_s, xls, xli, xlt, xjn]
    rw [xw_sm (x := (i : Int)) (by omega) (by omega), xw_sm (x := n) (by omega) (by omega), if_pos (by omega), if_pos (by omega), hdc D e0 (by decide), hdm D hD (by decide)]
    simp only [xbp_n, xbd_n, xls, xli, xlt, xjn]
    have r4 := hdr (d := D) (n := 4) (by decide)
    have hd1 := Xdd_draw (x := nx D) (y := nx D) hd
    have hc1 : ∀ {σ1 : xW} {x : Int}, XyC σ0 σ1 → XyC σ0 (xu σ1 0 15 x) := fun z => ⟨fun c c1 c2 c3 c4 c5 c6 c7 c8 c9 c10 => by rw [xu_row _ _ _ c1]; exact z.1 c c1 c2 c3 c4 c5 c6 c7 c8 c9 c10, fun k hk => by rw [xu_slot _ _ _ hk]; exact z.2 k hk⟩
    have hm1 : ∀ {τ1 : xW} {x : Int}, XyM τ0 τ1 → XyM τ0 (xu τ1 121 48 x) := fun z => ⟨fun c c1 c2 c3 c4 c5 => by rw [xu_row _ _ _ c2]; exact z.1 c c1 c2 c3 c4 c5, fun k k1 k2 k3 => by rw [xu_slot _ _ _ k3]; exact z.2 k k1 k2 k3⟩
    rw [xw_sm (x := dr D 4) (by omega) (by omega)]
    by_cases w1 : dr D 4 < 2
    · rw [if_pos w1, if_pos w1]
      obtain ⟨p, σ1, τ1, g1, g2, g3, g4, g5, g6, g7, g8, g9, g10⟩ := day_d (by omega) (Or.inr rfl) hd1
      rw [g1, g2]
      simp only [xbp_n, xbd_n, xls, xli, xlt, xjn]
      rw [xw_sm (by omega) (by omega)]
      refine next _ _ σ1 τ1 (by rw [show B + ((i + 1 : Nat) : Int) = B + i + 1 by omega]; exact g4) ?_ ?_ ?_ ?_ ?_ ?_ ?_
      · have z := hc1 (x := nx D) hc
        exact ⟨fun c c1 c2 c3 c4 c5 c6 c7 c8 c9 c10 => by rw [g5 c c2 c4 c5 c6 c7 c8 c9 c10]; exact z.1 c c1 c2 c3 c4 c5 c6 c7 c8 c9 c10, fun k hk => by rw [g5 0 (by decide) (by decide) (by decide) (by decide) (by decide) (by decide) (by decide) (by decide)]; exact z.2 k hk⟩
      · have z := hm1 (x := nx D) hm
        exact ⟨fun c c1 c2 c3 c4 c5 => by rw [g7 c c1 c2 c3 c4 c5]; exact z.1 c c1 c2 c3 c4 c5, fun k k1 k2 k3 => by rw [g8 k k1 k2]; exact z.2 k k1 k2 k3⟩
      · rw [g5 0 (by decide) (by decide) (by decide) (by decide) (by decide) (by decide) (by decide) (by decide), xu_same, g8 48 (by decide) (by decide), xu_same]
      · rw [g9, xu_slot _ _ _ (by decide), e1]
      · rw [g10, xu_slot _ _ _ (by decide), e2]
      · omega
      · split <;> omega
    · rw [if_neg w1, if_neg w1]
      by_cases w2 : dr D 4 = 2
      · rw [if_pos w2, if_neg (fun z => z w2)]
        simp only [if_pos w2]
        rw [hdc (nx D) (xu_same _ _ _ _) (by decide), hdm (nx D) (xu_same _ _ _ _) (by decide)]
        simp only [xbp_n, xbd_n, xls, xli, xlt, xjn]
        rw [hdc (nx (nx D)) (xu_same _ _ _ _) (by decide), hdm (nx (nx D)) (xu_same _ _ _ _) (by decide)]
        simp only [xbp_n, xbd_n, xls, xli, xlt, xjn]
        have ra := hdr (d := nx D) (n := 10) (by decide)
        have rb := hdr (d := nx (nx D)) (n := 10) (by decide)
        have hd3 := Xdd_draw (x := nx (nx (nx D))) (y := nx (nx (nx D))) (Xdd_draw (x := nx (nx D)) (y := nx (nx D)) hd1)
        have hg3 := hd3.2.2.1.1.1
        have hgr := hd3.2.2.2.1.1
        have hxy : (0 ≤ dr (nx D) 10 ∧ dr (nx D) 10 ≤ 9) ∧ (0 ≤ dr (nx (nx D)) 10 ∧ dr (nx (nx D)) 10 ≤ 9) := by omega
        rw [haul_c (by omega) (by omega) hg3, haulsTo_m (by omega) (by omega) (Or.inr rfl) (by omega), if_pos hxy, if_pos hxy]
        simp only [xbp_n, xbd_n, xls, xli, xlt, xjn]
        have hdx := Xdd_haul (x := dr (nx D) 10) (y := dr (nx (nx D)) 10) (by omega) hd3
        refine next S M _ _ (mono hdx) ?_ ?_ ?_ ?_ ?_ (by omega) (by omega)
        · have z := hc1 (x := nx (nx (nx D))) (hc1 (x := nx (nx D)) (hc1 (x := nx D) hc))
          exact ⟨fun c c1 c2 c3 c4 c5 c6 c7 c8 c9 c10 => by rw [xu_row _ _ _ c2]; exact z.1 c c1 c2 c3 c4 c5 c6 c7 c8 c9 c10, fun k hk => by rw [xu_row _ _ _ (by decide)]; exact z.2 k hk⟩
        · have z := hm1 (x := nx (nx (nx D))) (hm1 (x := nx (nx D)) (hm1 (x := nx D) hm))
          exact ⟨fun c c1 c2 c3 c4 c5 => by rw [xu_row _ _ _ c1, xu_row _ _ _ c1]; exact z.1 c c1 c2 c3 c4 c5, fun k k1 k2 k3 => by rw [xu_row _ _ _ (by decide), xu_row _ _ _ (by decide)]; exact z.2 k k1 k2 k3⟩
        · rw [xu_row _ _ _ (by decide), xu_same, xu_row _ _ _ (by decide), xu_row _ _ _ (by decide), xu_same]
        · rw [xu_row _ _ _ (by decide), xu_row _ _ _ (by decide), xu_slot _ _ _ (by decide), xu_slot _ _ _ (by decide), xu_slot _ _ _ (by decide), e1]
        · rw [xu_row _ _ _ (by decide), xu_row _ _ _ (by decide), xu_slot _ _ _ (by decide), xu_slot _ _ _ (by decide), xu_slot _ _ _ (by decide), e2]
      · rw [if_neg w2, if_pos w2, xu_slot _ _ _ (show (14 : Int) ≠ 15 by decide), xu_slot _ _ _ (show (3 : Int) ≠ 48 by decide), e3, xw_sm (x := σ 0 14) (by omega) (by omega)]
        by_cases w3 : 0 < σ 0 14
        · rw [if_pos w3, if_pos w3]
          simp only [if_neg w2]
          rw [hdc (nx D) (xu_same _ _ _ _) (by omega), hdm (nx D) (xu_same _ _ _ _) (by omega)]
          simp only [xbp_n, xbd_n, xls, xli, xlt, xjn]
          rw [hdc (nx (nx D)) (xu_same _ _ _ _) (by decide), hdm (nx (nx D)) (xu_same _ _ _ _) (by decide)]
          simp only [xbp_n, xbd_n, xls, xli, xlt, xjn]
          rw [hdc (nx (nx (nx D))) (xu_same _ _ _ _) (by decide), hdm (nx (nx (nx D))) (xu_same _ _ _ _) (by decide)]
          simp only [xbp_n, xbd_n, xls, xli, xlt, xjn]
          have rh := hdr (d := nx D) (n := σ 0 14) w3
          have ra := hdr (d := nx (nx D)) (n := 10) (by decide)
          have rb := hdr (d := nx (nx (nx D))) (n := 10) (by decide)
          have hd4 := Xdd_draw (x := nx (nx (nx (nx D)))) (y := nx (nx (nx (nx D)))) (Xdd_draw (x := nx (nx (nx D))) (y := nx (nx (nx D))) (Xdd_draw (x := nx (nx D)) (y := nx (nx D)) hd1))
          have hmr4 := Xdd_mr (by omega) hd4
          generalize hσ4 : xu (xu (xu (xu σ 0 15 (nx D)) 0 15 (nx (nx D))) 0 15 (nx (nx (nx D)))) 0 15 (nx (nx (nx (nx D)))) = σ4 at *
          generalize hτ4 : xu (xu (xu (xu τ 121 48 (nx D)) 121 48 (nx (nx D))) 121 48 (nx (nx (nx D)))) 121 48 (nx (nx (nx (nx D)))) = τ4 at *
          have e14 : σ4 0 14 = σ 0 14 := by rw [← hσ4]; simp [xu]
          have hxy : ((0 ≤ dr (nx (nx D)) 10 ∧ dr (nx (nx D)) 10 ≤ 9) ∧ (0 ≤ dr (nx (nx (nx D))) 10 ∧ dr (nx (nx (nx D))) 10 ≤ 9)) ∧ (0 ≤ dr (nx D) (σ 0 14) ∧ dr (nx D) (σ 0 14) < σ 0 14) := by omega
          rw [move_c (by omega) (by omega) (by omega) hd4.2.1.2.1 hd4.1.2.2.2.2.2.2.2.2.1, movesTo_m (by omega) (by omega) (by omega) (Or.inr rfl) hd4.2.1.2.1 hd4.2.1.2.2.2.1 hmr4.1.2.2.2.2.2, e14, if_pos hxy, if_pos hxy]
          simp only [xbp_n, xbd_n, xls, xli, xlt, xjn]
          have hdx := Xdd_move (h := dr (nx D) (σ 0 14)) (x := dr (nx (nx D)) 10) (y := dr (nx (nx (nx D))) 10) (by omega) (by omega) hd4
          refine next S M _ _ (mono hdx) ?_ ?_ ?_ ?_ ?_ (by omega) (by omega)
          · have z := hc1 (x := nx (nx (nx (nx D)))) (hc1 (x := nx (nx (nx D))) (hc1 (x := nx (nx D)) (hc1 (x := nx D) hc)))
            rw [hσ4] at z
            exact ⟨fun c c1 c2 c3 c4 c5 c6 c7 c8 c9 c10 => by rw [xu_row _ _ _ c3]; exact z.1 c c1 c2 c3 c4 c5 c6 c7 c8 c9 c10, fun k hk => by rw [xu_row _ _ _ (by decide)]; exact z.2 k hk⟩
          · have z := hm1 (x := nx (nx (nx (nx D)))) (hm1 (x := nx (nx (nx D))) (hm1 (x := nx (nx D)) (hm1 (x := nx D) hm)))
            rw [hτ4] at z
            exact ⟨fun c c1 c2 c3 c4 c5 => by rw [xu_row _ _ _ c1, xu_row _ _ _ c1]; exact z.1 c c1 c2 c3 c4 c5, fun k k1 k2 k3 => by rw [xu_row _ _ _ (by decide), xu_row _ _ _ (by decide)]; exact z.2 k k1 k2 k3⟩
          · rw [xu_row _ _ _ (by decide), xu_row _ _ _ (by decide), xu_row _ _ _ (by decide), ← hσ4, ← hτ4, xu_same, xu_same]
          · rw [xu_row _ _ _ (by decide), xu_row _ _ _ (by decide), ← hτ4, xu_slot _ _ _ (by decide), xu_slot _ _ _ (by decide), xu_slot _ _ _ (by decide), xu_slot _ _ _ (by decide), e1]
          · rw [xu_row _ _ _ (by decide), xu_row _ _ _ (by decide), ← hτ4, xu_slot _ _ _ (by decide), xu_slot _ _ _ (by decide), xu_slot _ _ _ (by decide), xu_slot _ _ _ (by decide), e2]
        · rw [if_neg w3, if_neg w3]
          refine next S M _ _ (mono hd1) (hc1 hc) (hm1 hm) ?_ ?_ ?_ (by omega) (by omega)
          · rw [xu_same, xu_same]
          · rw [xu_slot _ _ _ (by decide), e1]
          · rw [xu_slot _ _ _ (by decide), e2]
theorem op_years {a n : Int} (ha : I32 a) (hn : I32 n) : XO (F_X10_years a n) (F_X11_years a n) := by
  intro B σ τ hB hB1 hR
  by_cases q : 1 ≤ n ∧ n ≤ 60
  · obtain ⟨σ1, a1, a3, a5⟩ := note_o hR
    obtain ⟨h1, h2, h3, h4, h5, h6, h7, h8, h9, h10⟩ := id hR
    have hnh := h5.1
    have hnd := h5.2.2.1
    have hnote := note_c h7.1
    rw [a1] at hnote
    have hnote := Option.some.inj hnote
    -- the reference's copy
    obtain ⟨arr, c1, c2⟩ := copies_m (s := xu (xu τ 121 0 0) 121 48 a)
    generalize ht : xu (xu (xrow (xu (xu τ 121 0 0) 121 48 a) 128 arr) 121 30 0) 121 31 0 = t
    have f1 : ∀ c, c ≠ 121 → c ≠ 128 → t c = τ c := fun c x y => by rw [← ht, xu_row _ _ _ x, xu_row _ _ _ x, xrow_o y, xu_row _ _ _ x, xu_row _ _ _ x]
    have f2 : ∀ k, k ≠ 0 → k ≠ 30 → k ≠ 31 → k ≠ 48 → t 121 k = τ 121 k := fun k k1 k2 k3 k4 => by rw [← ht, xu_slot _ _ _ k3, xu_slot _ _ _ k2, xrow_o (by decide), xu_slot _ _ _ k4, xu_slot _ _ _ k1]
    have f3 : ∀ x, 0 ≤ x → x < 40 → t 128 x = τ 127 x := fun x x1 x2 => by rw [← ht, xu_row _ _ _ (by decide), xu_row _ _ _ (by decide), xrow_s, c1 x x1 x2, xu_row _ _ _ (by decide), xu_row _ _ _ (by decide)]
    have f4 : t 121 48 = a := by rw [← ht]; simp [xu, xrow]
    have f5 : t 121 30 = 0 := by rw [← ht]; simp [xu]
    have f6 : t 121 31 = 0 := by rw [← ht]; simp [xu]
    have hdd := XR_dd a3
    have hd0 : Xdd (B + (0 : Nat)) (τ 121 23) (τ 131) 128 (xu σ1 0 15 a) t := by
      have e1 : ∀ c, c ≠ 0 → xu σ1 0 15 a c = σ1 c := fun c hc => xu_row _ _ _ hc
      have e2 : ∀ k, k ≠ 15 → xu σ1 0 15 a 0 k = σ1 0 k := fun k hk => xu_slot _ _ _ hk
      obtain ⟨d1, d2, d3, d4⟩ := hdd
      have hr := d1.1
      have d2' := Xmw_c (τ1 := t) d2 (fun c hc => f1 c (by omega) (by omega)) (fun k hk => f2 k (by omega) (by omega) (by omega) (by omega))
      rw [show B + ((0 : Nat) : Int) = B by omega]
      refine ⟨?_, ?_, ?_, ?_⟩
      · rw [e2 4 (by decide)]
        unfold Xcw at *
        rw [e1 _ (by omega), e1 _ (by omega), e1 5 (by decide), e1 7 (by decide), e1 8 (by decide), e2 14 (by decide), e1 92 (by decide), e1 93 (by decide), e1 94 (by decide), e1 18 (by decide), e1 20 (by decide)]
        exact d1
      · unfold Xmw at *
        rw [e1 5 (by decide), e1 6 (by decide), e1 7 (by decide), e1 8 (by decide), e2 14 (by decide), e1 92 (by decide), e1 93 (by decide), e1 94 (by decide), e1 20 (by decide)]
        exact d2'
      · rw [e1 17 (by decide), e1 18 (by decide), e1 19 (by decide), e1 20 (by decide)]; exact d3
      · rw [e1 17 (by decide), e1 18 (by decide), e1 19 (by decide), e1 20 (by decide), e2 14 (by decide), e1 92 (by decide)]
        exact Xtr_row d2.2.1.2 d2.2.2.1.2 d4 f3
    obtain ⟨S, M, σ2, τ2, b1, b2, b3, b4, b5, b6, b7, b8, b9⟩ := years_loop (k := fun (l3_60 : Int) (l4_61 : Int) (l5_62 : Int) (s63 : xW) => xbp (F_X6_tell_ (xw (s63 17 2)) (xw l4_61) s63) fun s65 => xbp (F_X3_takeBack s65) fun s67 => some (l3_60, s67)) (k' := fun (l3_55 : Int) (s56 : xW) => xls (xu s56 121 1 0) fun s57 => xbp (F_X11_enters (xw (s57 128 36)) s57) fun s60 => xbp (F_X11_enters (xw (s60 121 31)) s60) fun s62 => some ((s62 121 30), s62)) (σ0 := σ1) (τ0 := t) (n := n) (fun d e z => by rw [draw_c z, e]) (fun d e z => by rw [draw_m z, e]) xdr_r (by omega) (by omega) n.toNat 0 (xu σ1 0 15 a) t xN xN 0 0 (by omega) (by have := xN_ge; omega) (by have := xN_ge; omega) hd0 ⟨fun c c1 _ _ _ _ _ _ _ _ _ => xu_row _ _ _ c1, fun k hk => xu_slot _ _ _ hk⟩ ⟨fun c _ _ _ _ _ => rfl, fun k _ _ _ => rfl⟩ (by rw [xu_same, f4]) f5 f6 (by omega) (by omega)
    have hp := b3.2.2.1.1.2.2.1
    have e36 : τ2 128 36 = σ2 17 2 := b3.2.2.2.1.2.2.1.symm
    have g21 : σ2 21 = σ 21 := by rw [b4.1 21 (by decide) (by decide) (by decide) (by decide) (by decide) (by decide) (by decide) (by decide) (by decide) (by decide), a5 21 (by omega)]
    have hfull : ∀ c, c ≠ 0 → c ≠ 17 → c ≠ 18 → c ≠ 19 → c ≠ 90 → c ≠ 91 → c ≠ 11 → c ≠ 15 → c ≠ 95 → c ≠ 96 → σ2 c = σ1 c := b4.1
    generalize hσ3 : xt2 σ2 (σ2 17 2) M = σ3
    have g3 : ∀ c, c ≠ 3 → c ≠ 4 → σ3 c = σ2 c := fun c x y => by rw [← hσ3]; exact xt2_o x y
    have p1 := h7.1
    have htb := takeBack_c (σ := σ3) (by rw [g3 21 (by decide) (by decide), g21]; exact p1)
    rw [g3 21 (by decide) (by decide), g21] at htb
    have eC : F_X10_years a n σ = some (S, xtc σ3 17 (23 + 4 * σ 21 1)) := by
      unfold F_X10_years
      simp only [xbp_s, xbd_s, xls, xli, xlt, xjn]
      rw [xw_id hn, if_pos q.1, if_neg (by omega), a1]
      simp only [xbp_s, xbd_s, xls, xli, xlt, xjn]
      refine Eq.trans b1 ?_
      rw [tell_2, xw_sm (by omega) (by omega), xw_sm (by omega) (by omega)]
      simp only [xbp_s, xbd_s, xls, xli, xlt, xjn]
      rw [hσ3, htb]
      rfl
    have eM : F_X11_years a n τ = some (S, xe2 τ2 (σ2 17 2) M) := by
      unfold F_X11_years F_X11_goesOn
      simp only [xbp_s, xbd_s, xls, xli, xlt, xjn]
      rw [xw_id hn, in_eq (by omega) (by omega) (by omega), if_pos q]
      simp only [xbp_s, xbd_s, xls, xli, xlt, xjn]
      rw [if_neg (by decide), c2]
      simp only [xbp_s, xbd_s, xls, xli, xlt, xjn]
      rw [xgd_t (show (128 : Int) ∈ xNows by decide), ht]
      have hz : ∀ kk : Int → xW → Option xW, F_X11_goesOn_12 128 0 xN 0 t kk = kk 0 t := fun kk => by
        obtain ⟨f, hf, -⟩ := xN_s
        rw [hf]
        unfold F_X11_goesOn_12
        rw [if_neg (by decide)]
      rw [hz]
      simp only [xbp_s, xbd_s, xls, xli, xlt, xjn]
      refine Eq.trans b2 ?_
      simp only [xbp_s, xbd_s, xls, xli, xlt, xjn]
      rw [xu_row _ _ _ (show (128 : Int) ≠ 121 by decide), e36, xw_sm (by omega) (by omega), ent_1]
      simp only [xbp_s, xbd_s, xls, xli, xlt, xjn]
      rw [xe1_k (by decide), b7, xw_sm (by omega) (by omega), ent_2]
      simp only [xbp_s, xbd_s, xls, xli, xlt, xjn]
      rw [xe2_k (by decide), b6]
    -- all is as it was, but for the row
    have E : ∀ c, c ≠ 0 → c ≠ 3 → c ≠ 4 → (c < 17 ∨ 20 < c) → (c < 23 ∨ 86 < c) → c ≠ 90 → c ≠ 91 → c ≠ 11 → c ≠ 15 → c ≠ 95 → c ≠ 96 → xtc σ3 17 (23 + 4 * σ 21 1) c = σ c := fun c c0 c3 c4 c5 c6 c7 c8 c9 c10 c11 c12 => by
      rw [xtc_far (by omega), g3 c c3 c4, hfull c c0 (by omega) (by omega) (by omega) c7 c8 c9 c10 c11 c12, a5 c c6]
    have E0 : ∀ k, k ≠ 15 → xtc σ3 17 (23 + 4 * σ 21 1) 0 k = σ 0 k := fun k hk => by
      rw [xtc_far (by omega), g3 0 (by decide) (by decide), b4.2 k hk, a5 0 (by omega)]
    have hslot : ∀ c, 23 ≤ c → c ≤ 86 → σ3 c = σ1 c := fun c x y => by
      rw [g3 c (by omega) (by omega), hfull c (by omega) (by omega) (by omega) (by omega) (by omega) (by omega) (by omega) (by omega) (by omega) (by omega)]
    have F1 : ∀ c, c ≠ 121 → c ≠ 122 → c ≠ 128 → c ≠ 133 → c ≠ 134 → c ≠ 135 → xe2 τ2 (σ2 17 2) M c = τ c := fun c x1 x2 x3 x4 x5 x6 => by
      rw [xe2_o x1 x2, b5.1 c x3 x1 x4 x5 x6, f1 c x1 x3]
    have F2 : ∀ k, k ≠ 0 → k ≠ 1 → k ≠ 30 → k ≠ 31 → k ≠ 48 → xe2 τ2 (σ2 17 2) M 121 k = τ 121 k := fun k x1 x2 x3 x4 x5 => by
      rw [xe2_k x2, b5.2 k x3 x4 x5, f2 k x1 x3 x4 x5]
    refine ⟨_, _, _, eC, eM, XR_mono (show B ≤ B + 300 by omega) ⟨?_, ?_, ?_, ?_, ?_, ?_, ?_, ?_, ?_, ?_⟩⟩
    · exact Xtext_c (by rw [E 1 (by decide) (by decide) (by decide) (by omega) (by omega) (by decide) (by decide) (by decide) (by decide) (by decide) (by decide)]) (E 2 (by decide) (by decide) (by decide) (by omega) (by omega) (by decide) (by decide) (by decide) (by decide) (by decide) (by decide)) (Xtext_m (F2 15 (by decide) (by decide) (by decide) (by decide) (by decide)) (F1 129 (by decide) (by decide) (by decide) (by decide) (by decide) (by decide)) h1)
    · refine Xrow_2 (a := σ2 17 2) (b := M) ?_ ?_ rfl (by simp [xe2, xe1, xu])
      · rw [xtc_far (by omega), ← hσ3]; rfl
      · rw [xtc_far (by omega), ← hσ3]; simp [xt2, xt1, xu]
    · exact Xsky_c (by rw [E 5 (by decide) (by decide) (by decide) (by omega) (by omega) (by decide) (by decide) (by decide) (by decide) (by decide) (by decide)]) (E 6 (by decide) (by decide) (by decide) (by omega) (by omega) (by decide) (by decide) (by decide) (by decide) (by decide) (by decide)) (by rw [E 7 (by decide) (by decide) (by decide) (by omega) (by omega) (by decide) (by decide) (by decide) (by decide) (by decide) (by decide)]) (E 8 (by decide) (by decide) (by decide) (by omega) (by omega) (by decide) (by decide) (by decide) (by decide) (by decide) (by decide)) (Xsky_m (F2 6 (by decide) (by decide) (by decide) (by decide) (by decide)) (F1 123 (by decide) (by decide) (by decide) (by decide) (by decide) (by decide)) (F2 7 (by decide) (by decide) (by decide) (by decide) (by decide)) (F1 124 (by decide) (by decide) (by decide) (by decide) (by decide) (by decide)) h3)
    · exact Xrule_c (E0 4 (by decide)) (E0 5 (by decide)) (fun _ => ⟨by rw [E 9 (by decide) (by decide) (by decide) (by omega) (by omega) (by decide) (by decide) (by decide) (by decide) (by decide) (by decide)], E 10 (by decide) (by decide) (by decide) (by omega) (by omega) (by decide) (by decide) (by decide) (by decide) (by decide) (by decide)⟩) (fun _ => ⟨by rw [E 13 (by decide) (by decide) (by decide) (by omega) (by omega) (by decide) (by decide) (by decide) (by decide) (by decide) (by decide)], E 14 (by decide) (by decide) (by decide) (by omega) (by omega) (by decide) (by decide) (by decide) (by decide) (by decide) (by decide)⟩) (Xrule_m (F2 23 (by decide) (by decide) (by decide) (by decide) (by decide)) (F1 131 (by decide) (by decide) (by decide) (by decide) (by decide) (by decide)) h4)
    · exact Xplan_c (E0 14 (by decide)) (by rw [E 92 (by decide) (by decide) (by decide) (by omega) (by omega) (by decide) (by decide) (by decide) (by decide) (by decide) (by decide)]) (E 93 (by decide) (by decide) (by decide) (by omega) (by omega) (by decide) (by decide) (by decide) (by decide) (by decide) (by decide)) (E 94 (by decide) (by decide) (by decide) (by omega) (by omega) (by decide) (by decide) (by decide) (by decide) (by decide) (by decide)) (Xplan_m (F2 3 (by decide) (by decide) (by decide) (by decide) (by decide)) (F2 4 (by decide) (by decide) (by decide) (by decide) (by decide)) (F1 125 (by decide) (by decide) (by decide) (by decide) (by decide) (by decide)) (F1 126 (by decide) (by decide) (by decide) (by decide) (by decide) (by decide)) h5)
    · unfold Xtown
      rw [E0 14 (by decide), E 92 (by decide) (by decide) (by decide) (by omega) (by omega) (by decide) (by decide) (by decide) (by decide) (by decide) (by decide), F1 127 (by decide) (by decide) (by decide) (by decide) (by decide) (by decide)]
      have z1 : Xti B (σ1 (23 + 4 * σ 21 1)) (σ1 (23 + 4 * σ 21 1 + 1)) (σ1 (23 + 4 * σ 21 1 + 2)) (σ1 (23 + 4 * σ 21 1 + 3)) := by rw [hnote]; exact Xti_tc (u := 17) h6.1
      have z2 : Xtr (σ 0 14) (σ 92 0) (σ1 (23 + 4 * σ 21 1)) (σ1 (23 + 4 * σ 21 1 + 1)) (σ1 (23 + 4 * σ 21 1 + 2)) (σ1 (23 + 4 * σ 21 1 + 3)) (τ 127) := by rw [hnote]; exact Xtr_tc (u := 17) hnh.2 hnd.2 h6.2
      rw [← hslot _ (by omega) (by omega), ← hslot _ (by omega) (by omega), ← hslot _ (by omega) (by omega), ← hslot _ (by omega) (by omega)] at z1 z2
      exact ⟨Xti_tc (t := 17) z1, Xtr_tc (t := 17) hnh.2 hnd.2 z2⟩
    · have a7 := a3.2.2.2.2.2.2.1
      refine Xpast_c (σ := σ1) ?_ ?_ ?_ ?_ ?_ (Xpast_m (F2 28 (by decide) (by decide) (by decide) (by decide) (by decide)) (F1 136 (by decide) (by decide) (by decide) (by decide) (by decide) (by decide)) a7)
      · rw [xtc_far (by omega), g3 21 (by decide) (by decide), hfull 21 (by decide) (by decide) (by decide) (by decide) (by decide) (by decide) (by decide) (by decide) (by decide) (by decide)]
      · rw [xtc_far (by omega), g3 21 (by decide) (by decide), hfull 21 (by decide) (by decide) (by decide) (by decide) (by decide) (by decide) (by decide) (by decide) (by decide) (by decide)]
      · intro c x y
        rw [xtc_far (by omega), hslot c x y]
      · rw [E0 14 (by decide), a5 0 (by omega)]
      · rw [E 92 (by decide) (by decide) (by decide) (by omega) (by omega) (by decide) (by decide) (by decide) (by decide) (by decide) (by decide), a5 92 (by omega)]
    · exact Xkept_c (E 88 (by decide) (by decide) (by decide) (by omega) (by omega) (by decide) (by decide) (by decide) (by decide) (by decide) (by decide)) (fun c x y => E c (by omega) (by omega) (by omega) (by omega) (by omega) (by omega) (by omega) (by omega) (by omega) (by omega) (by omega)) (E0 14 (by decide)) (by rw [E 92 (by decide) (by decide) (by decide) (by omega) (by omega) (by decide) (by decide) (by decide) (by decide) (by decide) (by decide)]) (Xkept_m (F2 5 (by decide) (by decide) (by decide) (by decide) (by decide)) (F1 151 (by decide) (by decide) (by decide) (by decide) (by decide) (by decide)) (F1 152 (by decide) (by decide) (by decide) (by decide) (by decide) (by decide)) (F1 153 (by decide) (by decide) (by decide) (by decide) (by decide) (by decide)) h8)
    · exact Xrep_c (by rw [E 100 (by decide) (by decide) (by decide) (by omega) (by omega) (by decide) (by decide) (by decide) (by decide) (by decide) (by decide)]) (E 101 (by decide) (by decide) (by decide) (by omega) (by omega) (by decide) (by decide) (by decide) (by decide) (by decide) (by decide)) (E 102 (by decide) (by decide) (by decide) (by omega) (by omega) (by decide) (by decide) (by decide) (by decide) (by decide) (by decide)) (E0 14 (by decide)) (Xrep_m (F2 42 (by decide) (by decide) (by decide) (by decide) (by decide)) (F1 146 (by decide) (by decide) (by decide) (by decide) (by decide) (by decide)) (F1 147 (by decide) (by decide) (by decide) (by decide) (by decide) (by decide)) h9)
    · exact Xforts_c (by rw [E 105 (by decide) (by decide) (by decide) (by omega) (by omega) (by decide) (by decide) (by decide) (by decide) (by decide) (by decide)]) (E 106 (by decide) (by decide) (by decide) (by omega) (by omega) (by decide) (by decide) (by decide) (by decide) (by decide) (by decide)) h10
  · refine ⟨-1, σ, xu τ 121 0 0, ?_, ?_, XR_mono (by omega) (XR_thr hR)⟩
    · unfold F_X10_years
      simp only [xbp_s, xbd_s, xls, xli, xlt, xjn]
      rw [xw_id hn]
      by_cases q1 : 1 ≤ n
      · rw [if_pos q1, if_pos (by omega)]
      · rw [if_neg q1]
    · unfold F_X11_years
      simp only [xbp_s, xbd_s, xls, xli, xlt, xjn]
      rw [xw_id hn, in_eq (by omega) (by omega) (by omega), if_neg q]
      rfl
