/-! a DAY goes by: the class's town 17, the reference's row r -/
/-- the class's world and the row r of the reference: the same town, days and weather; m, cd the rule; B a bound of the day -/
def Xdd (B m : Int) (cd : Int → Int) (r : Int) (σ τ : xW) : Prop := Xcw m cd (σ 0 4) σ ∧ Xmw m cd σ τ ∧ Xti B (σ 17) (σ 18) (σ 19) (σ 20) ∧ Xtr (σ 0 14) (σ 92 0) (σ 17) (σ 18) (σ 19) (σ 20) (τ r)
theorem Xdd_mr {B m : Int} {cd : Int → Int} {r : Int} {σ τ : xW} (hB : B ≤ 2000000) (h : Xdd B m cd r σ τ) : Xmr σ (σ 17 0) (σ 17 5) (τ r) := by
  obtain ⟨a, b, c, d⟩ := h
  exact ⟨Xrr_of hB b.2.1.2 c d, d.1.1.1.symm, d.1.2.2.2.2.2.symm, fun h x y => (d.2.1 h x y).1.symm, fun k x y => (d.2.2 k x y).1.symm⟩
/-- the reference's watches -/
theorem watch_loop {m : Int} {cd : Int → Int} {nh gun day r : Int} {σ s0 : xW} {k : Int → xW → Option xW} (hE : Xev m cd (σ 5 1) (σ 6) (σ 7 1) (σ 8) s0) (hr : r = 127 ∨ r = 128) (hR : Xrr nh (s0 r)) (hnh : 0 ≤ nh ∧ nh ≤ 8) (e0 : s0 121 3 = nh) (eg : 10 * s0 r 32 + s0 r 33 = gun) (ed : s0 r 39 = day) (ep : ∀ h, 0 ≤ h → h < nh → 10 * s0 r h + s0 r (8 + h) = σ 18 h) :
    ∀ (j i : Nat) (s : xW) (f : Nat), (i : Int) + j = nh → j < f → (∀ c, c ≠ 133 → c ≠ 134 → c ≠ r → s c = s0 c) → (∀ x : Int, x < 16 ∨ 24 ≤ x → s r x = s0 r x) → (∀ h : Int, 0 ≤ h → h < i → s r (16 + h) = xhm m cd (xday (σ 5 1) (σ 6) day) (xday (σ 7 1) (σ 8) day) day gun (σ 18 h)) →
    ∃ s', F_X11_dayGoes_49 r f i s k = k nh s' ∧ (∀ c, c ≠ 133 → c ≠ 134 → c ≠ r → s' c = s0 c) ∧ (∀ x : Int, x < 16 ∨ 24 ≤ x → s' r x = s0 r x) ∧ (∀ h : Int, 0 ≤ h → h < nh → s' r (16 + h) = xhm m cd (xday (σ 5 1) (σ 6) day) (xday (σ 7 1) (σ 8) day) day gun (σ 18 h)) := by
  intro j
  induction j with
  | zero =>
    intro i s f hi hf hc hx hh
    obtain ⟨f, rfl⟩ : ∃ f', f = f' + 1 := ⟨f - 1, by omega⟩
    refine ⟨s, ?_, hc, hx, fun h a b => hh h a (by omega)⟩
    unfold F_X11_dayGoes_49
    rw [hc 121 (by decide) (by decide) (by omega), e0, xw_sm (by omega) (by omega), xw_sm (by omega) (by omega), if_neg (by omega), show nh = (i : Int) by omega]
  | succ j ih =>
    intro i s f hi hf hc hx hh
    obtain ⟨f, rfl⟩ : ∃ f', f = f' + 1 := ⟨f - 1, by omega⟩
    have hRs : Xrr nh (s r) := by
      obtain ⟨a1, a2, a3, a4, a5, a6⟩ := hR
      unfold Xrr
      rw [hx 32 (by omega), hx 33 (by omega), hx 34 (by omega), hx 35 (by omega), hx 39 (by omega)]
      exact ⟨a1, a2, a3, a4, a5, fun h x y => by rw [hx h (by omega), hx (8 + h) (by omega)]; exact a6 h x y⟩
    obtain ⟨s1, g1, g2⟩ := hears_m (h := i) (s := s) (Xev_c hE (fun c hc' => hc c (by omega) (by omega) (by omega))) hr hRs hnh.2 (by omega)
    rw [hx 39 (by omega), hx 32 (by omega), hx 33 (by omega), hx i (by omega), hx (8 + i) (by omega), ed, eg, ep i (by omega) (by omega)] at g1
    unfold F_X11_dayGoes_49
    rw [hc 121 (by decide) (by decide) (by omega), e0, xw_sm (by omega) (by omega), xw_sm (by omega) (by omega), if_pos (by omega), g1]
    simp only [xbp_s, xbd_s, xls, xli, xlt, xjn]
    rw [xgd_t (by omega), show ((i : Int) + 1) = ((i + 1 : Nat) : Int) by omega]
    have er : s1 r = s r := g2 r (by omega) (by omega)
    refine ih (i + 1) _ f (by omega) (by omega) ?_ ?_ ?_
    · intro c c1 c2 c3
      rw [xu_row _ _ _ c3, g2 c c1 c2]
      exact hc c c1 c2 c3
    · intro x hx'
      rw [xu_slot _ _ _ (by omega), er]
      exact hx x hx'
    · intro h h1 h2
      by_cases hq : h = i
      · rw [hq, xu_same]
      · rw [xu_slot _ _ _ (by omega), er]
        exact hh h h1 (by omega)
/-- what changes in the class's world, and in the reference's -/
def Xday (σ σ1 : xW) : Prop := ∀ c, c ≠ 17 → c ≠ 19 → c ≠ 90 → c ≠ 91 → c ≠ 11 → c ≠ 15 → c ≠ 95 → c ≠ 96 → σ1 c = σ c
theorem day_d {B m : Int} {cd : Int → Int} {r : Int} {σ τ : xW} (hB : 0 ≤ B ∧ B ≤ 1999990) (hr : r = 127 ∨ r = 128) (h : Xdd B m cd r σ τ) : ∃ p σ1 τ1, F_X10_passDay σ = some (p, σ1) ∧ F_X11_dayGoes r τ = some τ1 ∧ (-1 ≤ p ∧ p ≤ 64) ∧ Xdd (B + 1) m cd r σ1 τ1 ∧ Xday σ σ1 ∧ σ1 17 5 = σ 17 5 + 1 ∧ (∀ c, c ≠ r → c ≠ 121 → c ≠ 133 → c ≠ 134 → c ≠ 135 → τ1 c = τ c) ∧ (∀ k, k ≠ 30 → k ≠ 31 → τ1 121 k = τ 121 k) ∧ τ1 121 30 = τ 121 30 + max p 0 ∧ τ1 121 31 = τ 121 31 + (if p = -1 then 1 else 0) := by
  have hmr := Xdd_mr (by omega) h
  obtain ⟨hcw, hmw, hti, htr⟩ := id h
  obtain ⟨⟨t0, t1, t2, t3, t4, t5⟩, ta, tb, tc⟩ := id hti
  obtain ⟨⟨u0, u1, u2, u3, u4, u5⟩, ua, ub⟩ := id htr
  have hr9 := hcw.1
  have hnh := hcw.2.2.2.2.2.1
  have hnd := hcw.2.2.2.2.2.2.1
  have hRu : σ 0 4 ∈ xRules := by rcases hr9 with a | a <;> rw [a] <;> decide
  have hNw : r ∈ xNows := by rcases hr with rfl | rfl <;> decide
  unfold F_X10_passDay F_X11_dayGoes
  simp only [xbp_s, xbd_s, xls, xli, xlt, xjn]
  rw [xgd_t hNw, ← u2, xw_sm (by omega) (by omega)]
  by_cases q : 0 < σ 17 2
  · obtain ⟨s13, a1, a2⟩ := planFor_d (day := σ 17 5) hcw t0 (by omega)
    have a3 := pairs_d hr9 hnd a2
    obtain ⟨b1, b2, b3, b4, b5⟩ := id a2
    obtain ⟨t14, c1, c2⟩ := con_d hmw hr hmr
    have hp := xpr_r m cd σ (σ 17 0) (σ 17 5) hnd
    rw [if_pos q, if_pos q, xgd_t hRu, a1, c1]
    simp only [xbp_s, xbd_s, xls, xli, xlt, xjn]
    rw [a3]
    simp only [xbp_s, xbd_s, xls, xli, xlt, xjn]
    have e17 : s13 17 = σ 17 := b1 17 (by decide) (by decide) (by omega) (by decide) (by decide)
    have e0 : s13 0 = σ 0 := b1 0 (by decide) (by decide) (by omega) (by decide) (by decide)
    have er14 : t14 r = τ r := c2 r (by omega) (by omega) (by omega)
    generalize hP : xpr m cd σ (σ 17 0) (σ 17 5) = P at *
    rw [e17, xu_slot _ _ _ (show (3 : Int) ≠ 2 by decide), e17, xw_sm (by omega) (by omega), xu_row _ _ _ (show (0 : Int) ≠ 17 by decide), xu_row _ _ _ (show (0 : Int) ≠ 17 by decide), e0, xgd_t (by omega), er14, xu_slot _ _ _ (show (37 : Int) ≠ 36 by decide), er14, ← u2, ← u3, xw_sm (by omega) (by omega), xu_row _ _ _ (show (121 : Int) ≠ r by omega), xu_row _ _ _ (show (121 : Int) ≠ r by omega)]
    generalize ht19 : xu (xu (xu t14 r 36 (σ 17 2 - 1)) r 37 (min 9999 (σ 17 3 + P))) 121 30 (t14 121 30 + P) = t19
    have f1 : ∀ c, c ≠ r → c ≠ 121 → t19 c = t14 c := fun c x y => by rw [← ht19, xu_row _ _ _ y, xu_row _ _ _ x, xu_row _ _ _ x]
    have f2 : ∀ k, k ≠ 30 → t19 121 k = t14 121 k := fun k hk => by rw [← ht19, xu_slot _ _ _ hk, xu_row _ _ _ (by omega), xu_row _ _ _ (by omega)]
    have f3 : ∀ x, t19 r x = if x = 36 then σ 17 2 - 1 else if x = 37 then min 9999 (σ 17 3 + P) else τ r x := fun x => by
      rw [← ht19, xu_row _ _ _ (by omega)]
      by_cases x1 : x = 37
      · rw [x1, xu_same]; simp
      · rw [xu_slot _ _ _ x1]
        by_cases x2 : x = 36
        · rw [x2, xu_same]; simp
        · rw [xu_slot _ _ _ x2, er14]; simp [x1, x2]
    have f4 : t19 121 30 = τ 121 30 + P := by rw [← ht19, xu_same, c2 121 (by decide) (by decide) (by decide)]
    have g121 : ∀ k, t14 121 k = τ 121 k := fun k => by rw [c2 121 (by decide) (by decide) (by decide)]
    have hE19 : Xev m cd (σ 5 1) (σ 6) (σ 7 1) (σ 8) t19 := by
      have hE := hmw.1
      unfold Xev at *
      rw [f2 23 (by decide), g121, f2 6 (by decide), g121, f2 7 (by decide), g121, f1 131 (by omega) (by decide), c2 131 (by decide) (by decide) (by decide), f1 123 (by omega) (by decide), c2 123 (by decide) (by decide) (by decide), f1 124 (by omega) (by decide), c2 124 (by decide) (by decide) (by decide)]
      exact hE
    have f3' : ∀ x, x ≠ 36 → x ≠ 37 → t19 r x = τ r x := fun x x1 x2 => by rw [f3, if_neg x1, if_neg x2]
    have hR19 : Xrr (σ 0 14) (t19 r) := by
      obtain ⟨a1, a2, a3, a4, a5, a6⟩ := hmr.1
      unfold Xrr
      rw [f3' 32 (by decide) (by decide), f3' 33 (by decide) (by decide), f3' 34 (by decide) (by decide), f3' 35 (by decide) (by decide), f3' 39 (by decide) (by decide)]
      exact ⟨a1, a2, a3, a4, a5, fun h x y => by rw [f3' h (by omega) (by omega), f3' (8 + h) (by omega) (by omega)]; exact a6 h x y⟩
    obtain ⟨t35, k1, k2, k3, k4⟩ := watch_loop (gun := σ 17 0) (day := σ 17 5) (σ := σ) (k := fun (l3_34 : Int) (s35 : xW) => some (xu s35 r 39 (s35 r 39 + 1))) hE19 hr hR19 hnh (by rw [f2 3 (by decide), g121]; exact hmw.2.2.2.1) (by rw [f3' 32 (by decide) (by decide), f3' 33 (by decide) (by decide)]; exact u0.1.symm) (by rw [f3' 39 (by decide) (by decide)]; exact u5.symm) (fun h x y => by rw [f3' h (by omega) (by omega), f3' (8 + h) (by omega) (by omega)]; exact (ua h x y).1.symm) (σ 0 14).toNat 0 t19 xN (by omega) (by have := xN_ge; omega) (fun c _ _ _ => rfl) (fun x _ => rfl) (fun h a b => by omega)
    generalize hs21 : xcp (xu (xu s13 17 2 (σ 17 2 - 1)) 17 3 (min 9999 (σ 17 3 + P))) 91 19 (σ 0 14) = s21
    have v1 : ∀ c, c ≠ 17 → c ≠ 19 → s21 c = s13 c := fun c x y => by
      rw [← hs21]
      funext z
      unfold xcp
      rw [if_neg (fun w => y w.1), xu_row _ _ _ x, xu_row _ _ _ x]
    have v2 : ∀ z, s21 17 z = if z = 2 then σ 17 2 - 1 else if z = 3 then min 9999 (σ 17 3 + P) else σ 17 z := fun z => by
      rw [← hs21]
      unfold xcp
      rw [if_neg (by omega)]
      by_cases z1 : z = 3
      · rw [z1, xu_same]; simp
      · rw [xu_slot _ _ _ z1]
        by_cases z2 : z = 2
        · rw [z2, xu_same]; simp
        · rw [xu_slot _ _ _ z2, e17]; simp [z1, z2]
    have v3 : ∀ z, s21 19 z = if 0 ≤ z ∧ z < σ 0 14 then s13 91 z else σ 19 z := fun z => by
      rw [← hs21]
      unfold xcp
      by_cases z1 : 0 ≤ z ∧ z < σ 0 14
      · rw [if_pos ⟨rfl, z1⟩, if_pos z1, xu_row _ _ _ (by decide), xu_row _ _ _ (by decide)]
      · rw [if_neg (fun w => z1 w.2), if_neg z1, xu_row _ _ _ (by decide), xu_row _ _ _ (by decide), b1 19 (by decide) (by decide) (by omega) (by decide) (by decide)]
    have w19 : ∀ c, c ≠ 17 → c ≠ 19 → c ≠ 90 → c ≠ 91 → c ≠ 11 → c ≠ 15 → c ≠ 95 → c ≠ 96 → xu s21 17 5 (s21 17 5 + 1) c = σ c := fun c x1 x2 x3 x4 x5 x6 x7 x8 => by
      rw [xu_row _ _ _ x1, v1 c x1 x2, b1 c x3 x4 (by omega) x7 x8]
    have hw9 : ∀ h, 0 ≤ h → h < σ 0 14 → s13 91 h = xhm m cd (xday (σ 5 1) (σ 6) (σ 17 5)) (xday (σ 7 1) (σ 8) (σ 17 5)) (σ 17 5) (σ 17 0) (σ 18 h) := b3
    refine ⟨P, _, _, rfl, k1, by omega, ⟨?_, ?_, ?_, ?_⟩, w19, by rw [xu_same, v2]; simp, ?_, ?_, ?_, ?_⟩
    · have e0' : xu s21 17 5 (s21 17 5 + 1) 0 = σ 0 := w19 0 (by decide) (by decide) (by decide) (by decide) (by decide) (by decide) (by decide) (by decide)
      rw [e0']
      unfold Xcw at *
      rw [w19 (σ 0 4) (by omega) (by omega) (by omega) (by omega) (by omega) (by omega) (by omega) (by omega), w19 (σ 0 4 + 1) (by omega) (by omega) (by omega) (by omega) (by omega) (by omega) (by omega) (by omega), w19 5 (by decide) (by decide) (by decide) (by decide) (by decide) (by decide) (by decide) (by decide), w19 7 (by decide) (by decide) (by decide) (by decide) (by decide) (by decide) (by decide) (by decide), w19 8 (by decide) (by decide) (by decide) (by decide) (by decide) (by decide) (by decide) (by decide), e0', w19 92 (by decide) (by decide) (by decide) (by decide) (by decide) (by decide) (by decide) (by decide), w19 93 (by decide) (by decide) (by decide) (by decide) (by decide) (by decide) (by decide) (by decide), w19 94 (by decide) (by decide) (by decide) (by decide) (by decide) (by decide) (by decide) (by decide), w19 18 (by decide) (by decide) (by decide) (by decide) (by decide) (by decide) (by decide) (by decide), w19 20 (by decide) (by decide) (by decide) (by decide) (by decide) (by decide) (by decide) (by decide)]
      exact hcw
    · have hm2 : ∀ c, c ≠ r → c ≠ 121 → c ≠ 133 → c ≠ 134 → c ≠ 135 → xu t35 r 39 (t35 r 39 + 1) c = τ c := fun c x1 x2 x3 x4 x5 => by
        rw [xu_row _ _ _ x1, k2 c x3 x4 x1, f1 c x1 x2, c2 c x3 x4 x5]
      have hm3 : ∀ k, k ≠ 30 → xu t35 r 39 (t35 r 39 + 1) 121 k = τ 121 k := fun k x1 => by
        rw [xu_row _ _ _ (by omega), k2 121 (by decide) (by decide) (by omega), f2 k x1, g121]
      have hq := Xmw_c hmw (fun c hc => hm2 c (by omega) (by omega) (by omega) (by omega) (by omega)) (fun k hk => hm3 k (by omega))
      unfold Xmw at *
      rw [w19 5 (by decide) (by decide) (by decide) (by decide) (by decide) (by decide) (by decide) (by decide), w19 6 (by decide) (by decide) (by decide) (by decide) (by decide) (by decide) (by decide) (by decide), w19 7 (by decide) (by decide) (by decide) (by decide) (by decide) (by decide) (by decide) (by decide), w19 8 (by decide) (by decide) (by decide) (by decide) (by decide) (by decide) (by decide) (by decide), w19 0 (by decide) (by decide) (by decide) (by decide) (by decide) (by decide) (by decide) (by decide), w19 92 (by decide) (by decide) (by decide) (by decide) (by decide) (by decide) (by decide) (by decide), w19 93 (by decide) (by decide) (by decide) (by decide) (by decide) (by decide) (by decide) (by decide), w19 94 (by decide) (by decide) (by decide) (by decide) (by decide) (by decide) (by decide) (by decide), w19 20 (by decide) (by decide) (by decide) (by decide) (by decide) (by decide) (by decide) (by decide)]
      exact hq
    · refine ⟨?_, ?_, ?_, ?_⟩
      · rw [xu_slot _ _ _ (by decide), xu_slot _ _ _ (by decide), xu_slot _ _ _ (by decide), xu_slot _ _ _ (by decide), xu_slot _ _ _ (by decide), xu_same, v2, v2, v2, v2, v2, v2]
        simp
        omega
      · rw [w19 18 (by decide) (by decide) (by decide) (by decide) (by decide) (by decide) (by decide) (by decide)]; exact ta
      · intro h x y
        rw [xu_row _ _ _ (by decide), v3]
        by_cases z : 0 ≤ h ∧ h < σ 0 14
        · rw [if_pos z, hw9 h z.1 z.2]
          exact xhm_r (hcw.2.2.2.2.1 _)
        · rw [if_neg z]; exact tb h x y
      · rw [w19 20 (by decide) (by decide) (by decide) (by decide) (by decide) (by decide) (by decide) (by decide)]; exact tc
    · rw [w19 0 (by decide) (by decide) (by decide) (by decide) (by decide) (by decide) (by decide) (by decide), w19 92 (by decide) (by decide) (by decide) (by decide) (by decide) (by decide) (by decide) (by decide), w19 18 (by decide) (by decide) (by decide) (by decide) (by decide) (by decide) (by decide) (by decide), w19 20 (by decide) (by decide) (by decide) (by decide) (by decide) (by decide) (by decide) (by decide)]
      have hx17 : ∀ z, xu s21 17 5 (s21 17 5 + 1) 17 z = if z = 5 then σ 17 5 + 1 else if z = 2 then σ 17 2 - 1 else if z = 3 then min 9999 (σ 17 3 + P) else σ 17 z := fun z => by
        by_cases z1 : z = 5
        · rw [z1, xu_same, v2]; simp
        · rw [xu_slot _ _ _ z1, v2]; simp [z1]
      have hxr : ∀ x, x < 16 ∨ 24 ≤ x → xu t35 r 39 (t35 r 39 + 1) r x = if x = 39 then τ r 39 + 1 else if x = 36 then σ 17 2 - 1 else if x = 37 then min 9999 (σ 17 3 + P) else τ r x := fun x hx => by
        by_cases z1 : x = 39
        · rw [z1, xu_same, k3 39 (by omega), f3]; simp
        · rw [xu_slot _ _ _ z1, k3 x hx, f3]; simp [z1]
      refine ⟨?_, fun h x y => ?_, fun d x y => ?_⟩
      · rw [hx17, hx17, hx17, hx17, hx17, hx17, hxr 32 (by decide), hxr 33 (by decide), hxr 34 (by decide), hxr 35 (by decide), hxr 36 (by decide), hxr 37 (by decide), hxr 38 (by decide), hxr 39 (by decide)]
        simp
        omega
      · have e19 : xu s21 17 5 (s21 17 5 + 1) 19 h = xhm m cd (xday (σ 5 1) (σ 6) (σ 17 5)) (xday (σ 7 1) (σ 8) (σ 17 5)) (σ 17 5) (σ 17 0) (σ 18 h) := by
          rw [xu_row _ _ _ (by decide), v3, if_pos ⟨x, y⟩, hw9 h x y]
        rw [e19, xu_slot _ _ _ (by omega), xu_slot _ _ _ (by omega), xu_slot _ _ _ (by omega), k3 h (by omega), k3 (8 + h) (by omega), k4 h x y, f3' h (by omega) (by omega), f3' (8 + h) (by omega) (by omega)]
        have := ua h x y
        exact ⟨this.1, this.2.1, this.2.2.1, rfl⟩
      · rw [xu_slot _ _ _ (by omega), k3 (24 + d) (by omega), f3' (24 + d) (by omega) (by omega)]
        exact ub d x y
    · intro c x1 x2 x3 x4 x5
      rw [xu_row _ _ _ x1, k2 c x3 x4 x1, f1 c x1 x2, c2 c x3 x4 x5]
    · intro k x1 x2
      rw [xu_row _ _ _ (by omega), k2 121 (by decide) (by decide) (by omega), f2 k x1, g121]
    · rw [xu_row _ _ _ (by omega), k2 121 (by decide) (by decide) (by omega), f4]
      omega
    · rw [xu_row _ _ _ (by omega), k2 121 (by decide) (by decide) (by omega), f2 31 (by decide), g121, if_neg (by omega)]
      omega
  · rw [if_neg q, if_neg q, ← u4, xw_sm (by omega) (by omega)]
    have w19 : ∀ c, c ≠ 17 → xu (xu σ 17 4 (min 999 (σ 17 4 + 1))) 17 5 (xu σ 17 4 (min 999 (σ 17 4 + 1)) 17 5 + 1) c = σ c := fun c x1 => by rw [xu_row _ _ _ x1, xu_row _ _ _ x1]
    have v2 : ∀ z, xu (xu σ 17 4 (min 999 (σ 17 4 + 1))) 17 5 (xu σ 17 4 (min 999 (σ 17 4 + 1)) 17 5 + 1) 17 z = if z = 4 then min 999 (σ 17 4 + 1) else if z = 5 then σ 17 5 + 1 else σ 17 z := fun z => by
      by_cases z1 : z = 5
      · rw [z1, xu_same, xu_slot _ _ _ (by decide)]; simp
      · rw [xu_slot _ _ _ z1]
        by_cases z2 : z = 4
        · rw [z2, xu_same]; simp
        · rw [xu_slot _ _ _ z2]; simp [z1, z2]
    generalize hs1 : xu (xu σ 17 4 (min 999 (σ 17 4 + 1))) 17 5 (xu σ 17 4 (min 999 (σ 17 4 + 1)) 17 5 + 1) = s1 at *
    generalize ht10 : xu (xu τ r 38 (min 999 (σ 17 4 + 1))) 121 31 (xu τ r 38 (min 999 (σ 17 4 + 1)) 121 31 + 1) = t10
    have f1 : ∀ c, c ≠ r → c ≠ 121 → t10 c = τ c := fun c x y => by rw [← ht10, xu_row _ _ _ y, xu_row _ _ _ x]
    have f2 : ∀ k, k ≠ 31 → t10 121 k = τ 121 k := fun k hk => by rw [← ht10, xu_slot _ _ _ hk, xu_row _ _ _ (by omega)]
    have f3 : ∀ x, t10 r x = if x = 38 then min 999 (σ 17 4 + 1) else τ r x := fun x => by
      rw [← ht10, xu_row _ _ _ (by omega)]
      by_cases x1 : x = 38
      · rw [x1, xu_same]; simp
      · rw [xu_slot _ _ _ x1]; simp [x1]
    have f4 : t10 121 31 = τ 121 31 + 1 := by rw [← ht10, xu_same, xu_row _ _ _ (by omega)]
    refine ⟨-1, _, _, rfl, rfl, by omega, ⟨?_, ?_, ?_, ?_⟩, fun c x1 _ _ _ _ _ _ _ => w19 c x1, by rw [v2]; simp, ?_, ?_, ?_, ?_⟩
    · rw [w19 0 (by decide)]
      unfold Xcw at *
      rw [w19 (σ 0 4) (by omega), w19 (σ 0 4 + 1) (by omega), w19 5 (by decide), w19 7 (by decide), w19 8 (by decide), w19 0 (by decide), w19 92 (by decide), w19 93 (by decide), w19 94 (by decide), w19 18 (by decide), w19 20 (by decide)]
      exact hcw
    · have hq := Xmw_c (τ1 := xu t10 r 39 (t10 r 39 + 1)) hmw (fun c hc => by rw [xu_row _ _ _ (by omega), f1 c (by omega) (by omega)]) (fun k hk => by rw [xu_row _ _ _ (by omega), f2 k (by omega)])
      unfold Xmw at *
      rw [w19 5 (by decide), w19 6 (by decide), w19 7 (by decide), w19 8 (by decide), w19 0 (by decide), w19 92 (by decide), w19 93 (by decide), w19 94 (by decide), w19 20 (by decide)]
      exact hq
    · refine ⟨?_, ?_, ?_, ?_⟩
      · rw [v2, v2, v2, v2, v2, v2]
        simp
        omega
      · rw [w19 18 (by decide)]; exact ta
      · rw [w19 19 (by decide)]; exact tb
      · rw [w19 20 (by decide)]; exact tc
    · rw [w19 0 (by decide), w19 92 (by decide), w19 18 (by decide), w19 19 (by decide), w19 20 (by decide)]
      refine ⟨?_, fun h x y => ?_, fun d x y => ?_⟩
      · rw [v2, v2, v2, v2, v2, v2, xu_slot _ _ _ (by decide), xu_slot _ _ _ (by decide), xu_slot _ _ _ (by decide), xu_slot _ _ _ (by decide), xu_slot _ _ _ (by decide), xu_slot _ _ _ (by decide), xu_slot _ _ _ (by decide), xu_same, f3, f3, f3, f3, f3, f3, f3, f3]
        simp
        omega
      · rw [xu_slot _ _ _ (by omega), xu_slot _ _ _ (by omega), xu_slot _ _ _ (by omega), f3, f3, f3, if_neg (by omega), if_neg (by omega), if_neg (by omega)]
        exact ua h x y
      · rw [xu_slot _ _ _ (by omega), f3, if_neg (by omega)]
        exact ub d x y
    · intro c x1 x2 x3 x4 x5
      rw [xu_row _ _ _ x1, f1 c x1 x2]
    · intro k x1 x2
      rw [xu_row _ _ _ (by omega), f2 k x2]
    · rw [xu_row _ _ _ (by omega), f2 30 (by decide)]
      omega
    · rw [xu_row _ _ _ (by omega), f4, if_pos rfl]
