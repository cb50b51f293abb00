/-! apart -/
def Xap (s0 s : xW) (v p q : Int) : Prop := (∀ c : Int, c ≠ 3 → c ≠ 4 → s c = s0 c) ∧ ((v = -1 ∧ p = -1) ∨ ((0 ≤ v ∧ v ≤ 200) ∧ (0 ≤ p ∧ p < 8) ∧ (0 ≤ q ∧ q < 8) ∧ s 3 1 = 2 ∧ s 4 0 = p ∧ s 4 1 = q))
theorem xab_w {x y : Int} (hx : 0 ≤ x ∧ x ≤ 108) (hy : 0 ≤ y ∧ y ≤ 108) : 0 ≤ xab (xw (x - y)) ∧ xab (xw (x - y)) ≤ 200 := by
  rw [xw_sm (x := x - y) (by omega) (by omega)]
  unfold xab
  split <;> omega
theorem apart_in {n a : Int} {s0 t : xW} {w : Int → Int} {kC : Int → Int → xW → Option (Int × xW)} {kM : Int → Int → Int → Int → Option (Int × xW)} (hn : 0 ≤ n ∧ n ≤ 8) (e0 : s0 0 14 = n) (e1 : t 121 3 = n) (ha : 0 ≤ a ∧ a < n) (hw : ∀ h : Int, 0 ≤ h → h < n → (0 ≤ w h ∧ w h ≤ 108) ∧ s0 19 h = w h ∧ t 127 (16 + h) = w h) :
    ∀ (j i fu gu : Nat) (s : xW) (v p q : Int), (i : Int) + j = n → j < fu → j < gu → Xap s0 s v p q → ∃ s' v' p' q', F_X10_apart_27 a fu v (i : Int) s kC = kC v' n s' ∧ F_X11_apart_29 a t gu p q v (i : Int) kM = kM p' q' v' n ∧ Xap s0 s' v' p' q' ∧ (0 < j ∨ 0 ≤ p → 0 ≤ p') ∧ (j = 0 → p' = p) := by
  intro j
  induction j with
  | zero =>
    intro i fu gu s v p q hi hfu hgu hs
    obtain ⟨fu, rfl⟩ : ∃ g, fu = g + 1 := ⟨fu - 1, by omega⟩
    obtain ⟨gu, rfl⟩ : ∃ g, gu = g + 1 := ⟨gu - 1, by omega⟩
    have ei : (i : Int) = n := by omega
    refine ⟨s, v, p, q, ?_, ?_, hs, by omega, fun _ => rfl⟩
    · rw [ei, F_X10_apart_27, hs.1 0 (by decide) (by decide), e0, if_neg (Int.lt_irrefl _)]
    · rw [ei, F_X11_apart_29, e1, if_neg (Int.lt_irrefl _)]
  | succ j ih =>
    intro i fu gu s v p q hi hfu hgu hs
    obtain ⟨fu, rfl⟩ : ∃ g, fu = g + 1 := ⟨fu - 1, by omega⟩
    obtain ⟨gu, rfl⟩ : ∃ g, gu = g + 1 := ⟨gu - 1, by omega⟩
    have w1 := hw a ha.1 ha.2
    have w2 := hw i (by omega) (by omega)
    have hx := xab_w w1.1 w2.1
    have hv : -1 ≤ v ∧ v ≤ 200 := by have := hs.2; omega
    rw [F_X10_apart_27, F_X11_apart_29, hs.1 0 (by decide) (by decide), hs.1 19 (by decide) (by decide), e0, e1, w1.2.1, w2.2.1, w1.2.2, w2.2.2, xw_sm (x := (i : Int)) (by omega) (by omega), xw_sm (x := n) (by omega) (by omega), if_pos (by omega), xgd_t (by omega), xgd_t (by omega), if_pos (by omega), xgd_t (by omega), xgd_t (by omega)]
    simp only [xbp_s, xbd_s, xls, xli, xlt, xjn]
    rw [xw_sm (x := v) (by omega) (by omega), xw_sm (x := xab (xw (w a - w i))) (by omega) (by omega)]
    by_cases z : v < xab (xw (w a - w i))
    · rw [if_pos z, if_pos z, xw_sm (x := a) (by omega) (by omega), tell_2]
      simp only [xbp_s, xbd_s, xls, xli, xlt, xjn]
      rw [show ((i : Int) + 1) = ((i + 1 : Nat) : Int) by omega]
      obtain ⟨s', v', p', q', g1, g2, g3, g4, _⟩ := ih (i + 1) fu gu (xt2 s a i) (xab (xw (w a - w i))) a i (by omega) (by omega) (by omega) ⟨fun c c1 c2 => by rw [xt2_o c1 c2, hs.1 c c1 c2], Or.inr ⟨hx, by omega, by omega, xu_same _ _ _ _, by simp [xt2, xt1, xu], by simp [xt2, xt1, xu]⟩⟩
      exact ⟨s', v', p', q', g1, g2, g3, fun _ => g4 (Or.inr ha.1), fun z => by omega⟩
    · rw [if_neg z, if_neg z, show ((i : Int) + 1) = ((i + 1 : Nat) : Int) by omega]
      obtain ⟨s', v', p', q', g1, g2, g3, g4, _⟩ := ih (i + 1) fu gu s v p q (by omega) (by omega) (by omega) hs
      exact ⟨s', v', p', q', g1, g2, g3, fun _ => g4 (Or.inr (by have := hs.2; omega)), fun z => by omega⟩
theorem apart_out {n : Int} {s0 t : xW} {w : Int → Int} {kC : Int → Int → xW → Option (Int × xW)} {kM : Int → Int → Int → Int → Option (Int × xW)} (hn : 0 ≤ n ∧ n ≤ 8) (e0 : s0 0 14 = n) (e1 : t 121 3 = n) (hw : ∀ h : Int, 0 ≤ h → h < n → (0 ≤ w h ∧ w h ≤ 108) ∧ s0 19 h = w h ∧ t 127 (16 + h) = w h) :
    ∀ (j i fu gu : Nat) (s : xW) (v p q : Int), (i : Int) + j = n → j < fu → j < gu → Xap s0 s v p q → ∃ s' v' p' q', F_X10_apart_15 fu v (i : Int) s kC = kC v' n s' ∧ F_X11_apart_14 t gu p q v (i : Int) kM = kM p' q' v' n ∧ Xap s0 s' v' p' q' ∧ (1 < j ∨ 0 ≤ p → 0 ≤ p') ∧ (j ≤ 1 → p < 0 → p' < 0) := by
  have hN := xN_ge
  intro j
  induction j with
  | zero =>
    intro i fu gu s v p q hi hfu hgu hs
    obtain ⟨fu, rfl⟩ : ∃ g, fu = g + 1 := ⟨fu - 1, by omega⟩
    obtain ⟨gu, rfl⟩ : ∃ g, gu = g + 1 := ⟨gu - 1, by omega⟩
    have ei : (i : Int) = n := by omega
    refine ⟨s, v, p, q, ?_, ?_, hs, by omega, fun _ a => a⟩
    · rw [ei, F_X10_apart_15, hs.1 0 (by decide) (by decide), e0, if_neg (Int.lt_irrefl _)]
    · rw [ei, F_X11_apart_14, e1, if_neg (Int.lt_irrefl _)]
  | succ j ih =>
    intro i fu gu s v p q hi hfu hgu hs
    obtain ⟨fu, rfl⟩ : ∃ g, fu = g + 1 := ⟨fu - 1, by omega⟩
    obtain ⟨gu, rfl⟩ : ∃ g, gu = g + 1 := ⟨gu - 1, by omega⟩
    rw [F_X10_apart_15, F_X11_apart_14, hs.1 0 (by decide) (by decide), e0, e1, xw_sm (x := (i : Int)) (by omega) (by omega), xw_sm (x := n) (by omega) (by omega), if_pos (by omega), if_pos (by omega), show ((i : Int) + 1) = ((i + 1 : Nat) : Int) by omega]
    obtain ⟨s1, v1, p1, q1, u1, u2, u3, u4, u5⟩ := apart_in (a := (i : Int)) (kC := fun (l1_24 : Int) (l3_25 : Int) (s26 : xW) => F_X10_apart_15 fu l1_24 ((i + 1 : Nat) : Int) s26 kC) (kM := fun (l1_29 : Int) (l2_30 : Int) (l3_31 : Int) (l5_32 : Int) => F_X11_apart_14 t gu l1_29 l2_30 l3_31 ((i + 1 : Nat) : Int) kM) hn e0 e1 (by omega) hw j (i + 1) xN xN s v p q (by omega) (by omega) (by omega) hs
    obtain ⟨s', v', p', q', g1, g2, g3, g4, g5⟩ := ih (i + 1) fu gu s1 v1 p1 q1 (by omega) (by omega) (by omega) u3
    refine ⟨s', v', p', q', Eq.trans u1 g1, Eq.trans u2 g2, g3, fun z => g4 (Or.inr (u4 (by omega))), fun z1 z2 => ?_⟩
    exact g5 (by omega) (by rw [u5 (by omega)]; exact z2)
theorem op_apart : XO F_X10_apart F_X11_apart := by
  intro B σ τ hB hB1 h
  have hN := xN_ge
  obtain ⟨h1, h2, h3, h4, h5, h6, h7, h8, h9, h10⟩ := id h
  have hn := h5.1
  have e1 : (xu τ 121 0 0) 121 3 = σ 0 14 := by rw [xu_slot _ _ _ (show (3 : Int) ≠ 0 by decide)]; exact h5.2.1
  obtain ⟨s', v', p', q', g1, g2, g3, g4, g5⟩ := apart_out (n := σ 0 14) (s0 := σ) (t := xu τ 121 0 0) (w := σ 19) (kC := fun (l1_30 : Int) (l2_31 : Int) (s32 : xW) => some (l1_30, s32)) (kM := fun (l1_37 : Int) (l2_38 : Int) (l3_39 : Int) (l4_40 : Int) =>
    if (xw l1_37) < 0 then
      some (-2, xu τ 121 0 0)
    else
      xls (xu (xu τ 121 0 0) 121 1 0) fun s42 =>
      xbp (F_X11_enters (xw l1_37) s42) fun s45 =>
      xbp (F_X11_enters (xw l2_38) s45) fun s47 =>
      some (l3_39, s47)) hn rfl e1 (fun x x1 x2 => by
        refine ⟨h6.1.2.2.1 x x1 (by omega), rfl, ?_⟩
        rw [xu_row _ _ _ (show (127 : Int) ≠ 121 by decide)]
        exact (h6.2.2.1 x x1 x2).2.2.2.symm) (σ 0 14).toNat 0 xN xN σ (-1) (-1) (-1) (by omega) (by omega) (by omega) ⟨fun _ _ _ => rfl, Or.inl ⟨rfl, rfl⟩⟩
  by_cases z : σ 0 14 < 2
  · refine ⟨-2, σ, xu τ 121 0 0, ?_, ?_, XR_mono (by omega) (XR_thr h)⟩
    · unfold F_X10_apart
      rw [xw_sm (x := σ 0 14) (by omega) (by omega), if_pos z]
    · have hp : p' = -1 := by
        have := g5 (by omega) (by omega)
        have := g3.2
        omega
      unfold F_X11_apart
      simp only [xls, xlt]
      refine Eq.trans g2 ?_
      rw [hp, if_pos (by decide)]
  · have hp := g4 (Or.inl (by omega))
    have hx := g3.2
    have eC : F_X10_apart σ = some (v', s') := by
      unfold F_X10_apart
      rw [xw_sm (x := σ 0 14) (by omega) (by omega), if_neg z]
      exact g1
    have eM : F_X11_apart τ = some (v', xe2 (xu τ 121 0 0) p' q') := by
      unfold F_X11_apart
      simp only [xls, xlt]
      refine Eq.trans g2 ?_
      rw [xw_sm (x := p') (by omega) (by omega), if_neg (by omega), xw_sm (x := q') (by omega) (by omega)]
      simp only [xls, xlt]
      rw [ent_1]
      simp only [xbp_s, xbd_s, xls, xli, xlt, xjn]
      rw [ent_2]
      rfl
    have hx' : s' 3 1 = 2 ∧ s' 4 0 = p' ∧ s' 4 1 = q' := by
      rcases hx with w | w
      · omega
      · exact w.2.2.2
    exact ⟨_, _, _, eC, eM, XR_W (fr_X10_apart eC) (by decide +kernel) (fr_X11_apart eM) (by decide +kernel) h (Xrow_2 (a := p') (b := q') hx'.1 hx'.2 rfl ⟨by simp [xe2, xe1, xu], by simp [xe2, xe1, xu]⟩)⟩
