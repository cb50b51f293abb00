/-! rests -/
def xgt (p x y : Int) : Int := (if x ≤ y then p else 0) - x - (if x < y then 2 else 0)
theorem xgt_r {p x y : Int} (hp : 0 ≤ p ∧ p ≤ 20) (hx : 0 ≤ x ∧ x ≤ 9) : -100 ≤ xgt p x y ∧ xgt p x y ≤ 100 := by
  unfold xgt
  split <;> split <;> omega
theorem salute_c {p x y : Int} {s : xW} (hx : 0 ≤ x ∧ x ≤ 9) (hy : 0 ≤ y ∧ y ≤ 9) : F_X10_salute p x y s = some (xgt p x y) := by
  unfold F_X10_salute xgt
  simp only [xbp_s, xbd_s, xls, xli, xlt, xjn]
  rw [xw_sm (x := x) (by omega) (by omega), xw_sm (x := y) (by omega) (by omega)]
theorem gets_m {p x y : Int} {s : xW} (hx : 0 ≤ x ∧ x ≤ 9) (hy : 0 ≤ y ∧ y ≤ 9) : F_X11_gets x y p s = some (xgt p x y) := by
  have e : 2 * (if xw (if x < y then (1 : Int) else 0) ≠ 0 then (1 : Int) else 0) = if x < y then 2 else 0 := by
    rw [xif01]
    by_cases z : x < y <;> simp [z]
  unfold F_X11_gets F_X11_flag xgt
  simp only [xbp_s, xbd_s, xls, xli, xlt, xjn]
  rw [xw_sm (x := x) (by omega) (by omega), xw_sm (x := y) (by omega) (by omega), e]
/-- x is content at y, looked at up to k -/
def xcontent (p x y : Int) : Nat → Int
  | 0 => 1
  | k + 1 => if xcontent p x y k ≠ 0 ∧ xgt p k y ≤ xgt p x y then 1 else 0
theorem xcontent_s (p x y : Int) (k : Nat) : xcontent p x y (k + 1) = if xcontent p x y k ≠ 0 ∧ xgt p k y ≤ xgt p x y then 1 else 0 := rfl
theorem xcontent_b (p x y : Int) : ∀ k : Nat, xcontent p x y k = 0 ∨ xcontent p x y k = 1
  | 0 => Or.inr rfl
  | k + 1 => by
    rw [xcontent_s]
    split
    · exact Or.inr rfl
    · exact Or.inl rfl
theorem xcontent_0 {p x y : Int} {i : Nat} (h : xcontent p x y i = 0) : ∀ j : Nat, xcontent p x y (i + j) = 0
  | 0 => h
  | j + 1 => by
    show xcontent p x y ((i + j) + 1) = 0
    rw [xcontent_s, if_neg (fun z => z.1 (xcontent_0 h j))]
theorem content_loop {p x y : Int} {s : xW} (hp : 0 ≤ p ∧ p ≤ 20) (hx : 0 ≤ x ∧ x ≤ 9) (hy : 0 ≤ y ∧ y ≤ 9) : ∀ (j i fu : Nat), i + j = 10 → j < fu → xcontent p x y i = 1 → F_X10_isContent_10 p y (xgt p x y) s fu (i : Int) (fun (_ : Int) => some 1) = some (xcontent p x y 10) := by
  intro j
  induction j with
  | zero =>
    intro i fu hi hf h
    obtain ⟨fu, rfl⟩ : ∃ g, fu = g + 1 := ⟨fu - 1, by omega⟩
    have e : i = 10 := by omega
    unfold F_X10_isContent_10
    rw [xw_sm (by omega) (by omega), if_neg (by omega)]
    rw [e] at h
    rw [h]
  | succ j ih =>
    intro i fu hi hf h
    obtain ⟨fu, rfl⟩ : ∃ g, fu = g + 1 := ⟨fu - 1, by omega⟩
    have hg1 := xgt_r (p := p) (x := x) (y := y) hp hx
    have hg2 := xgt_r (p := p) (x := (i : Int)) (y := y) hp (by omega)
    have hs := xcontent_s p x y i
    unfold F_X10_isContent_10
    rw [xw_sm (x := (i : Int)) (by omega) (by omega), if_pos (by omega), salute_c (by omega) hy]
    simp only [xbp_s, xbd_s, xls, xli, xlt, xjn]
    rw [xw_sm (x := xgt p x y) (by omega) (by omega), xw_sm (x := xgt p (i : Int) y) (by omega) (by omega)]
    by_cases z : xgt p x y < xgt p (i : Int) y
    · rw [if_neg (by omega)] at hs
      have h0 := xcontent_0 hs j
      rw [show i + 1 + j = 10 by omega] at h0
      rw [if_pos z, h0]
    · rw [if_pos (by omega)] at hs
      rw [if_neg z, show ((i : Int) + 1) = ((i + 1 : Nat) : Int) by omega]
      exact ih (i + 1) fu (by omega) (by omega) hs
theorem content_c {p x y : Int} {s : xW} (hp : 0 ≤ p ∧ p ≤ 20) (hx : 0 ≤ x ∧ x ≤ 9) (hy : 0 ≤ y ∧ y ≤ 9) : F_X10_isContent p x y s = some (xcontent p x y 10) := by
  unfold F_X10_isContent
  rw [salute_c hx hy]
  simp only [xbp_s, xbd_s, xls, xli, xlt, xjn]
  exact content_loop hp hx hy 10 0 xN (by omega) (by have := xN_ge; omega) rfl
theorem rest_loop {p x y : Int} {s : xW} {k : Int → Int → Option Int} (hp : 0 ≤ p ∧ p ≤ 20) (hx : 0 ≤ x ∧ x ≤ 9) (hy : 0 ≤ y ∧ y ≤ 9) : ∀ (j i fu : Nat), i + j = 10 → j < fu → F_X11_isRest_5 x y p s fu (xcontent p x y i) (i : Int) k = k (xcontent p x y 10) 10 := by
  intro j
  induction j with
  | zero =>
    intro i fu hi hf
    obtain ⟨fu, rfl⟩ : ∃ g, fu = g + 1 := ⟨fu - 1, by omega⟩
    have e : i = 10 := by omega
    unfold F_X11_isRest_5
    rw [xw_sm (by omega) (by omega), if_neg (by omega), show (i : Int) = 10 by omega, e]
  | succ j ih =>
    intro i fu hi hf
    obtain ⟨fu, rfl⟩ : ∃ g, fu = g + 1 := ⟨fu - 1, by omega⟩
    have hg1 := xgt_r (p := p) (x := x) (y := y) hp hx
    have hg2 := xgt_r (p := p) (x := (i : Int)) (y := y) hp (by omega)
    have hs := xcontent_s p x y i
    have g := ih (i + 1) fu (by omega) (by omega)
    rw [show ((i + 1 : Nat) : Int) = (i : Int) + 1 by omega] at g
    have m1 := gets_m (p := p) (x := (i : Int)) (y := y) (s := s) (by omega) hy
    have m2 := gets_m (p := p) (x := x) (y := y) (s := s) hx hy
    unfold F_X11_isRest_5
    simp only [xbp_n, xbd_n, xls, xli, xlt, xjn]
    rw [xw_sm (x := (i : Int)) (by omega) (by omega), if_pos (by omega)]
    rcases xcontent_b p x y i with z | z
    · rw [if_neg (fun w => w.1 z)] at hs
      rw [hs] at g
      rw [z, if_neg (show ¬ xw 0 ≠ 0 by decide)]
      exact g
    · rw [z, if_pos (show xw 1 ≠ 0 by decide), m1]
      simp only [xbp_n, xbd_n, xls, xli, xlt, xjn]
      rw [m2]
      simp only [xbp_n, xbd_n, xls, xli, xlt, xjn]
      rw [xw_sm (x := xgt p x y) (by omega) (by omega), xw_sm (x := xgt p (i : Int) y) (by omega) (by omega)]
      by_cases w : xgt p (i : Int) y ≤ xgt p x y
      · rw [if_pos ⟨by omega, w⟩] at hs
        rw [hs] at g
        rw [if_pos w]
        exact g
      · rw [if_neg (fun v => w v.2)] at hs
        rw [hs] at g
        rw [if_neg w]
        exact g
theorem rest_m {p x y : Int} {s : xW} (hp : 0 ≤ p ∧ p ≤ 20) (hx : 0 ≤ x ∧ x ≤ 9) (hy : 0 ≤ y ∧ y ≤ 9) : F_X11_isRest x y p s = some (xcontent p x y 10) := by
  unfold F_X11_isRest
  refine Eq.trans (rest_loop hp hx hy 10 0 xN (by omega) (by have := xN_ge; omega)) ?_
  exact xgd_t (xcontent_b p x y 10)
theorem rests_in {p x : Int} {kC kM : Int → Int → xW → Option (Int × xW)} (hp : 0 ≤ p ∧ p ≤ 20) (hx : 0 ≤ x ∧ x ≤ 9) : ∀ (j i fu gu : Nat) (c : Int) (s t : xW), i + j = 10 → j < fu → j < gu → (0 ≤ c ∧ c ≤ 10 * x + i) → (c = 0 → t 121 1 = 0) → Xrow s t → ∃ c' s' t', F_X10_rests_32 p x fu c (i : Int) s kC = kC c' 10 s' ∧ F_X11_rests_37 p x gu c (i : Int) t kM = kM c' 10 t' ∧ (0 ≤ c' ∧ c' ≤ 10 * x + 10) ∧ (c' = 0 → t' 121 1 = 0) ∧ Xrow s' t' := by
  intro j
  induction j with
  | zero =>
    intro i fu gu c s t hi hf hg hc hz hr
    obtain ⟨fu, rfl⟩ : ∃ g, fu = g + 1 := ⟨fu - 1, by omega⟩
    obtain ⟨gu, rfl⟩ : ∃ g, gu = g + 1 := ⟨gu - 1, by omega⟩
    refine ⟨c, s, t, ?_, ?_, by omega, hz, hr⟩
    · unfold F_X10_rests_32
      rw [xw_sm (by omega) (by omega), if_neg (by omega), show (i : Int) = 10 by omega]
    · unfold F_X11_rests_37
      rw [xw_sm (by omega) (by omega), if_neg (by omega), show (i : Int) = 10 by omega]
  | succ j ih =>
    intro i fu gu c s t hi hf hg hc hz hr
    obtain ⟨fu, rfl⟩ : ∃ g, fu = g + 1 := ⟨fu - 1, by omega⟩
    obtain ⟨gu, rfl⟩ : ∃ g, gu = g + 1 := ⟨gu - 1, by omega⟩
    have hy : 0 ≤ (i : Int) ∧ (i : Int) ≤ 9 := by omega
    have go : ∀ (c2 : Int) (s2 t2 : xW), (0 ≤ c2 ∧ c2 ≤ 10 * x + i + 1) → (c2 = 0 → t2 121 1 = 0) → Xrow s2 t2 → ∃ c' s' t', F_X10_rests_32 p x fu c2 ((i : Int) + 1) s2 kC = kC c' 10 s' ∧ F_X11_rests_37 p x gu c2 ((i : Int) + 1) t2 kM = kM c' 10 t' ∧ (0 ≤ c' ∧ c' ≤ 10 * x + 10) ∧ (c' = 0 → t' 121 1 = 0) ∧ Xrow s' t' := by
      intro c2 s2 t2 a1 a2 a3
      rw [show ((i : Int) + 1) = ((i + 1 : Nat) : Int) by omega]
      exact ih (i + 1) fu gu c2 s2 t2 (by omega) (by omega) (by omega) (by omega) a2 a3
    have cc1 := content_c (p := p) (x := x) (y := (i : Int)) (s := s) hp hx hy
    have cc2 := content_c (p := p) (x := (i : Int)) (y := x) (s := s) hp hy hx
    have mm1 := rest_m (p := p) (x := x) (y := (i : Int)) (s := t) hp hx hy
    have mm2 := rest_m (p := p) (x := (i : Int)) (y := x) (s := t) hp hy hx
    rcases xcontent_b p x (i : Int) 10 with z1 | z1
    · rw [z1] at cc1 mm1
      obtain ⟨c', s', t', g1, g2, g3⟩ := go c s t (by omega) hz hr
      refine ⟨c', s', t', ?_, ?_, g3⟩
      · unfold F_X10_rests_32
        simp only [xbp_s, xbd_s, xls, xli, xlt, xjn]
        rw [xw_sm (x := (i : Int)) (by omega) (by omega), if_pos (by omega), cc1]
        simp only [xbp_s, xbd_s, xls, xli, xlt, xjn]
        rw [if_neg (show ¬ xw 0 ≠ 0 by decide)]
        exact g1
      · unfold F_X11_rests_37
        simp only [xbp_s, xbd_s, xls, xli, xlt, xjn]
        rw [xw_sm (x := (i : Int)) (by omega) (by omega), if_pos (by omega), mm1]
        simp only [xbp_s, xbd_s, xls, xli, xlt, xjn]
        rw [if_neg (show ¬ xw 0 ≠ 0 by decide)]
        exact g2
    · rw [z1] at cc1 mm1
      rcases xcontent_b p (i : Int) x 10 with z2 | z2
      · rw [z2] at cc2 mm2
        obtain ⟨c', s', t', g1, g2, g3⟩ := go c s t (by omega) hz hr
        refine ⟨c', s', t', ?_, ?_, g3⟩
        · unfold F_X10_rests_32
          simp only [xbp_s, xbd_s, xls, xli, xlt, xjn]
          rw [xw_sm (x := (i : Int)) (by omega) (by omega), if_pos (by omega), cc1]
          simp only [xbp_s, xbd_s, xls, xli, xlt, xjn]
          rw [if_pos (show xw 1 ≠ 0 by decide), cc2]
          simp only [xbp_s, xbd_s, xls, xli, xlt, xjn]
          rw [if_neg (show ¬ xw 0 ≠ 0 by decide)]
          exact g1
        · unfold F_X11_rests_37
          simp only [xbp_s, xbd_s, xls, xli, xlt, xjn]
          rw [xw_sm (x := (i : Int)) (by omega) (by omega), if_pos (by omega), mm1]
          simp only [xbp_s, xbd_s, xls, xli, xlt, xjn]
          rw [if_pos (show xw 1 ≠ 0 by decide), mm2]
          simp only [xbp_s, xbd_s, xls, xli, xlt, xjn]
          rw [if_neg (show ¬ xw 0 ≠ 0 by decide)]
          exact g2
      · rw [z2] at cc2 mm2
        by_cases z3 : c = 0
        · have et : xu t 121 1 0 = t := by
            funext a b
            by_cases w : a = 121
            · by_cases w2 : b = 1
              · rw [w, w2, xu_same, hz z3]
              · rw [w, xu_slot _ _ _ w2]
            · rw [xu_row _ _ _ w]
          have e1 := ent_1 (s := t) (a := x)
          rw [et] at e1
          obtain ⟨c', s', t', g1, g2, g3⟩ := go (c + 1) (xt2 s x i) (xe2 t x i) (by omega) (fun w => by omega) (Xrow_2 (a := x) (b := (i : Int)) rfl ⟨by simp [xt2, xt1, xu], by simp [xt2, xt1, xu]⟩ rfl ⟨by simp [xe2, xe1, xu], by simp [xe2, xe1, xu]⟩)
          refine ⟨c', s', t', ?_, ?_, g3⟩
          · unfold F_X10_rests_32
            simp only [xbp_s, xbd_s, xls, xli, xlt, xjn]
            rw [xw_sm (x := (i : Int)) (by omega) (by omega), if_pos (by omega), cc1]
            simp only [xbp_s, xbd_s, xls, xli, xlt, xjn]
            rw [if_pos (show xw 1 ≠ 0 by decide), cc2]
            simp only [xbp_s, xbd_s, xls, xli, xlt, xjn]
            rw [if_pos (show xw 1 ≠ 0 by decide), xw_sm (x := c + 1) (by omega) (by omega), if_pos (show c + 1 = 1 by omega), xw_sm (x := x) (by omega) (by omega), tell_2]
            simp only [xbp_s, xbd_s, xls, xli, xlt, xjn]
            exact g1
          · unfold F_X11_rests_37
            simp only [xbp_s, xbd_s, xls, xli, xlt, xjn]
            rw [xw_sm (x := (i : Int)) (by omega) (by omega), if_pos (by omega), mm1]
            simp only [xbp_s, xbd_s, xls, xli, xlt, xjn]
            rw [if_pos (show xw 1 ≠ 0 by decide), mm2]
            simp only [xbp_s, xbd_s, xls, xli, xlt, xjn]
            rw [if_pos (show xw 1 ≠ 0 by decide), xw_sm (x := c) (by omega) (by omega), if_pos z3, xw_sm (x := x) (by omega) (by omega), e1]
            simp only [xbp_s, xbd_s, xls, xli, xlt, xjn]
            rw [ent_2]
            simp only [xbp_s, xbd_s, xls, xli, xlt, xjn]
            exact g2
        · obtain ⟨c', s', t', g1, g2, g3⟩ := go (c + 1) s t (by omega) (fun w => by omega) hr
          refine ⟨c', s', t', ?_, ?_, g3⟩
          · unfold F_X10_rests_32
            simp only [xbp_s, xbd_s, xls, xli, xlt, xjn]
            rw [xw_sm (x := (i : Int)) (by omega) (by omega), if_pos (by omega), cc1]
            simp only [xbp_s, xbd_s, xls, xli, xlt, xjn]
            rw [if_pos (show xw 1 ≠ 0 by decide), cc2]
            simp only [xbp_s, xbd_s, xls, xli, xlt, xjn]
            rw [if_pos (show xw 1 ≠ 0 by decide), xw_sm (x := c + 1) (by omega) (by omega), if_neg (show ¬ c + 1 = 1 by omega)]
            exact g1
          · unfold F_X11_rests_37
            simp only [xbp_s, xbd_s, xls, xli, xlt, xjn]
            rw [xw_sm (x := (i : Int)) (by omega) (by omega), if_pos (by omega), mm1]
            simp only [xbp_s, xbd_s, xls, xli, xlt, xjn]
            rw [if_pos (show xw 1 ≠ 0 by decide), mm2]
            simp only [xbp_s, xbd_s, xls, xli, xlt, xjn]
            rw [if_pos (show xw 1 ≠ 0 by decide), xw_sm (x := c) (by omega) (by omega), if_neg z3]
            exact g2
theorem rests_out {p : Int} {kC kM : Int → Int → xW → Option (Int × xW)} (hp : 0 ≤ p ∧ p ≤ 20) : ∀ (j i fu gu : Nat) (c : Int) (s t : xW), i + j = 10 → j < fu → j < gu → (0 ≤ c ∧ c ≤ 10 * (i : Int)) → (c = 0 → t 121 1 = 0) → Xrow s t → ∃ c' s' t', F_X10_rests_23 p fu c (i : Int) s kC = kC c' 10 s' ∧ F_X11_rests_28 p gu c (i : Int) t kM = kM c' 10 t' ∧ Xrow s' t' := by
  intro j
  induction j with
  | zero =>
    intro i fu gu c s t hi hf hg hc hz hr
    obtain ⟨fu, rfl⟩ : ∃ g, fu = g + 1 := ⟨fu - 1, by omega⟩
    obtain ⟨gu, rfl⟩ : ∃ g, gu = g + 1 := ⟨gu - 1, by omega⟩
    refine ⟨c, s, t, ?_, ?_, hr⟩
    · unfold F_X10_rests_23
      rw [xw_sm (by omega) (by omega), if_neg (by omega), show (i : Int) = 10 by omega]
    · unfold F_X11_rests_28
      rw [xw_sm (by omega) (by omega), if_neg (by omega), show (i : Int) = 10 by omega]
  | succ j ih =>
    intro i fu gu c s t hi hf hg hc hz hr
    obtain ⟨fu, rfl⟩ : ∃ g, fu = g + 1 := ⟨fu - 1, by omega⟩
    obtain ⟨gu, rfl⟩ : ∃ g, gu = g + 1 := ⟨gu - 1, by omega⟩
    have hxN := xN_ge
    obtain ⟨c1, s1, t1, g1, g2, g3, g4, g5⟩ := rests_in (p := p) (x := (i : Int)) (kC := fun (l2 : Int) (l4 : Int) (s38 : xW) => F_X10_rests_23 p fu l2 ((i : Int) + 1) s38 kC) (kM := fun (l2 : Int) (l4 : Int) (s44 : xW) => F_X11_rests_28 p gu l2 ((i : Int) + 1) s44 kM) hp (by omega) 10 0 xN xN c s t (by omega) (by omega) (by omega) (by omega) hz hr
    obtain ⟨c', s', t', f1, f2, f3⟩ := ih (i + 1) fu gu c1 s1 t1 (by omega) (by omega) (by omega) (by omega) g4 g5
    rw [show ((i + 1 : Nat) : Int) = (i : Int) + 1 by omega] at f1 f2
    refine ⟨c', s', t', ?_, ?_, f3⟩
    · rw [F_X10_rests_23, xw_sm (by omega) (by omega), if_pos (by omega)]
      exact Eq.trans g1 f1
    · rw [F_X11_rests_28, xw_sm (by omega) (by omega), if_pos (by omega)]
      exact Eq.trans g2 f2
theorem op_rests {a : Int} (ha : I32 a) : XO (F_X10_rests a) (F_X11_rests a) := by
  intro B σ τ hB hB1 hR
  have hxN := xN_ge
  by_cases q : 0 ≤ a ∧ a ≤ 20
  · obtain ⟨c', s', t', g1, g2, g3⟩ := rests_out (p := a) (kC := fun (l2 : Int) (l3 : Int) (s44 : xW) => some (l2, s44)) (kM := fun (l2 : Int) (l3 : Int) (s50 : xW) => some (l2, s50)) q 10 0 xN xN 0 (xu σ 3 1 0) (xu (xu τ 121 0 0) 121 1 0) (by omega) (by omega) (by omega) (by omega) (fun _ => xu_same _ _ _ _) (Xrow_st none (xu_same _ _ _ _) (xu_same _ _ _ _))
    have eC : F_X10_rests a σ = some (c', s') := by
      unfold F_X10_rests F_X6_clear
      simp only [xbp_s, xbd_s, xls, xli, xlt, xjn]
      rw [xw_id ha, if_pos q.1, if_neg (show ¬ 20 < a by omega)]
      exact g1
    have eM : F_X11_rests a τ = some (c', t') := by
      unfold F_X11_rests
      simp only [xbp_s, xbd_s, xls, xli, xlt, xjn]
      rw [xw_id ha, in_eq (by omega) (by omega) (by omega), if_pos q]
      simp only [xbp_s, xbd_s, xls, xli, xlt, xjn]
      rw [if_neg (show ¬ xw 1 = 0 by decide)]
      exact g2
    exact ⟨_, _, _, eC, eM, XR_W (fr_X10_rests eC) (by decide +kernel) (fr_X11_rests eM) (by decide +kernel) hR g3⟩
  · refine ⟨-1, σ, xu τ 121 0 0, ?_, ?_, XR_mono (by omega) (XR_thr hR)⟩
    · unfold F_X10_rests
      simp only [xbp_s, xbd_s, xls, xli, xlt, xjn]
      rw [xw_id ha]
      by_cases z1 : 0 ≤ a
      · rw [if_pos z1, if_pos (show 20 < a by omega)]
      · rw [if_neg z1]
    · unfold F_X11_rests
      simp only [xbp_s, xbd_s, xls, xli, xlt, xjn]
      rw [xw_id ha, in_eq (by omega) (by omega) (by omega), if_neg q]
      simp only [xbp_s, xbd_s, xls, xli, xlt, xjn]
      rw [if_pos (show xw 0 = 0 by decide)]
