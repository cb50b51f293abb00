/-! forts, the class -/
theorem lose_all : ∀ (a b : Fin 21), (if xw (xand (xshr (xlose (a.val : Int)) (b.val : Int)) 1) = 1 then (1 : Int) else 0) = if xL (a.val : Int) (b.val : Int) then 1 else 0 := by decide +kernel
theorem lose_b {a b : Int} (ha : 0 ≤ a ∧ a ≤ 20) (hb : 0 ≤ b ∧ b ≤ 20) : (if xw (xand (xshr (xlose a) b) 1) = 1 then (1 : Int) else 0) = if xL a b then 1 else 0 := by
  obtain ⟨m, rfl⟩ : ∃ m : Nat, a = m := ⟨a.toNat, by omega⟩
  obtain ⟨n, rfl⟩ : ∃ n : Nat, b = n := ⟨b.toNat, by omega⟩
  exact lose_all ⟨m, by omega⟩ ⟨n, by omega⟩
/-- one row of the table -/
def xfl1 (u d a : Int) : Nat → Int → Int → Int
  | 0, _, r => r
  | j + 1, i, r => xfl1 u d a j (i + 1) (if (xw (if (xw r) = 0 then if (xw (xand (xshr (xor' u d) i) 1)) = 1 then (1 : Int) else 0 else 1)) = 0 ∧ 0 < xw (a + i) then xor' r (xshl 1 i) else r)
def xflu : Nat → Int
  | 0 => 0
  | n + 1 => xor' (xflu n) (xlose n)
def xfld (a : Int) : Int := if 0 < a then xshl (xlose (a - 1)) 1 else 0
theorem fl_all : ∀ a : Fin 21, xfl1 (xflu a.val) (xfld (a.val : Int)) (a.val : Int) 21 0 0 = xlose (a.val : Int) := by decide +kernel
theorem fl_32 {u a d : Int} {k : Int → xW → Option xW} (ha : 0 ≤ a ∧ a ≤ 20) :
    ∀ (j i fu : Nat) (s : xW), (i : Int) + j = 21 → j < fu → ∃ s', F_X2_findLosing_32 u a d fu (i : Int) s k = k 21 s' ∧ s' 106 a = xfl1 u d a j i (s 106 a) ∧ (∀ x : Int, x ≠ a → s' 106 x = s 106 x) ∧ (∀ c : Int, c ≠ 106 → s' c = s c) := by
  intro j
  induction j with
  | zero =>
    intro i fu s hi hfu
    obtain ⟨fu, rfl⟩ : ∃ g, fu = g + 1 := ⟨fu - 1, by omega⟩
    have ei : (i : Int) = 21 := by omega
    refine ⟨s, ?_, rfl, fun _ _ => rfl, fun _ _ => rfl⟩
    rw [ei, F_X2_findLosing_32, if_neg (by decide)]
  | succ j ih =>
    intro i fu s hi hfu
    obtain ⟨fu, rfl⟩ : ∃ g, fu = g + 1 := ⟨fu - 1, by omega⟩
    rw [F_X2_findLosing_32, xw_sm (x := (i : Int)) (by omega) (by omega), if_pos (by omega), xgd_t (by omega)]
    simp only [xbp_s, xbd_s, xls, xli, xlt, xjn]
    by_cases z : (xw (if (xw (s 106 a)) = 0 then if (xw (xand (xshr (xor' u d) (i : Int)) 1)) = 1 then (1 : Int) else 0 else 1)) = 0
    · by_cases z2 : 0 < xw (a + (i : Int))
      · obtain ⟨s', w1, w2, w3, w4⟩ := ih (i + 1) fu (xu s 106 a (xor' (s 106 a) (xshl 1 (i : Int)))) (by omega) (by omega)
        refine ⟨s', ?_, ?_, fun x x1 => by rw [w3 x x1, xu_slot _ _ _ x1], fun c c1 => by rw [w4 c c1, xu_row _ _ _ c1]⟩
        · rw [if_pos z, if_pos z2, xgd_t (by omega), xgd_t (by omega), show ((i : Int) + 1) = ((i + 1 : Nat) : Int) by omega]
          exact w1
        · rw [w2, xu_same, xfl1, if_pos ⟨z, z2⟩, show ((i : Int) + 1) = ((i + 1 : Nat) : Int) by omega]
      · obtain ⟨s', w1, w2, w3, w4⟩ := ih (i + 1) fu s (by omega) (by omega)
        refine ⟨s', ?_, ?_, w3, w4⟩
        · rw [if_pos z, if_neg z2, show ((i : Int) + 1) = ((i + 1 : Nat) : Int) by omega]
          exact w1
        · rw [w2, xfl1, if_neg (fun w => z2 w.2), show ((i : Int) + 1) = ((i + 1 : Nat) : Int) by omega]
    · obtain ⟨s', w1, w2, w3, w4⟩ := ih (i + 1) fu s (by omega) (by omega)
      refine ⟨s', ?_, ?_, w3, w4⟩
      · rw [if_neg z, show ((i : Int) + 1) = ((i + 1 : Nat) : Int) by omega]
        exact w1
      · rw [w2, xfl1, if_neg (fun w => z w.1), show ((i : Int) + 1) = ((i + 1 : Nat) : Int) by omega]
theorem fl_4 {k : Int → Int → xW → Option xW} :
    ∀ (j i fu : Nat) (s : xW), i + j = 21 → j < fu → (∀ x : Int, 0 ≤ x → x < i → s 106 x = xlose x) → (∀ x : Int, (i : Int) ≤ x → x ≤ 20 → s 106 x = 0) → ∃ s' v, F_X2_findLosing_4 fu (xflu i) (i : Int) s k = k v 21 s' ∧ (∀ x : Int, 0 ≤ x → x ≤ 20 → s' 106 x = xlose x) ∧ (∀ c : Int, c ≠ 106 → s' c = s c) := by
  intro j
  induction j with
  | zero =>
    intro i fu s hi hfu h1 h2
    obtain ⟨fu, rfl⟩ : ∃ g, fu = g + 1 := ⟨fu - 1, by omega⟩
    have ei : (i : Int) = 21 := by omega
    refine ⟨s, xflu i, ?_, fun x x1 x2 => h1 x x1 (by omega), fun _ _ => rfl⟩
    rw [ei, F_X2_findLosing_4, if_neg (by decide)]
  | succ j ih =>
    intro i fu s hi hfu h1 h2
    have hN := xN_ge
    obtain ⟨fu, rfl⟩ : ∃ g, fu = g + 1 := ⟨fu - 1, by omega⟩
    obtain ⟨s1, u1, u2, u3, u4⟩ := fl_32 (u := xflu i) (a := (i : Int)) (d := xfld (i : Int)) (k := fun (l4_33 : Int) (s34 : xW) =>
        xgd (0 ≤ (i : Int) ∧ (i : Int) < 21) <|
        F_X2_findLosing_4 fu (xor' (xflu i) (s34 106 (i : Int))) ((i : Int) + 1) s34 k) (by omega) 21 0 xN s (by omega) (by omega)
    rw [h2 i (by omega) (by omega)] at u2
    have e2 : s1 106 (i : Int) = xlose (i : Int) := Eq.trans u2 (fl_all ⟨i, by omega⟩)
    obtain ⟨s', v, w1, w2, w3⟩ := ih (i + 1) fu s1 (by omega) (by omega) (fun x x1 x2 => by
      by_cases z : x = i
      · rw [z]; exact e2
      · rw [u3 x z]; exact h1 x x1 (by omega)) (fun x x1 x2 => by
      rw [u3 x (by omega)]
      exact h2 x (by omega) x2)
    refine ⟨s', v, ?_, w2, fun c z => by rw [w3 c z, u4 c z]⟩
    have e3 : xgd (0 ≤ (i : Int) ∧ (i : Int) < 21) (F_X2_findLosing_4 fu (xor' (xflu i) (s1 106 (i : Int))) ((i : Int) + 1) s1 k) = k v 21 s' := by
      rw [xgd_t (by omega), e2, show ((i : Int) + 1) = ((i + 1 : Nat) : Int) by omega]
      exact w1
    rw [F_X2_findLosing_4, xw_sm (x := (i : Int)) (by omega) (by omega), if_pos (by omega)]
    simp only [xbp_s, xbd_s, xls, xli, xlt, xjn]
    by_cases z : 0 < (i : Int)
    · rw [if_pos z, xgd_t (by omega), h1 _ (by omega) (by omega)]
      have : xfld (i : Int) = xshl (xlose ((i : Int) - 1)) 1 := if_pos z
      rw [this] at u1
      exact Eq.trans u1 e3
    · rw [if_neg z]
      have : xfld (i : Int) = 0 := if_neg z
      rw [this] at u1
      exact Eq.trans u1 e3
theorem loses_c {a b : Int} {s : xW} (ha : 0 ≤ a ∧ a ≤ 20) (hb : 0 ≤ b ∧ b ≤ 20) (h : Xforts s) : ∃ s', F_X2_loses a b s = some (if xL a b then 1 else 0, s') ∧ Xforts s' ∧ (∀ c : Int, c ≠ 105 → c ≠ 106 → s' c = s c) := by
  have hN := xN_ge
  have key : ∀ s1 : xW, (∀ x : Int, 0 ≤ x → x ≤ 20 → s1 106 x = xlose x) → (xgd (0 ≤ a ∧ a < 21) <| xli (if (xw (xand (xshr (s1 106 a) b) 1)) = 1 then 1 else 0) fun v7 => xgd (v7 = 0 ∨ v7 = 1) <| some (v7, s1)) = some (if xL a b then 1 else 0, s1) := by
    intro s1 h1
    rw [xgd_t (by omega), h1 a ha.1 ha.2, lose_b ha hb, xli, xlt, xgd_t (by split <;> decide)]
  unfold F_X2_loses
  simp only [xjn]
  rcases h with ⟨h1, h2⟩ | ⟨h1, h2⟩
  · obtain ⟨s1, v, w1, w2, w3⟩ := fl_4 (k := fun (l1_41 : Int) (l2_42 : Int) (s43 : xW) => some s43) 21 0 xN s (by omega) (by omega) (fun x x1 x2 => by omega) (fun x x1 x2 => h2 x (by omega) x2)
    have e : F_X2_findLosing s = some s1 := by
      unfold F_X2_findLosing
      exact w1
    refine ⟨xu s1 105 1 1, ?_, Or.inr ⟨xu_same _ _ _ _, fun x x1 x2 => ?_⟩, fun c c1 c2 => ?_⟩
    · rw [h1, if_pos (show xw 0 = 0 by decide), e]
      simp only [xbp_s, xbd_s, xls, xli, xlt, xjn]
      refine Eq.trans ?_ (key (xu s1 105 1 1) (fun x x1 x2 => ?_))
      · rfl
      · rw [xu_row _ _ _ (show (106 : Int) ≠ 105 by decide)]
        exact w2 x x1 x2
    · rw [xu_row _ _ _ (show (106 : Int) ≠ 105 by decide)]
      exact w2 x x1 x2
    · rw [xu_row _ _ _ c1, w3 c c2]
  · refine ⟨s, ?_, Or.inr ⟨h1, h2⟩, fun _ _ _ => rfl⟩
    rw [h1, if_neg (show ¬ xw 1 = 0 by decide)]
    exact key s h2
theorem fmove_c {c d : Int} {s : xW} (hc : 0 ≤ c ∧ c ≤ 20) (hd : 0 ≤ d ∧ d ≤ 20) : F_X2_isMove c d s = some (if xmove c d then 1 else 0) := by
  have hv : (if c = 0 then if d ≤ 0 then if 0 < c then if d ≠ 0 then if c = 1 then if d = 1 then (1 : Int) else 0 else 0 else 1 else if c = 1 then if d = 1 then 1 else 0 else 0 else 1 else if 0 < c then if d ≠ 0 then if c = 1 then if d = 1 then 1 else 0 else 0 else 1 else if c = 1 then if d = 1 then 1 else 0 else 0) = if xmove c d then 1 else 0 := by
    unfold xmove
    (repeat' split) <;> omega
  unfold F_X2_isMove
  rw [xw_sm (x := c) (by omega) (by omega), xw_sm (x := d) (by omega) (by omega), hv, xli, xlt, xgd_t (by split <;> decide)]
theorem fort_c50 {a1 a2 c : Int} {k : Int → xW → Option (Int × xW)} (h1 : 0 ≤ a1 ∧ a1 ≤ 20) (h2 : 0 ≤ a2 ∧ a2 ≤ 20) (hc : 0 ≤ c ∧ c ≤ a1) :
    ∀ (j i fu : Nat) (s : xW), (i : Int) + j = a2 + 1 → j < fu → Xforts s → ∃ s', Xforts s' ∧ (∀ c : Int, c ≠ 105 → c ≠ 106 → s' c = s c) ∧ ((∃ d : Int, ((i : Int) ≤ d ∧ d ≤ a2) ∧ xgm a1 a2 c d ∧ (∀ x : Int, (i : Int) ≤ x → x < d → ¬ xgm a1 a2 c x) ∧ F_X10_forts_50 a1 a2 c fu (i : Int) s k = some (1, xt2 s' c d)) ∨ ((∀ x : Int, (i : Int) ≤ x → x ≤ a2 → ¬ xgm a1 a2 c x) ∧ F_X10_forts_50 a1 a2 c fu (i : Int) s k = k (a2 + 1) s')) := by
  intro j
  induction j with
  | zero =>
    intro i fu s hi hfu hs
    obtain ⟨fu, rfl⟩ : ∃ g, fu = g + 1 := ⟨fu - 1, by omega⟩
    have ei : (i : Int) = a2 + 1 := by omega
    refine ⟨s, hs, fun _ _ _ => rfl, Or.inr ⟨fun x x1 x2 => by omega, ?_⟩⟩
    rw [ei, F_X10_forts_50, xw_sm (x := a2 + 1) (by omega) (by omega), xw_sm (x := a2) (by omega) (by omega), if_neg (by omega)]
  | succ j ih =>
    intro i fu s hi hfu hs
    obtain ⟨fu, rfl⟩ : ∃ g, fu = g + 1 := ⟨fu - 1, by omega⟩
    obtain ⟨s1, u1, u2, u3⟩ := loses_c (a := a1 - c) (b := a2 - (i : Int)) (by omega) (by omega) hs
    by_cases z : xgm a1 a2 c (i : Int)
    · refine ⟨s1, u2, u3, Or.inl ⟨i, by omega, z, fun x x1 x2 => by omega, ?_⟩⟩
      rw [F_X10_forts_50, xw_sm (x := (i : Int)) (by omega) (by omega), xw_sm (x := a2) (by omega) (by omega), if_pos (by omega), fmove_c (by omega) (by omega), if_pos z.1]
      simp only [xbp_s, xbd_s, xls, xli, xlt, xjn]
      rw [if_pos (show xw 1 ≠ 0 by decide), u1, if_pos z.2.2]
      simp only [xbp_s, xbd_s, xls, xli, xlt, xjn]
      rw [if_pos (show xw 1 ≠ 0 by decide), xw_sm (x := c) (by omega) (by omega), tell_2]
      rfl
    · have e : ∃ s2, Xforts s2 ∧ (∀ c : Int, c ≠ 105 → c ≠ 106 → s2 c = s c) ∧ F_X10_forts_50 a1 a2 c (fu + 1) (i : Int) s k = F_X10_forts_50 a1 a2 c fu ((i : Int) + 1) s2 k := by
        by_cases z1 : xmove c (i : Int)
        · refine ⟨s1, u2, u3, ?_⟩
          have z2 : ¬ xL (a1 - c) (a2 - (i : Int)) := fun w => z ⟨z1, by omega, w⟩
          rw [F_X10_forts_50, xw_sm (x := (i : Int)) (by omega) (by omega), xw_sm (x := a2) (by omega) (by omega), if_pos (by omega), fmove_c (by omega) (by omega), if_pos z1]
          simp only [xbp_s, xbd_s, xls, xli, xlt, xjn]
          rw [if_pos (show xw 1 ≠ 0 by decide), u1, if_neg z2]
          simp only [xbp_s, xbd_s, xls, xli, xlt, xjn]
          rw [if_neg (show ¬ xw 0 ≠ 0 by decide)]
        · refine ⟨s, hs, fun _ _ _ => rfl, ?_⟩
          rw [F_X10_forts_50, xw_sm (x := (i : Int)) (by omega) (by omega), xw_sm (x := a2) (by omega) (by omega), if_pos (by omega), fmove_c (by omega) (by omega), if_neg z1]
          simp only [xbp_s, xbd_s, xls, xli, xlt, xjn]
          rw [if_neg (show ¬ xw 0 ≠ 0 by decide)]
      obtain ⟨s2, e1, e2, e3⟩ := e
      obtain ⟨s', g0, g00, g⟩ := ih (i + 1) fu s2 (by omega) (by omega) e1
      rw [show ((i + 1 : Nat) : Int) = (i : Int) + 1 by omega] at g
      refine ⟨s', g0, fun c c1 c2 => by rw [g00 c c1 c2, e2 c c1 c2], ?_⟩
      rw [e3]
      rcases g with ⟨d, g1, g2, g3, g4⟩ | ⟨g1, g2⟩
      · refine Or.inl ⟨d, by omega, g2, fun x x1 x2 => ?_, g4⟩
        by_cases w : x = i
        · rw [w]; exact z
        · exact g3 x (by omega) x2
      · refine Or.inr ⟨fun x x1 x2 => ?_, g2⟩
        by_cases w : x = i
        · rw [w]; exact z
        · exact g1 x (by omega) x2
theorem fort_c42 {a1 a2 : Int} {k : Int → xW → Option (Int × xW)} (h1 : 0 ≤ a1 ∧ a1 ≤ 20) (h2 : 0 ≤ a2 ∧ a2 ≤ 20) :
    ∀ (j i fu : Nat) (s : xW), (i : Int) + j = a1 + 1 → j < fu → Xforts s → ∃ s', Xforts s' ∧ (∀ c : Int, c ≠ 105 → c ≠ 106 → s' c = s c) ∧ ((∃ c d : Int, xfst1 a1 a2 i c d ∧ F_X10_forts_42 a1 a2 fu (i : Int) s k = some (1, xt2 s' c d)) ∨ ((∀ x y : Int, (i : Int) ≤ x → x ≤ a1 → 0 ≤ y → y ≤ a2 → ¬ xgm a1 a2 x y) ∧ F_X10_forts_42 a1 a2 fu (i : Int) s k = k (a1 + 1) s')) := by
  intro j
  induction j with
  | zero =>
    intro i fu s hi hfu hs
    obtain ⟨fu, rfl⟩ : ∃ g, fu = g + 1 := ⟨fu - 1, by omega⟩
    have ei : (i : Int) = a1 + 1 := by omega
    refine ⟨s, hs, fun _ _ _ => rfl, Or.inr ⟨fun x y x1 x2 => by omega, ?_⟩⟩
    rw [ei, F_X10_forts_42, xw_sm (x := a1 + 1) (by omega) (by omega), xw_sm (x := a1) (by omega) (by omega), if_neg (by omega)]
  | succ j ih =>
    intro i fu s hi hfu hs
    have hN := xN_ge
    obtain ⟨fu, rfl⟩ : ∃ g, fu = g + 1 := ⟨fu - 1, by omega⟩
    have e : F_X10_forts_42 a1 a2 (fu + 1) (i : Int) s k = F_X10_forts_50 a1 a2 (i : Int) xN ((0 : Nat) : Int) s (fun (l4_39 : Int) (s40 : xW) => F_X10_forts_42 a1 a2 fu ((i : Int) + 1) s40 k) := by
      rw [F_X10_forts_42, xw_sm (x := (i : Int)) (by omega) (by omega), xw_sm (x := a1) (by omega) (by omega), if_pos (by omega)]
      rfl
    rw [e]
    obtain ⟨s1, v0, v1, u⟩ := fort_c50 (c := (i : Int)) (k := fun (l4_39 : Int) (s40 : xW) => F_X10_forts_42 a1 a2 fu ((i : Int) + 1) s40 k) h1 h2 (by omega) (a2 + 1).toNat 0 xN s (by omega) (by omega) hs
    rcases u with ⟨d, u1, u2, u3, u4⟩ | ⟨u1, u2⟩
    · exact ⟨s1, v0, v1, Or.inl ⟨i, d, ⟨by omega, by omega, u2, fun x y x1 x2 => by omega, fun y y1 y2 => u3 y (by omega) y2⟩, u4⟩⟩
    · obtain ⟨s', g0, g00, g⟩ := ih (i + 1) fu s1 (by omega) (by omega) v0
      rw [show ((i + 1 : Nat) : Int) = (i : Int) + 1 by omega] at g
      refine ⟨s', g0, fun c c1 c2 => by rw [g00 c c1 c2, v1 c c1 c2], ?_⟩
      rcases g with ⟨c, d, ⟨g1, g2, g3, g4, g5⟩, g6⟩ | ⟨g1, g2⟩
      · refine Or.inl ⟨c, d, ⟨by omega, g2, g3, fun x y x1 x2 y1 y2 => ?_, g5⟩, Eq.trans u2 g6⟩
        by_cases w : x = i
        · rw [w]; exact u1 y (by omega) y2
        · exact g4 x y (by omega) x2 y1 y2
      · refine Or.inr ⟨fun x y x1 x2 y1 y2 => ?_, Eq.trans u2 g2⟩
        by_cases w : x = i
        · rw [w]; exact u1 y (by omega) y2
        · exact g1 x y (by omega) x2 y1 y2
theorem xfst1_u {a1 a2 i c d c' d' : Int} (h : xfst1 a1 a2 i c d) (h' : xfst1 a1 a2 i c' d') : c' = c ∧ d' = d := by
  obtain ⟨g1, g2, g3, g4, g5⟩ := h
  obtain ⟨k1, k2, k3, k4, k5⟩ := h'
  have e : c' = c := by
    by_cases z1 : c < c'
    · exact absurd g3 (k4 c d g1.1 z1 g2.1 g2.2)
    · by_cases z2 : c' < c
      · exact absurd k3 (g4 c' d' k1.1 z2 k2.1 k2.2)
      · omega
  refine ⟨e, ?_⟩
  rw [e] at k3 k5
  by_cases z1 : d < d'
  · exact absurd g3 (k5 d g2.1 z1)
  · by_cases z2 : d' < d
    · exact absurd k3 (g5 d' k2.1 z2)
    · omega
theorem op_forts {a b : Int} (ha : I32 a) (hb : I32 b) : XO (F_X10_forts a b) (F_X11_forts a b) := by
  intro B σ τ hB hB1 h
  have hN := xN_ge
  by_cases q : (0 ≤ a ∧ a ≤ 20) ∧ (0 ≤ b ∧ b ≤ 20)
  · obtain ⟨q1, q2⟩ := id q
    by_cases z : a = 0 ∧ b = 0
    · refine ⟨-2, σ, xu τ 121 0 0, ?_, ?_, XR_mono (by omega) (XR_thr h)⟩
      · unfold F_X10_forts
        simp only [xjn]
        rw [xw_id ha, xw_id hb, if_pos q1.1, if_pos q1.2, if_pos q2.1, if_neg (by omega), if_pos z.1, if_pos z.2]
      · unfold F_X11_forts
        simp only [xbp_s, xbd_s, xls, xli, xlt, xjn]
        rw [xw_id ha, xw_id hb, in_eq (by omega) (by omega) (by omega), if_pos q1]
        simp only [xbp_s, xbd_s, xls, xli, xlt, xjn]
        rw [if_pos (show xw 1 ≠ 0 by decide), in_eq (by omega) (by omega) (by omega), if_pos q2]
        simp only [xbp_s, xbd_s, xls, xli, xlt, xjn]
        rw [if_neg (show ¬ xw 1 = 0 by decide), xw_sm (x := a + b) (by omega) (by omega), if_pos (by omega)]
    · have hf0 : Xforts (xu σ 3 1 0) := by
        have := h.2.2.2.2.2.2.2.2.2
        unfold Xforts at *
        rw [xu_row _ _ _ (show (105 : Int) ≠ 3 by decide), xu_row _ _ _ (show (106 : Int) ≠ 3 by decide)]
        exact this
      obtain ⟨s1, c1, c2, c3⟩ := fort_c42 (a1 := a) (a2 := b) (k := fun (l3_43 : Int) (s44 : xW) => some (0, s44)) q1 q2 (a + 1).toNat 0 xN (xu σ 3 1 0) (by omega) (by omega) hf0
      obtain ⟨t, d1, d2, d3⟩ := fort_42 (a1 := a) (a2 := b) (k := fun (l3_76 : Int) (s77 : xW) =>
        xls (xu s77 121 1 0) fun s78 =>
        F_X11_forts_159 a b xN 0 s78 fun (l3_109 : Int) (s110 : xW) =>
        xli (if 0 < (xw (s110 121 1)) then 1 else 0) fun v112 =>
        xbp (F_X11_flag v112 s110) fun r116 =>
        some (r116, s110)) q1 q2 (a + 1).toNat 0 xN (xu τ 121 0 0) (by omega) (by omega) (fun x y x1 y1 y2 w => by omega)
      have hC : F_X10_forts a b σ = F_X10_forts_42 a b xN ((0 : Nat) : Int) (xu σ 3 1 0) (fun (l3_43 : Int) (s44 : xW) => some (0, s44)) := by
        unfold F_X10_forts F_X6_clear
        simp only [xbp_s, xbd_s, xls, xli, xlt, xjn]
        rw [xw_id ha, xw_id hb, if_pos q1.1, if_pos q1.2, if_pos q2.1, if_neg (by omega)]
        by_cases z1 : a = 0
        · rw [if_pos z1, if_neg (fun w => z ⟨z1, w⟩)]
          rfl
        · rw [if_neg z1]
          rfl
      have hM : F_X11_forts a b τ = F_X11_forts_159 a b xN ((0 : Nat) : Int) (xu t 121 1 0) (fun (l3_109 : Int) (s110 : xW) =>
        xli (if 0 < (xw (s110 121 1)) then 1 else 0) fun v112 =>
        xbp (F_X11_flag v112 s110) fun r116 =>
        some (r116, s110)) := by
        unfold F_X11_forts
        simp only [xls, xlt]
        rw [xw_id ha, xw_id hb, in_eq (by omega) (by omega) (by omega), if_pos q1]
        simp only [xbp_s, xbd_s, xls, xli, xlt, xjn]
        rw [if_pos (show xw 1 ≠ 0 by decide), in_eq (by omega) (by omega) (by omega), if_pos q2]
        simp only [xbp_s, xbd_s, xls, xli, xlt, xjn]
        rw [if_neg (show ¬ xw 1 = 0 by decide), xw_sm (x := a + b) (by omega) (by omega), if_neg (by omega)]
        exact d1
      have hm := fort_159 (k := fun (l3_109 : Int) (s110 : xW) =>
        xli (if 0 < (xw (s110 121 1)) then 1 else 0) fun v112 =>
        xbp (F_X11_flag v112 s110) fun r116 =>
        some (r116, s110)) q1 q2 d2 (a + 1).toNat 0 xN (by omega) (by omega)
      rcases c3 with ⟨c, d, g1, g2⟩ | ⟨g1, g2⟩
      · rcases hm with ⟨c', d', k1, k2⟩ | ⟨k1, k2⟩
        · obtain ⟨e1, e2⟩ := xfst1_u g1 k1
          rw [e1, e2] at k2
          have eC : F_X10_forts a b σ = some (1, xt2 s1 c d) := Eq.trans hC g2
          have eM : F_X11_forts a b τ = some (1, xe2 t c d) := by
            refine Eq.trans hM (Eq.trans k2 ?_)
            have : xe2 t c d 121 1 = 2 := xu_same _ _ _ _
            rw [this]
            rfl
          refine ⟨_, _, _, eC, eM, ?_⟩
          have hfC := fr_X10_forts eC
          have hfM := fr_X11_forts eM
          obtain ⟨h1, h2, h3, h4, h5, h6, h7, h8, h9, h10⟩ := id h
          refine XR_mono (show _ ≤ B + 300 by omega) ⟨Xtext_cW hfC (by decide +kernel) (Xtext_mW hfM (by decide +kernel) h1), ?_, Xsky_cW hfC (by decide +kernel) (Xsky_mW hfM (by decide +kernel) h3), Xrule_cW hfC (by decide +kernel) (Xrule_mW hfM (by decide +kernel) h4), Xplan_cW hfC (by decide +kernel) (Xplan_mW hfM (by decide +kernel) h5), Xtown_cW hfC (by decide +kernel) (Xtown_mW hfM (by decide +kernel) h6), Xpast_cW hfC (by decide +kernel) (Xpast_mW hfM (by decide +kernel) h7), Xkept_cW hfC (by decide +kernel) (Xkept_mW hfM (by decide +kernel) h8), Xrep_cW hfC (by decide +kernel) (Xrep_mW hfM (by decide +kernel) h9), ?_⟩
          · exact Xrow_2 (a := c) (b := d) rfl ⟨by simp [xt2, xt1, xu], by simp [xt2, xt1, xu]⟩ rfl ⟨by simp [xe2, xe1, xu], by simp [xe2, xe1, xu]⟩
          · show Xforts (xt2 s1 c d)
            unfold Xforts at *
            rw [xt2_o (by decide) (by decide), xt2_o (by decide) (by decide)]
            exact c1
        · exact absurd g1.2.2.1 (k1 c d g1.1.1 g1.1.2 g1.2.1.1 g1.2.1.2)
      · rcases hm with ⟨c', d', k1, k2⟩ | ⟨k1, k2⟩
        · exact absurd k1.2.2.1 (g1 c' d' k1.1.1 k1.1.2 k1.2.1.1 k1.2.1.2)
        · have eC : F_X10_forts a b σ = some (0, s1) := Eq.trans hC g2
          have eM : F_X11_forts a b τ = some (0, xu t 121 1 0) := by
            refine Eq.trans hM (Eq.trans k2 ?_)
            rw [xu_same]
            rfl
          refine ⟨_, _, _, eC, eM, ?_⟩
          have hfC := fr_X10_forts eC
          have hfM := fr_X11_forts eM
          obtain ⟨h1, h2, h3, h4, h5, h6, h7, h8, h9, h10⟩ := id h
          refine XR_mono (show _ ≤ B + 300 by omega) ⟨Xtext_cW hfC (by decide +kernel) (Xtext_mW hfM (by decide +kernel) h1), ?_, Xsky_cW hfC (by decide +kernel) (Xsky_mW hfM (by decide +kernel) h3), Xrule_cW hfC (by decide +kernel) (Xrule_mW hfM (by decide +kernel) h4), Xplan_cW hfC (by decide +kernel) (Xplan_mW hfM (by decide +kernel) h5), Xtown_cW hfC (by decide +kernel) (Xtown_mW hfM (by decide +kernel) h6), Xpast_cW hfC (by decide +kernel) (Xpast_mW hfM (by decide +kernel) h7), Xkept_cW hfC (by decide +kernel) (Xkept_mW hfM (by decide +kernel) h8), Xrep_cW hfC (by decide +kernel) (Xrep_mW hfM (by decide +kernel) h9), ?_⟩
          · have e3 : s1 3 1 = 0 := by rw [c2 3 (by decide) (by decide), xu_same]
            refine ⟨?_, ?_, fun i x y => ?_⟩
            · show 0 ≤ s1 3 1 ∧ s1 3 1 ≤ 16
              omega
            · show xu t 121 1 0 121 1 = s1 3 1
              rw [xu_same, e3]
            · have y' : i < s1 3 1 := y
              omega
          · exact c1
  · refine ⟨-1, σ, xu τ 121 0 0, ?_, ?_, XR_mono (by omega) (XR_thr h)⟩
    · unfold F_X10_forts
      simp only [xjn]
      rw [xw_id ha, xw_id hb]
      by_cases z1 : 0 ≤ a
      · rw [if_pos z1]
        by_cases z2 : a ≤ 20
        · rw [if_pos z2]
          by_cases z3 : 0 ≤ b
          · rw [if_pos z3, if_pos (by omega)]
          · rw [if_neg z3]
        · rw [if_neg z2]
      · rw [if_neg z1]
    · unfold F_X11_forts
      simp only [xbp_s, xbd_s, xls, xli, xlt, xjn]
      rw [xw_id ha, xw_id hb, in_eq (by omega) (by omega) (by omega)]
      simp only [xbp_s, xbd_s, xls, xli, xlt, xjn]
      by_cases z1 : 0 ≤ a ∧ a ≤ 20
      · rw [if_pos z1, if_pos (show xw 1 ≠ 0 by decide), in_eq (by omega) (by omega) (by omega)]
        simp only [xbp_s, xbd_s, xls, xli, xlt, xjn]
        rw [if_neg (show ¬ (0 ≤ b ∧ b ≤ 20) by omega), if_pos (show xw 0 = 0 by decide)]
      · rw [if_neg z1, if_neg (show ¬ xw 0 ≠ 0 by decide)]
