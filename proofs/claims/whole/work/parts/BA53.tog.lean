/-! together -/
theorem xor_as (a b c : Int) : xor' (xor' a b) c = xor' a (xor' b c) := by
  unfold xor'
  simp only [Int32.ofInt_toInt]
  rw [Int32.or_assoc]
theorem tog_all : ∀ (h : Fin 8) (b0 b1 b2 b3 b4 b5 b6 b7 : Bool), ((if (h.val : Int) = 0 then b0 else if (h.val : Int) = 1 then b1 else if (h.val : Int) = 2 then b2 else if (h.val : Int) = 3 then b3 else if (h.val : Int) = 4 then b4 else if (h.val : Int) = 5 then b5 else if (h.val : Int) = 6 then b6 else b7) = true → (xbits (fun k => if k = 0 then b0 else if k = 1 then b1 else if k = 2 then b2 else if k = 3 then b3 else if k = 4 then b4 else if k = 5 then b5 else if k = 6 then b6 else b7) 8 = xshl 1 (h.val : Int) ↔ (∀ i : Fin 8, i.val ≠ h.val → (if (i.val : Int) = 0 then b0 else if (i.val : Int) = 1 then b1 else if (i.val : Int) = 2 then b2 else if (i.val : Int) = 3 then b3 else if (i.val : Int) = 4 then b4 else if (i.val : Int) = 5 then b5 else if (i.val : Int) = 6 then b6 else b7) = false))) ∧ (xshl (xshr (xbits (fun k => if k = 0 then b0 else if k = 1 then b1 else if k = 2 then b2 else if k = 3 then b3 else if k = 4 then b4 else if k = 5 then b5 else if k = 6 then b6 else b7) 8) (h.val : Int)) (h.val : Int) = xbits (fun k => if k = 0 then b0 else if k = 1 then b1 else if k = 2 then b2 else if k = 3 then b3 else if k = 4 then b4 else if k = 5 then b5 else if k = 6 then b6 else b7) 8 ↔ (∀ i : Fin 8, i.val < h.val → (if (i.val : Int) = 0 then b0 else if (i.val : Int) = 1 then b1 else if (i.val : Int) = 2 then b2 else if (i.val : Int) = 3 then b3 else if (i.val : Int) = 4 then b4 else if (i.val : Int) = 5 then b5 else if (i.val : Int) = 6 then b6 else b7) = false)) := by decide +kernel
theorem tog_8 {q : Int → Bool} {h : Int} (hh : 0 ≤ h ∧ h < 8) : (q h = true → (xbits q 8 = xshl 1 h ↔ ∀ e : Int, 0 ≤ e → e < 8 → e ≠ h → q e = false)) ∧ (xshl (xshr (xbits q 8) h) h = xbits q 8 ↔ ∀ e : Int, 0 ≤ e → e < h → q e = false) := by
  obtain ⟨m, rfl⟩ : ∃ m : Nat, h = m := ⟨h.toNat, by omega⟩
  have g := tog_all ⟨m, by omega⟩ (q 0) (q 1) (q 2) (q 3) (q 4) (q 5) (q 6) (q 7)
  rw [xbits_congr 8 (fun i a b => xq8 q i a (by omega))]
  obtain ⟨g1, g2⟩ := g
  refine ⟨fun hq => ⟨fun w e e1 e2 e3 => ?_, fun w => (g1 (by rw [xq8 q (m : Int) (by omega) (by omega)] at hq; exact hq)).2 (fun i hi => ?_)⟩, ⟨fun w e e1 e2 => ?_, fun w => g2.2 (fun i hi => ?_)⟩⟩
  · have := (g1 (by rw [xq8 q (m : Int) (by omega) (by omega)] at hq; exact hq)).1 w ⟨e.toNat, by omega⟩ (by show e.toNat ≠ m; omega)
    rw [show ((⟨e.toNat, by omega⟩ : Fin 8).val : Int) = e from (by show (e.toNat : Int) = e; omega)] at this
    rw [xq8 q e e1 (by omega)]
    exact this
  · have hi' : i.val ≠ m := hi
    have := w i.val (by omega) (by have := i.isLt; omega) (by omega)
    rw [xq8 q i.val (by omega) (by have := i.isLt; omega)] at this
    exact this
  · have := g2.1 w ⟨e.toNat, by omega⟩ (by show e.toNat < m; omega)
    rw [show ((⟨e.toNat, by omega⟩ : Fin 8).val : Int) = e from (by show (e.toNat : Int) = e; omega)] at this
    rw [xq8 q e e1 (by omega)]
    exact this
  · have hi' : i.val < m := hi
    have := w i.val (by omega) (by omega)
    rw [xq8 q i.val (by omega) (by have := i.isLt; omega)] at this
    exact this
/-- another house hears it with h -/
def xtga (b : Int → Int) (n : Nat) (h : Int) : Bool := xany (fun e => decide (e ≠ h ∧ b e = b h)) n
/-- h is the first of those who hear it then -/
def xtgf (b : Int → Int) (n : Nat) (h : Int) : Bool := xalls (fun e => decide (¬ (e ≠ h ∧ b e = b h) ∨ h < e)) n
theorem tog_mask {b : Int → Int} {n : Nat} {h : Int} (hn : n ≤ 8) (hh : 0 ≤ h ∧ h < n) : ((if xbits (fun e => decide (b e = b h)) n ≠ xshl 1 h then xshl 1 h else 0) = if xtga b n h then xshl 1 h else 0) ∧ ((if xshl (xshr (xbits (fun e => decide (b e = b h)) n) h) h = xbits (fun e => decide (b e = b h)) n then (1 : Int) else 0) = b01 (xtgf b n h)) := by
  obtain ⟨g1, g2⟩ := tog_8 (q := fun k => decide (b k = b h) && decide (k < (n : Int))) (h := h) (by omega)
  rw [xbits_8 _ 8 n hn] at g1 g2
  have hq : (decide (b h = b h) && decide (h < (n : Int))) = true := by
    rw [decide_eq_true rfl, decide_eq_true hh.2]
    rfl
  have g1 := g1 hq
  constructor
  · cases z : xtga b n h with
    | true =>
      obtain ⟨e, e1, e2⟩ := (xany_iff _).1 z
      have e3 := of_decide_eq_true e2
      rw [if_pos (fun w => by
        have := g1.1 w e e1.1 (by omega) e3.1
        rw [decide_eq_true e3.2, decide_eq_true e1.2] at this
        exact nomatch this), if_pos rfl]
    | false =>
      rw [if_neg (fun w => w (g1.2 (fun e e1 e2 e3 => by
        by_cases y : e < (n : Int)
        · by_cases y2 : b e = b h
          · have : xtga b n h = true := (xany_iff _).2 ⟨e, ⟨e1, y⟩, decide_eq_true ⟨e3, y2⟩⟩
            rw [z] at this
            exact nomatch this
          · rw [decide_eq_false y2, Bool.false_and]
        · rw [decide_eq_false y, Bool.and_false]))), if_neg (by decide)]
  · cases z : xtgf b n h with
    | true =>
      have z1 := (xalls_iff _).1 z
      rw [if_pos (g2.2 (fun e e1 e2 => by
        have y := of_decide_eq_true (z1 e e1 (by omega))
        rw [decide_eq_false (show ¬ b e = b h from fun w => by
          rcases y with y | y
          · exact y ⟨by omega, w⟩
          · omega), Bool.false_and]))]
      rfl
    | false =>
      rw [if_neg (fun w => by
        have w1 := g2.1 w
        have : xtgf b n h = true := (xalls_iff _).2 (fun e e1 e2 => by
          apply decide_eq_true
          by_cases y : h < e
          · exact Or.inr y
          · refine Or.inl (fun u => ?_)
            have := w1 e e1 (by omega)
            rw [decide_eq_true u.2, decide_eq_true e2] at this
            exact nomatch this)
        rw [z] at this
        exact nomatch this)]
      rfl
theorem hat_loop {a n : Int} {b : Int → Int} {s : xW} {k : Int → Int → Option Int} (ha : 0 ≤ a ∧ a ≤ 108) (hn : 0 ≤ n ∧ n ≤ 8) (e0 : s 0 14 = n) (hb : ∀ h : Int, 0 ≤ h → h < n → (0 ≤ b h ∧ b h ≤ 108) ∧ s 91 h = b h) :
    ∀ (j i fu : Nat), (i : Int) + j = n → j < fu → F_X10_housesAt_4 a s fu (xbits (fun e => decide (b e = a)) i) (i : Int) k = k (xbits (fun e => decide (b e = a)) n.toNat) n := by
  intro j
  induction j with
  | zero =>
    intro i fu hi hfu
    obtain ⟨fu, rfl⟩ : ∃ g, fu = g + 1 := ⟨fu - 1, by omega⟩
    have ei : (i : Int) = n := by omega
    have ei2 : n.toNat = i := by omega
    rw [ei, F_X10_housesAt_4, e0, if_neg (Int.lt_irrefl _), ei2]
  | succ j ih =>
    intro i fu hi hfu
    obtain ⟨fu, rfl⟩ : ∃ g, fu = g + 1 := ⟨fu - 1, by omega⟩
    have g := ih (i + 1) fu (by omega) (by omega)
    have hbi := hb i (by omega) (by omega)
    rw [show ((i + 1 : Nat) : Int) = (i : Int) + 1 by omega, xbits_s] at g
    rw [F_X10_housesAt_4, e0, xw_sm (x := (i : Int)) (by omega) (by omega), xw_sm (x := n) (by omega) (by omega), if_pos (by omega), xgd_t (by omega), hbi.2, xw_sm (x := b i) (by omega) (by omega), xw_sm (x := a) (by omega) (by omega), xli, xlt, ← g]
    congr 2
    by_cases z : b (i : Int) = a
    · rw [if_pos z, if_pos (decide_eq_true z)]
    · rw [if_neg z, if_neg (by rw [decide_eq_false z]; decide)]
theorem tog_loopC {n : Int} {b : Int → Int} {s : xW} {k : Int → Int → Int → Option (Int × xW)} (hn : 0 ≤ n ∧ n ≤ 8) (e0 : s 0 14 = n) (hb : ∀ h : Int, 0 ≤ h → h < n → (0 ≤ b h ∧ b h ≤ 108) ∧ s 91 h = b h) :
    ∀ (j i fu : Nat), (i : Int) + j = n → j < fu → F_X10_together_10 s fu (xbits (xtga b n.toNat) i) (xsum (fun h => b01 (xtgf b n.toNat h)) i) (i : Int) k = k (xbits (xtga b n.toNat) n.toNat) (xsum (fun h => b01 (xtgf b n.toNat h)) n.toNat) n := by
  have hN := xN_ge
  intro j
  induction j with
  | zero =>
    intro i fu hi hfu
    obtain ⟨fu, rfl⟩ : ∃ g, fu = g + 1 := ⟨fu - 1, by omega⟩
    have ei : (i : Int) = n := by omega
    have ei2 : n.toNat = i := by omega
    rw [ei, F_X10_together_10, e0, if_neg (Int.lt_irrefl _), ei2]
  | succ j ih =>
    intro i fu hi hfu
    obtain ⟨fu, rfl⟩ : ∃ g, fu = g + 1 := ⟨fu - 1, by omega⟩
    have g := ih (i + 1) fu (by omega) (by omega)
    have hbi := hb i (by omega) (by omega)
    have hm := tog_mask (b := b) (n := n.toNat) (h := (i : Int)) (by omega) (by omega)
    have hh : F_X10_housesAt (b i) s = some (xbits (fun e => decide (b e = b i)) n.toNat) := by
      unfold F_X10_housesAt
      exact hat_loop (k := fun (l2_13 : Int) (l3_14 : Int) => some l2_13) hbi.1 hn e0 hb n.toNat 0 xN (by omega) (by omega)
    rw [show ((i + 1 : Nat) : Int) = (i : Int) + 1 by omega, xbits_s, xsum_s] at g
    rw [F_X10_together_10, e0, xw_sm (x := (i : Int)) (by omega) (by omega), xw_sm (x := n) (by omega) (by omega), if_pos (by omega), xgd_t (by omega), hbi.2, hh]
    simp only [xbp_s, xbd_s, xls, xli, xlt, xjn]
    rw [xw_id (xbits_I _ _), xw_id (I32_shl _ _), xw_id (I32_shl _ _), hm.1, hm.2]
    exact g
theorem tog_25 {a2 h n : Int} {b : Int → Int} {s0 : xW} {k : Int → Int → Int → xW → Option (Int × xW)} (hn : 0 ≤ n ∧ n ≤ 8) (e0 : s0 121 3 = n) (hh : 0 ≤ h ∧ h < n) (hb : ∀ h : Int, 0 ≤ h → h < n → 0 ≤ b h ∧ b h ≤ 108) (hH : ∀ s : xW, (∀ c, c ≠ 133 → c ≠ 134 → s c = s0 c) → ∀ e : Int, 0 ≤ e → e < n → ∃ s', F_X11_hears 127 e s = some (b e, s') ∧ (∀ c, c ≠ 133 → c ≠ 134 → s' c = s0 c)) (L : Int) (hL : I32 L) :
    ∀ (j i fu : Nat) (s : xW), (i : Int) + j = n → j < fu → (∀ c, c ≠ 133 → c ≠ 134 → s c = s0 c) → ∃ s', F_X11_together_25 a2 h fu (xor' L (if xtga b i h then xshl 1 h else 0)) (b01 (xtgf b i h)) (i : Int) s k = k (xor' L (if xtga b n.toNat h then xshl 1 h else 0)) (b01 (xtgf b n.toNat h)) n s' ∧ (∀ c, c ≠ 133 → c ≠ 134 → s' c = s0 c) := by
  intro j
  induction j with
  | zero =>
    intro i fu s hi hfu hs
    obtain ⟨fu, rfl⟩ : ∃ g, fu = g + 1 := ⟨fu - 1, by omega⟩
    have ei : (i : Int) = n := by omega
    have ei2 : n.toNat = i := by omega
    refine ⟨s, ?_, hs⟩
    rw [ei, F_X11_together_25, hs 121 (by decide) (by decide), e0, if_neg (Int.lt_irrefl _), ei2]
  | succ j ih =>
    intro i fu s hi hfu hs
    obtain ⟨fu, rfl⟩ : ∃ g, fu = g + 1 := ⟨fu - 1, by omega⟩
    have hbi := hb i (by omega) (by omega)
    have hbh := hb h hh.1 hh.2
    have ea : xtga b (i + 1) h = (xtga b i h || decide ((i : Int) ≠ h ∧ b i = b h)) := rfl
    have ef : xtgf b (i + 1) h = (xtgf b i h && decide (¬ ((i : Int) ≠ h ∧ b i = b h) ∨ h < i)) := rfl
    -- which way it goes
    have key : ∃ s1, (∀ c, c ≠ 133 → c ≠ 134 → s1 c = s0 c) ∧ F_X11_together_25 a2 h (fu + 1) (xor' L (if xtga b i h then xshl 1 h else 0)) (b01 (xtgf b i h)) (i : Int) s k = F_X11_together_25 a2 h fu (xor' (xor' L (if xtga b i h then xshl 1 h else 0)) (if (i : Int) ≠ h ∧ b i = b h then xshl 1 h else 0)) (if (b01 (xtgf b i h)) ≠ 0 then if (i : Int) ≠ h ∧ b i = b h then if h < i then 1 else 0 else 1 else 0) ((i : Int) + 1) s1 k := by
      by_cases z : (i : Int) ≠ h
      · obtain ⟨s1, u1, u2⟩ := hH s hs i (by omega) (by omega)
        obtain ⟨s2, u3, u4⟩ := hH s1 u2 h hh.1 hh.2
        refine ⟨s2, u4, ?_⟩
        rw [F_X11_together_25, hs 121 (by decide) (by decide), e0, xw_sm (x := (i : Int)) (by omega) (by omega), xw_sm (x := n) (by omega) (by omega), if_pos (by omega), xw_sm (x := h) (by omega) (by omega)]
        simp only [xjn]
        rw [if_pos z, u1]
        simp only [xbd_n, xbp_n]
        rw [u3]
        simp only [xbd_n, xbp_n]
        rw [xw_sm (x := b i) (by omega) (by omega), xw_sm (x := b h) (by omega) (by omega), xw_b01]
        by_cases z2 : b i = b h
        · rw [if_pos z2]
          simp only [xli, xlt]
          rw [if_pos (show xw 1 ≠ 0 by decide), if_pos (show xw 1 ≠ 0 by decide), if_pos (show (i : Int) ≠ h ∧ b i = b h from ⟨z, z2⟩), if_pos (show (i : Int) ≠ h ∧ b i = b h from ⟨z, z2⟩)]
        · rw [if_neg z2]
          simp only [xli, xlt]
          rw [if_neg (show ¬ xw 0 ≠ 0 by decide), if_neg (show ¬ xw 0 ≠ 0 by decide), if_neg (show ¬ ((i : Int) ≠ h ∧ b i = b h) from fun w => z2 w.2), if_neg (show ¬ ((i : Int) ≠ h ∧ b i = b h) from fun w => z2 w.2)]
      · refine ⟨s, hs, ?_⟩
        rw [F_X11_together_25, hs 121 (by decide) (by decide), e0, xw_sm (x := (i : Int)) (by omega) (by omega), xw_sm (x := n) (by omega) (by omega), if_pos (by omega), xw_sm (x := h) (by omega) (by omega)]
        simp only [xjn]
        rw [if_neg z, xw_b01]
        simp only [xli, xlt]
        rw [if_neg (show ¬ xw 0 ≠ 0 by decide), if_neg (show ¬ xw 0 ≠ 0 by decide), if_neg (show ¬ ((i : Int) ≠ h ∧ b i = b h) from fun w => z w.1), if_neg (show ¬ ((i : Int) ≠ h ∧ b i = b h) from fun w => z w.1)]
    obtain ⟨s1, k1, k2⟩ := key
    obtain ⟨s', g1, g2⟩ := ih (i + 1) fu s1 (by omega) (by omega) k1
    refine ⟨s', ?_, g2⟩
    rw [k2, ← g1, show ((i + 1 : Nat) : Int) = (i : Int) + 1 by omega]
    have E1 : xor' (xor' L (if xtga b i h then xshl 1 h else 0)) (if (i : Int) ≠ h ∧ b i = b h then xshl 1 h else 0) = xor' L (if xtga b (i + 1) h then xshl 1 h else 0) := by
      rw [ea, xor_as]
      congr 1
      by_cases z : (i : Int) ≠ h ∧ b i = b h
      · rw [decide_eq_true z, Bool.or_true, if_pos z, if_pos rfl]
        cases xtga b i h with
        | true => exact xor_s (I32_shl _ _)
        | false => exact xor_0l (I32_shl _ _)
      · rw [decide_eq_false z, Bool.or_false, if_neg z]
        cases xtga b i h with
        | true => exact xor_0 (I32_shl _ _)
        | false => exact (by decide : xor' 0 0 = 0)
    have E2 : (if (b01 (xtgf b i h)) ≠ 0 then if (i : Int) ≠ h ∧ b i = b h then if h < i then (1 : Int) else 0 else 1 else 0) = b01 (xtgf b (i + 1) h) := by
      rw [ef]
      cases xtgf b i h with
      | false => rfl
      | true =>
        rw [if_pos (show b01 true ≠ 0 by decide), Bool.true_and]
        by_cases z : (i : Int) ≠ h ∧ b i = b h
        · rw [if_pos z]
          by_cases z2 : h < (i : Int)
          · rw [if_pos z2, decide_eq_true (Or.inr z2)]; rfl
          · rw [if_neg z2, decide_eq_false (fun w => by rcases w with w | w; exact w z; exact z2 w)]; rfl
        · rw [if_neg z, decide_eq_true (Or.inl z)]; rfl
    rw [E1, E2]
theorem tog_11 {n : Int} {b : Int → Int} {s0 : xW} {k : Int → Int → Int → xW → Option (Int × xW)} (hn : 0 ≤ n ∧ n ≤ 8) (e0 : s0 121 3 = n) (hb : ∀ h : Int, 0 ≤ h → h < n → 0 ≤ b h ∧ b h ≤ 108) (hH : ∀ s : xW, (∀ c, c ≠ 133 → c ≠ 134 → s c = s0 c) → ∀ e : Int, 0 ≤ e → e < n → ∃ s', F_X11_hears 127 e s = some (b e, s') ∧ (∀ c, c ≠ 133 → c ≠ 134 → s' c = s0 c)) :
    ∀ (j i fu : Nat) (s : xW), (i : Int) + j = n → j < fu → (∀ c, c ≠ 133 → c ≠ 134 → s c = s0 c) → ∃ s', F_X11_together_11 fu (xbits (xtga b n.toNat) i) (xsum (fun h => b01 (xtgf b n.toNat h)) i) (i : Int) s k = k (xbits (xtga b n.toNat) n.toNat) (xsum (fun h => b01 (xtgf b n.toNat h)) n.toNat) n s' ∧ (∀ c, c ≠ 133 → c ≠ 134 → s' c = s0 c) := by
  have hN := xN_ge
  intro j
  induction j with
  | zero =>
    intro i fu s hi hfu hs
    obtain ⟨fu, rfl⟩ : ∃ g, fu = g + 1 := ⟨fu - 1, by omega⟩
    have ei : (i : Int) = n := by omega
    have ei2 : n.toNat = i := by omega
    refine ⟨s, ?_, hs⟩
    rw [ei, F_X11_together_11, hs 121 (by decide) (by decide), e0, if_neg (Int.lt_irrefl _), ei2]
  | succ j ih =>
    intro i fu s hi hfu hs
    obtain ⟨fu, rfl⟩ : ∃ g, fu = g + 1 := ⟨fu - 1, by omega⟩
    obtain ⟨s1, u1, u2⟩ := tog_25 (a2 := xsum (fun h => b01 (xtgf b n.toNat h)) i) (h := (i : Int)) (k := fun (l1_46 : Int) (l4_47 : Int) (l5_48 : Int) (s49 : xW) => xbp (F_X11_flag l4_47 s49) fun r51 => F_X11_together_11 fu l1_46 (xsum (fun h => b01 (xtgf b n.toNat h)) i + r51) ((i : Int) + 1) s49 k) hn e0 (by omega) hb hH (xbits (xtga b n.toNat) i) (xbits_I _ _) n.toNat 0 xN s (by omega) (by omega) hs
    obtain ⟨s', g1, g2⟩ := ih (i + 1) fu s1 (by omega) (by omega) u2
    refine ⟨s', ?_, g2⟩
    have ef : ∀ s : xW, F_X11_flag (b01 (xtgf b n.toNat (i : Int))) s = some (b01 (xtgf b n.toNat (i : Int))) := fun s => by
      unfold F_X11_flag
      rw [xw_b01]
      cases xtgf b n.toNat (i : Int) <;> rfl
    rw [show xtga b 0 (i : Int) = false from rfl, if_neg (by decide), xor_0 (xbits_I _ _), show xtgf b 0 (i : Int) = true from rfl] at u1
    rw [F_X11_together_11, hs 121 (by decide) (by decide), e0, xw_sm (x := (i : Int)) (by omega) (by omega), xw_sm (x := n) (by omega) (by omega), if_pos (by omega)]
    refine Eq.trans u1 ?_
    rw [ef]
    simp only [xbp_s, xbd_s, xls, xli, xlt, xjn]
    rw [show ((i + 1 : Nat) : Int) = (i : Int) + 1 by omega, xbits_s, xsum_s] at g1
    exact g1
theorem op_together : XO F_X10_together F_X11_together := by
  intro B σ τ hB hB1 h
  have hcw := XR_cw h
  have hmw := XR_mw h
  have hmr := XR_mr hB1 h
  obtain ⟨h1, h2, h3, h4, h5, h6, h7, h8, h9, h10⟩ := id h
  have hday := h6.1.1.2.2.2.2.2
  have hgun := h6.1.1.1
  have hn := h5.1
  have hr := hcw.1
  have hN := xN_ge
  obtain ⟨s, a1, a2⟩ := today_c hcw hgun (by omega)
  obtain ⟨b1, b2, b3, b4, b5⟩ := id a2
  obtain ⟨b, hbd⟩ : ∃ b : Int → Int, ∀ x, b x = xhm (τ 121 23) (τ 131) (xday (σ 5 1) (σ 6) (σ 17 5)) (xday (σ 7 1) (σ 8) (σ 17 5)) (σ 17 5) (σ 17 0) (σ 18 x) := ⟨_, fun _ => rfl⟩
  have hbr : ∀ x : Int, 0 ≤ b x ∧ b x ≤ 108 := fun x => by rw [hbd]; exact xhm_r (xday_r h3.2 _)
  have e0 : s 0 14 = σ 0 14 := by rw [b1 0 (by decide) (by decide) (by omega) (by decide) (by decide)]
  have c1 := tog_loopC (n := σ 0 14) (b := b) (s := s) (k := fun (l1_22 : Int) (l2_23 : Int) (l3_24 : Int) => xbp (F_X6_tell (xw l2_23) s) fun s26 => some (l1_22, s26)) hn e0 (fun x x1 x2 => ⟨hbr x, by rw [b3 x x1 x2, hbd]⟩) (σ 0 14).toNat 0 xN (by omega) (by omega)
  have hmw1 : Xmw (τ 121 23) (τ 131) σ (xu τ 121 0 0) := Xmw_c hmw (fun c hc => xu_row _ _ _ (by omega)) (fun k hk => xu_slot _ _ _ (by omega))
  have e3 : (xu τ 121 0 0) 121 3 = σ 0 14 := by rw [xu_slot _ _ _ (show (3 : Int) ≠ 0 by decide)]; exact h5.2.1
  have e127 : (xu τ 121 0 0) 127 = τ 127 := xu_row _ _ _ (by decide)
  obtain ⟨t, d1, d2⟩ := tog_11 (n := σ 0 14) (b := b) (s0 := xu τ 121 0 0) (k := fun (l1_56 : Int) (l2_57 : Int) (l3_58 : Int) (s59 : xW) => xls (xu s59 121 1 0) fun s60 => xbp (F_X11_enters (xw l2_57) s60) fun s63 => some (l1_56, s63)) hn e3 (fun x _ _ => hbr x) (fun t ht e x1 x2 => by
    have hmw2 : Xmw (τ 121 23) (τ 131) σ t := Xmw_c hmw1 (fun c hc => ht c (by omega) (by omega)) (fun k hk => by rw [ht 121 (by decide) (by decide)])
    have et : t 127 = τ 127 := by rw [ht 127 (by decide) (by decide), e127]
    obtain ⟨s', u1, u2⟩ := hears_m (r := 127) (h := e) hmw2.1 (Or.inl rfl) (by rw [et]; exact hmr.1) hn.2 ⟨x1, x2⟩
    refine ⟨s', ?_, fun c c1 c2 => by rw [u2 c c1 c2, ht c c1 c2]⟩
    rw [u1, et, hmr.2.1, hmr.2.2.1, hmr.2.2.2.1 e x1 x2, hbd]) (σ 0 14).toNat 0 xN (xu τ 121 0 0) (by omega) (by omega) (fun _ _ _ => rfl)
  have hsr := xsum_r (f := fun h => b01 (xtgf b (σ 0 14).toNat h)) (M := 1) (σ 0 14).toNat (fun i _ _ => b01_r _)
  have eC : F_X10_together σ = some (xbits (xtga b (σ 0 14).toNat) (σ 0 14).toNat, xt1 s (xsum (fun h => b01 (xtgf b (σ 0 14).toNat h)) (σ 0 14).toNat)) := by
    unfold F_X10_together
    rw [a1]
    simp only [xbp_n, xbd_n]
    refine Eq.trans c1 ?_
    rw [xw_sm (x := xsum (fun h => b01 (xtgf b (σ 0 14).toNat h)) (σ 0 14).toNat) (by omega) (by omega), tell_1]
    rfl
  have eM : F_X11_together τ = some (xbits (xtga b (σ 0 14).toNat) (σ 0 14).toNat, xe1 t (xsum (fun h => b01 (xtgf b (σ 0 14).toNat h)) (σ 0 14).toNat)) := by
    unfold F_X11_together
    simp only [xls, xlt]
    refine Eq.trans d1 ?_
    rw [xw_sm (x := xsum (fun h => b01 (xtgf b (σ 0 14).toNat h)) (σ 0 14).toNat) (by omega) (by omega)]
    simp only [xls, xlt]
    rw [ent_1]
    rfl
  exact ⟨_, _, _, eC, eM, XR_W (fr_X10_together eC) (by decide +kernel) (fr_X11_together eM) (by decide +kernel) h (Xrow_1 (a := xsum (fun h => b01 (xtgf b (σ 0 14).toNat h)) (σ 0 14).toNat) rfl (by simp [xt1, xu]) rfl (by simp [xe1, xu]))⟩
