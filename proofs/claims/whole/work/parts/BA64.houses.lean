/-! houses -/
theorem forget_c {s : xW} : F_X10_forgetPast s = some (xu (xu (xu (xu s 21 2 0) 88 0 0) 88 1 0) 88 2 0) := by
  have hN := xN_ge
  obtain ⟨g, hg⟩ : ∃ g, xN = g + 1 + 1 + 1 + 1 := ⟨xN - 4, by omega⟩
  unfold F_X10_forgetPast F_X3_drop
  simp only [xbp_s, xbd_s, xls, xli, xlt, xjn]
  rw [hg, F_X10_forgetPast_9, if_pos (by decide), xgd_t (by decide)]
  simp only [xbp_s, xbd_s, xls, xli, xlt, xjn]
  rw [F_X10_forgetPast_9, if_pos (by decide), xgd_t (by decide)]
  simp only [xbp_s, xbd_s, xls, xli, xlt, xjn]
  rw [F_X10_forgetPast_9, if_pos (by decide), xgd_t (by decide)]
  simp only [xbp_s, xbd_s, xls, xli, xlt, xjn]
  rw [F_X10_forgetPast_9, if_neg (by decide)]
  rfl
theorem Xpast_new {B : Int} {σ1 τ1 : xW} (e1 : 0 ≤ σ1 21 1 ∧ σ1 21 1 < 16) (e2 : σ1 21 2 = 0) (e3 : τ1 121 28 = 0) : Xpast B σ1 τ1 := by
  refine ⟨e1, by omega, by rw [e3, e2], fun j j1 j2 => by omega⟩
theorem Xkept_new {B : Int} {σ τ σ1 τ1 : xW} (h : Xkept B σ τ) (e88 : ∀ i : Int, 0 ≤ i → i < 3 → σ1 88 i = 0) (e5 : τ1 121 5 = τ 121 5 + 1) (e151 : τ1 151 = τ 151) (e152 : τ1 152 = τ 152) : Xkept (B + 1) σ1 τ1 := by
  obtain ⟨h1, h2⟩ := h
  refine ⟨by omega, fun i i1 i2 => ?_⟩
  obtain ⟨k1, k2, k3, k4, k5⟩ := h2 i i1 i2
  rw [e88 i i1 i2, e151, e152, e5]
  refine ⟨Or.inl rfl, k2, fun w => ?_, ?_, fun w => by omega⟩
  · have := k3 w
    omega
  · constructor
    · intro w; omega
    · intro w
      have := k3 w.1
      omega
theorem fault_m {s : xW} {f : Int → Int} {n lim ok c E : Int} (h : Xat s f c E) (hn : 0 ≤ n ∧ n ≤ 80) (hl : 0 ≤ lim ∧ lim ≤ 80) (hE : E = min n lim) (ho : ok = 0 ∨ ok = 1) : F_X11_faultOf n lim ok s = some (if ok = 1 ∧ c = n ∧ n ≤ lim then 0 else -1 - c) := by
  obtain ⟨h1, h2, h3, h4⟩ := h
  unfold F_X11_faultOf
  rw [h1, h2, xw_sm (x := ok) (by omega) (by omega), xw_sm (x := c) (by omega) (by omega), xw_sm (x := E) (by omega) (by omega), xw_sm (x := n) (by omega) (by omega), xw_sm (x := lim) (by omega) (by omega)]
  simp only [xbp_s, xbd_s, xls, xli, xlt, xjn]
  by_cases z : ok = 1 ∧ c = E
  · rw [if_pos (show ok ≠ 0 by omega), if_pos z.2]
    rw [if_pos (show xw 1 ≠ 0 by decide), if_neg (show ¬ xw 1 = 0 by decide)]
    by_cases z2 : lim < n
    · rw [if_pos z2, if_neg (by omega), show c = lim by omega]
    · rw [if_neg z2, if_pos (by omega)]
  · have e : (if ok ≠ 0 then if c = E then (1 : Int) else 0 else 0) = 0 := by
      by_cases w : ok ≠ 0
      · rw [if_pos w, if_neg (by omega)]
      · rw [if_neg w]
    rw [e, if_pos (show xw 0 = 0 by decide), if_neg (show ¬ xw 0 ≠ 0 by decide), if_neg (show ¬ (ok = 1 ∧ c = n ∧ n ≤ lim) by omega)]
    by_cases z2 : lim < n
    · rw [if_pos z2]
      by_cases z3 : lim ≤ c
      · rw [if_pos z3, show c = lim by omega]
      · rw [if_neg z3]
    · rw [if_neg z2]
/-- the text is begun: E signs of it may be read -/
theorem begin_at {t : xW} {f : Int → Int} {n lim : Int} (hn : 0 ≤ n ∧ n ≤ 80) (hl : 0 ≤ lim ∧ lim ≤ 80) (e15 : t 121 15 = n) (ht : ∀ x : Int, 0 ≤ x → x < n → t 129 x = f x ∧ 0 ≤ f x ∧ f x ≤ 255) : F_X11_begins lim t = some (n, xu (xu (xu (xu t 121 15 0) 121 16 0) 121 18 0) 121 17 (min n lim)) ∧ Xat (xu (xu (xu (xu t 121 15 0) 121 16 0) 121 18 0) 121 17 (min n lim)) f 0 (min n lim) := by
  constructor
  · unfold F_X11_begins
    simp only [xbp_s, xbd_s, xls, xli, xlt, xjn]
    rw [e15, xw_sm (x := n) (by omega) (by omega), xw_sm (x := lim) (by omega) (by omega)]
  · refine ⟨by simp [xu], by simp [xu], by omega, fun x x1 x2 => ?_⟩
    have := ht x x1 (by omega)
    simp only [xu, show ¬ ((129 : Int) = 121 ∧ x = 17) by omega, show ¬ ((129 : Int) = 121 ∧ x = 18) by omega, show ¬ ((129 : Int) = 121 ∧ x = 16) by omega, show ¬ ((129 : Int) = 121 ∧ x = 15) by omega, if_false]
    exact this
theorem rlines_h {t : xW} {f : Int → Int} {n nh c : Int} (hn : 0 ≤ n ∧ n ≤ 80) (hnh : 0 ≤ nh ∧ nh ≤ 8) (e15 : t 121 15 = n) (e3 : t 121 3 = nh) (ht : ∀ x : Int, 0 ≤ x → x < n → t 129 x = f x ∧ 0 ≤ f x ∧ f x ≤ 255) (hE : 0 ≤ c ∧ c ≤ min n 23) (hf : ∀ i : Int, 0 ≤ i → i < c → xhfit nh f i) (he : c = min n 23 ∨ ¬ xhfit nh f c) :
    ∃ s', F_X11_readsLines 1 23 t = some (if c = n ∧ (n = 0 ∨ n % 3 = 2) then 0 else -1 - c, s') ∧ s' 121 15 = 0 ∧ (∀ k, k ≠ 15 → k ≠ 16 → k ≠ 17 → k ≠ 18 → k ≠ 20 → s' 121 k = t 121 k) ∧ (c = n ∧ (n = 0 ∨ n % 3 = 2) → s' 121 20 = (n + 1) / 3 ∧ (∀ i : Int, 0 ≤ i → i < (n + 1) / 3 → s' 130 (2 * i) = f (3 * i) - 48 ∧ s' 130 (2 * i + 1) = f (3 * i + 1) - 48)) := by
  have hN := xN_ge
  obtain ⟨b1, b2⟩ := begin_at (lim := 23) hn (by decide) e15 ht
  obtain ⟨s4, hs4⟩ : ∃ s4, s4 = xu (xu (xu (xu (xu t 121 15 0) 121 16 0) 121 18 0) 121 17 (min n 23)) 121 20 0 := ⟨_, rfl⟩
  have h4 : Xat s4 f 0 (min n 23) := Xat_o b2 (by rw [hs4, xu_slot _ _ _ (show (16 : Int) ≠ 20 by decide)]) (by rw [hs4, xu_slot _ _ _ (show (17 : Int) ≠ 20 by decide)]) (by rw [hs4, xu_row _ _ _ (show (129 : Int) ≠ 121 by decide)])
  have e20 : s4 121 20 = 0 := by rw [hs4, xu_same]
  have ek : ∀ k, k ≠ 15 → k ≠ 16 → k ≠ 17 → k ≠ 18 → k ≠ 20 → s4 121 k = t 121 k := fun k k1 k2 k3 k4 k5 => by
    rw [hs4, xu_slot _ _ _ k5, xu_slot _ _ _ k3, xu_slot _ _ _ k4, xu_slot _ _ _ k2, xu_slot _ _ _ k1]
  have e15' : s4 121 15 = 0 := by rw [hs4]; simp [xu]
  by_cases z : n = 0
  · have ec : c = 0 := by omega
    refine ⟨s4, ?_, e15', ek, fun _ => ⟨by rw [e20, z]; decide, fun i i1 i2 => by omega⟩⟩
    unfold F_X11_readsLines
    rw [b1]
    simp only [xbp_s, xbd_s, xls, xli, xlt, xjn]
    rw [← hs4, xw_sm (x := n) (by omega) (by omega), if_neg (by omega)]
    obtain ⟨g, hg, _⟩ := xN_s
    rw [hg, F_X11_readsLines_25, if_neg (show ¬ xw 0 ≠ 0 by decide), fault_m h4 hn (by decide) rfl (Or.inr rfl), if_pos ⟨rfl, by omega, by omega⟩, if_pos ⟨by omega, Or.inl z⟩]
    rfl
  · obtain ⟨ok, s', v1, v2, v3, v4⟩ := hlines (f := f) (E := min n 23) (nh := nh) (c := c) (lim := 23) (n := n) (k := fun (l4_46 : Int) (l5_47 : Int) (s48 : xW) => xbp (F_X11_faultOf n 23 l4_46 s48) fun r50 => some (r50, s48)) hnh (by omega) hf he 8 0 xN s4 (by omega) (by omega) (by omega) h4 (by rw [ek 3 (by decide) (by decide) (by decide) (by decide) (by decide)]; exact e3) e20 (by omega) (fun i i1 i2 => by omega)
    have eF : F_X11_readsLines 1 23 t = some (if ok = 1 ∧ c = n ∧ n ≤ 23 then 0 else -1 - c, s') := by
      unfold F_X11_readsLines
      rw [b1]
      simp only [xbp_s, xbd_s, xls, xli, xlt, xjn]
      rw [← hs4, xw_sm (x := n) (by omega) (by omega), if_pos (by omega)]
      refine Eq.trans v1 ?_
      rw [fault_m v2 hn (by decide) rfl (by omega)]
      rfl
    refine ⟨s', ?_, by rw [v3 15 (by decide) (by decide)]; exact e15', fun k k1 k2 k3 k4 k5 => by rw [v3 k k2 k5]; exact ek k k1 k2 k3 k4 k5, fun w => ?_⟩
    · rw [eF]
      by_cases w : ok = 1 ∧ c = n ∧ n ≤ 23
      · rw [if_pos w, if_pos (by omega)]
      · rw [if_neg w, if_neg (by omega)]
    · rcases v4 with v4 | ⟨_, w2, w3, w4⟩
      · omega
      · rw [w.1] at w3 w4
        exact ⟨w3, w4⟩
theorem hcopy {nh L : Int} {t0 : xW} {k : Int → xW → Option (Int × xW)} (hnh : 0 ≤ nh ∧ 0 ≤ L ∧ nh + L ≤ 8) (e20 : t0 121 20 = L) (e3 : t0 121 3 = nh) :
    ∀ (j i fu : Nat) (s : xW), (i : Int) + j = L → j < fu → (∀ c : Int, c ≠ 121 → c ≠ 127 → s c = t0 c) → (∀ x : Int, x ≠ 3 → s 121 x = t0 121 x) → s 121 3 = nh + i → (∀ x : Int, s 127 x = if nh ≤ x ∧ x < nh + i then t0 130 (2 * (x - nh)) else if nh + 8 ≤ x ∧ x < nh + 8 + i then t0 130 (2 * (x - nh - 8) + 1) else if nh + 16 ≤ x ∧ x < nh + 16 + i then 0 else t0 127 x) → ∃ s', F_X11_houses_21 fu (i : Int) s k = k L s' ∧ (∀ c : Int, c ≠ 121 → c ≠ 127 → s' c = t0 c) ∧ (∀ x : Int, x ≠ 3 → s' 121 x = t0 121 x) ∧ s' 121 3 = nh + L ∧ (∀ x : Int, s' 127 x = if nh ≤ x ∧ x < nh + L then t0 130 (2 * (x - nh)) else if nh + 8 ≤ x ∧ x < nh + 8 + L then t0 130 (2 * (x - nh - 8) + 1) else if nh + 16 ≤ x ∧ x < nh + 16 + L then 0 else t0 127 x) := by
  intro j
  induction j with
  | zero =>
    intro i fu s hi hfu h1 h2 h3 h4
    obtain ⟨fu, rfl⟩ : ∃ g, fu = g + 1 := ⟨fu - 1, by omega⟩
    have ei : (i : Int) = L := by omega
    rw [ei] at h3 h4
    refine ⟨s, ?_, h1, h2, h3, h4⟩
    rw [ei, F_X11_houses_21, h2 20 (by decide), e20, if_neg (Int.lt_irrefl _)]
  | succ j ih =>
    intro i fu s hi hfu h1 h2 h3 h4
    obtain ⟨fu, rfl⟩ : ∃ g, fu = g + 1 := ⟨fu - 1, by omega⟩
    have e130 : s 130 = t0 130 := h1 130 (by decide) (by decide)
    obtain ⟨s', g1, g2⟩ := ih (i + 1) fu (xu (xu (xu (xu s 127 (nh + i) (t0 130 (2 * (i : Int)))) 127 (8 + (nh + i)) (t0 130 (2 * (i : Int) + 1))) 127 (16 + (nh + i)) 0) 121 3 (nh + i + 1)) (by omega) (by omega) (fun c c1 c2 => by rw [xu_row _ _ _ c1, xu_row _ _ _ c2, xu_row _ _ _ c2, xu_row _ _ _ c2]; exact h1 c c1 c2) (fun x x1 => by rw [xu_slot _ _ _ x1, xu_row _ _ _ (show (121 : Int) ≠ 127 by decide), xu_row _ _ _ (show (121 : Int) ≠ 127 by decide), xu_row _ _ _ (show (121 : Int) ≠ 127 by decide)]; exact h2 x x1) (by rw [xu_same]; omega) (fun x => by
      rw [xu_row _ _ _ (show (127 : Int) ≠ 121 by decide)]
      by_cases z1 : x = 16 + (nh + i)
      · rw [z1, xu_same, if_neg (by omega), if_neg (by omega), if_pos (by omega)]
      · rw [xu_slot _ _ _ z1]
        by_cases z2 : x = 8 + (nh + i)
        · rw [z2, xu_same, if_neg (by omega), if_pos (by omega), show 8 + (nh + (i : Int)) - nh - 8 = i by omega]
        · rw [xu_slot _ _ _ z2]
          by_cases z3 : x = nh + i
          · rw [z3, xu_same, if_pos (by omega), show nh + (i : Int) - nh = i by omega]
          · rw [xu_slot _ _ _ z3, h4 x]
            by_cases y1 : nh ≤ x ∧ x < nh + i
            · rw [if_pos y1, if_pos (by omega)]
            · rw [if_neg y1, if_neg (show ¬ (nh ≤ x ∧ x < nh + ((i + 1 : Nat) : Int)) by omega)]
              by_cases y2 : nh + 8 ≤ x ∧ x < nh + 8 + i
              · rw [if_pos y2, if_pos (by omega)]
              · rw [if_neg y2, if_neg (show ¬ (nh + 8 ≤ x ∧ x < nh + 8 + ((i + 1 : Nat) : Int)) by omega)]
                by_cases y3 : nh + 16 ≤ x ∧ x < nh + 16 + i
                · rw [if_pos y3, if_pos (by omega)]
                · rw [if_neg y3, if_neg (show ¬ (nh + 16 ≤ x ∧ x < nh + 16 + ((i + 1 : Nat) : Int)) by omega)])
    refine ⟨s', ?_, g2⟩
    have q1 : ∀ (a b c d e f : Int), (xu (xu (xu s 127 a b) 127 c d) 127 e f) 121 3 = nh + i := fun a b c d e f => by
      rw [xu_row _ _ _ (show (121 : Int) ≠ 127 by decide), xu_row _ _ _ (show (121 : Int) ≠ 127 by decide), xu_row _ _ _ (show (121 : Int) ≠ 127 by decide)]; exact h3
    have q2 : ∀ (a b c d : Int), (xu (xu s 127 a b) 127 c d) 121 3 = nh + i := fun a b c d => by
      rw [xu_row _ _ _ (show (121 : Int) ≠ 127 by decide), xu_row _ _ _ (show (121 : Int) ≠ 127 by decide)]; exact h3
    have q3 : ∀ (a b : Int), (xu s 127 a b) 121 3 = nh + i := fun a b => by
      rw [xu_row _ _ _ (show (121 : Int) ≠ 127 by decide)]; exact h3
    have q4 : ∀ (a b x : Int), (xu s 127 a b) 130 x = t0 130 x := fun a b x => by
      rw [xu_row _ _ _ (show (130 : Int) ≠ 127 by decide), e130]
    rw [F_X11_houses_21, h2 20 (by decide), e20, xw_sm (x := (i : Int)) (by omega) (by omega), xw_sm (x := L) (by omega) (by omega), if_pos (by omega), h3, e130]
    simp only [xbp_s, xbd_s, xls, xli, xlt, xjn]
    rw [q3, q4, q2, q1, xgd_t (by omega), xgd_t (by omega), xgd_t (by omega), xgd_t (by omega), xgd_t (by omega), show ((i : Int) + 1) = ((i + 1 : Nat) : Int) by omega]
    exact g1
