/-! reading: the signs -/
theorem at_c {i : Int} {s : xW} (h : 0 ≤ s 1 1 ∧ s 1 1 ≤ 80) (hb : ∀ i : Int, 0 ≤ s 2 i ∧ s 2 i ≤ 255) (hi : -1000 ≤ i ∧ i ≤ 1000) : F_X8_at i s = some (if 0 ≤ i ∧ i < s 1 1 then s 2 i else 0) := by
  have hbi := hb i
  unfold F_X8_at
  simp only [xbp_s, xbd_s, xls, xli, xlt, xjn]
  rw [xw_sm (x := i) (by omega) (by omega), xw_sm (x := s 1 1) (by omega) (by omega)]
  by_cases z1 : 0 ≤ i
  · by_cases z2 : i < s 1 1
    · rw [if_pos z1, if_pos z2, if_pos ⟨z1, z2⟩, xgd_t (show 0 ≤ i ∧ i < 80 by omega), xgd_t (show 0 ≤ s 2 i ∧ s 2 i < 65536 by omega)]
    · rw [if_pos z1, if_neg z2, if_neg (fun w => z2 w.2), xgd_t (show (0 : Int) ≤ 0 ∧ (0 : Int) < 65536 by decide)]
  · rw [if_neg z1, if_neg (fun w => z1 w.1), xgd_t (show (0 : Int) ≤ 0 ∧ (0 : Int) < 65536 by decide)]
theorem digit_m {s : xW} (h : 0 ≤ s 121 16 ∧ s 121 16 ≤ 80) (h2 : 0 ≤ s 121 17 ∧ s 121 17 ≤ 80) (hb : s 121 16 < s 121 17 → 0 ≤ s 129 (s 121 16) ∧ s 129 (s 121 16) ≤ 255) : F_X11_isDigit s = some (if s 121 16 < s 121 17 ∧ 48 ≤ s 129 (s 121 16) ∧ s 129 (s 121 16) ≤ 57 then 1 else 0) := by
  unfold F_X11_isDigit
  simp only [xbp_s, xbd_s, xls, xli, xlt, xjn]
  rw [xw_sm (x := s 121 16) (by omega) (by omega), xw_sm (x := s 121 17) (by omega) (by omega)]
  by_cases z1 : s 121 16 < s 121 17
  · have hbi := hb z1
    rw [if_pos z1, xgd_t (show 0 ≤ s 121 16 ∧ s 121 16 < 80 by omega), xw_sm (x := s 129 (s 121 16)) (by omega) (by omega), in_eq (by omega) (by omega) (by omega)]
    simp only [xbp_s, xbd_s, xls, xli, xlt, xjn]
    by_cases z2 : 48 ≤ s 129 (s 121 16) ∧ s 129 (s 121 16) ≤ 57
    · rw [if_pos z2, if_pos (show xw 1 ≠ 0 by decide), if_pos ⟨z1, z2⟩, xgd_t (by decide)]
    · rw [if_neg z2, if_neg (show ¬ xw 0 ≠ 0 by decide), if_neg (fun w => z2 w.2), xgd_t (by decide)]
  · rw [if_neg z1, if_neg (fun w => z1 w.1), xgd_t (by decide)]
theorem number1_m {s : xW} (h : 0 ≤ s 121 16 ∧ s 121 16 ≤ 80) (h2 : 0 ≤ s 121 17 ∧ s 121 17 ≤ 80) (hb : s 121 16 < s 121 17 → 0 ≤ s 129 (s 121 16) ∧ s 129 (s 121 16) ≤ 255) (hd : s 121 16 < s 121 17 ∧ 48 ≤ s 129 (s 121 16) ∧ s 129 (s 121 16) ≤ 57) : F_X11_number 1 s = some (s 129 (s 121 16) - 48, xu s 121 16 (s 121 16 + 1)) := by
  obtain ⟨f, hf, hf2⟩ := xN_s
  obtain ⟨g, hg⟩ : ∃ g, f = g + 1 := ⟨f - 1, by omega⟩
  rw [hg] at hf
  have e := digit_m h h2 hb
  rw [if_pos hd] at e
  unfold F_X11_number
  rw [e]
  simp only [xbp_s, xbd_s, xls, xli, xlt, xjn]
  rw [if_neg (show ¬ xw 1 = 0 by decide), hf, F_X11_number_13]
  simp only [xbp_s, xbd_s, xls, xli, xlt, xjn]
  rw [if_pos (show xw 0 < xw 1 by decide), e]
  simp only [xbp_s, xbd_s, xls, xli, xlt, xjn]
  rw [if_pos (show xw 1 ≠ 0 by decide), xgd_t (by omega), F_X11_number_13, if_neg (show ¬ xw (0 + 1) < xw 1 by decide), Int.mul_zero, Int.zero_add]
theorem digits_loopM {n c : Int} {f : Int → Int} {k : Int → xW → Option (Int × xW)} (hn : 0 ≤ n ∧ n ≤ 80) (hc : 0 ≤ c ∧ c ≤ n ∧ c ≤ 20) (hf : ∀ x : Int, 0 ≤ x → x < n → 0 ≤ f x ∧ f x ≤ 255) (hd : ∀ x : Int, 0 ≤ x → x < c → 48 ≤ f x ∧ f x ≤ 57) (he : c = n ∨ c = 20 ∨ ¬ (48 ≤ f c ∧ f c ≤ 57)) :
    ∀ (j i fu : Nat) (s : xW), (i : Int) + j = c → j < fu → s 121 16 = i → s 121 17 = n → (∀ x : Int, 0 ≤ x → x < n → s 129 x = f x) → (∀ x : Int, 0 ≤ x → x < i → s 130 x = f x - 48) → ∃ s', F_X11_readsDigits_9 fu (i : Int) s k = k c s' ∧ s' 121 15 = s 121 15 ∧ s' 121 16 = c ∧ s' 121 17 = n ∧ (∀ x : Int, 0 ≤ x → x < c → s' 130 x = f x - 48) := by
  intro j
  induction j with
  | zero =>
    intro i fu s hi hfu e16 e17 e129 e130
    obtain ⟨fu, rfl⟩ : ∃ g, fu = g + 1 := ⟨fu - 1, by omega⟩
    have ei : (i : Int) = c := by omega
    have hm := digit_m (s := s) (by omega) (by omega) (fun w => by rw [e16, e129 i (by omega) (by omega)]; exact hf i (by omega) (by omega))
    refine ⟨s, ?_, rfl, by omega, e17, fun x x1 x2 => e130 x x1 (by omega)⟩
    unfold F_X11_readsDigits_9
    rw [xw_sm (x := (i : Int)) (by omega) (by omega)]
    by_cases z : (i : Int) < 20
    · rw [if_neg (fun w => by
        rw [e16, e17] at w
        rw [e129 i (by omega) (by omega), ei] at w
        rcases he with u | u | u
        · omega
        · omega
        · exact u w.2)] at hm
      rw [if_pos z, hm]
      simp only [xbp_s, xbd_s, xls, xli, xlt, xjn]
      rw [if_neg (show ¬ xw 0 ≠ 0 by decide), ei]
    · rw [if_neg z, ei]
  | succ j ih =>
    intro i fu s hi hfu e16 e17 e129 e130
    obtain ⟨fu, rfl⟩ : ∃ g, fu = g + 1 := ⟨fu - 1, by omega⟩
    have hdi := hd i (by omega) (by omega)
    have hb : s 121 16 < s 121 17 → 0 ≤ s 129 (s 121 16) ∧ s 129 (s 121 16) ≤ 255 := fun w => by
      rw [e16, e129 i (by omega) (by omega)]
      exact hf i (by omega) (by omega)
    have hq : s 121 16 < s 121 17 ∧ 48 ≤ s 129 (s 121 16) ∧ s 129 (s 121 16) ≤ 57 := by
      rw [e16, e17, e129 i (by omega) (by omega)]
      omega
    have hm := digit_m (s := s) (by omega) (by omega) hb
    have hk := number1_m (s := s) (by omega) (by omega) hb hq
    rw [if_pos hq] at hm
    rw [e16, e129 i (by omega) (by omega)] at hk
    unfold F_X11_readsDigits_9
    rw [xw_sm (x := (i : Int)) (by omega) (by omega), if_pos (by omega), hm]
    simp only [xbp_s, xbd_s, xls, xli, xlt, xjn]
    rw [if_pos (show xw 1 ≠ 0 by decide), hk]
    simp only [xbp_s, xbd_s, xls, xli, xlt, xjn]
    rw [xgd_t (by omega), show ((i : Int) + 1) = ((i + 1 : Nat) : Int) by omega]
    have hi1 : xu (xu s 121 16 ((i + 1 : Nat) : Int)) 130 (i : Int) (f (i : Int) - 48) 121 = xu s 121 16 ((i + 1 : Nat) : Int) 121 := xu_row _ _ _ (show (121 : Int) ≠ 130 by decide)
    obtain ⟨s', u1, u2, u3⟩ := ih (i + 1) fu (xu (xu s 121 16 ((i + 1 : Nat) : Int)) 130 (i : Int) (f (i : Int) - 48)) (by omega) (by omega) (by rw [hi1, xu_same]) (by rw [hi1, xu_slot _ _ _ (show (17 : Int) ≠ 16 by decide)]; exact e17) (fun x x1 x2 => by
      rw [xu_row _ _ _ (show (129 : Int) ≠ 130 by decide), xu_row _ _ _ (show (129 : Int) ≠ 121 by decide)]
      exact e129 x x1 x2) (fun x x1 x2 => by
      by_cases z : x = i
      · rw [z, xu_same]
      · rw [xu_slot _ _ _ z, xu_row _ _ _ (show (130 : Int) ≠ 121 by decide)]
        exact e130 x x1 (by omega))
    exact ⟨s', u1, by rw [u2, hi1, xu_slot _ _ _ (show (15 : Int) ≠ 16 by decide)], u3⟩
theorem digit_c {i : Int} {s : xW} (h : 0 ≤ s 1 1 ∧ s 1 1 ≤ 80) (hb : ∀ i : Int, 0 ≤ s 2 i ∧ s 2 i ≤ 255) (hi : 0 ≤ i ∧ i < s 1 1) : F_X8_digit i s = some (if 48 ≤ s 2 i ∧ s 2 i ≤ 57 then s 2 i - 48 else -1) := by
  have hbi := hb i
  unfold F_X8_digit
  rw [at_c h hb (by omega), if_pos hi]
  simp only [xbp_s, xbd_s, xls, xli, xlt, xjn]
  rw [xw_sm (x := s 2 i) (by omega) (by omega)]
  by_cases z1 : 48 ≤ s 2 i
  · by_cases z2 : s 2 i ≤ 57
    · rw [if_pos z1, if_pos z2, if_pos ⟨z1, z2⟩]
    · rw [if_pos z1, if_neg z2, if_neg (fun w => z2 w.2)]
  · rw [if_neg z1, if_neg (fun w => z1 w.1)]
theorem digits_loopC {c l : Int} {s : xW} {k : Int → Option (Int × xW)} (h : 0 ≤ s 1 1 ∧ s 1 1 ≤ 80) (hb : ∀ i : Int, 0 ≤ s 2 i ∧ s 2 i ≤ 255) (hc : 0 ≤ c ∧ c ≤ s 1 1 ∧ c ≤ 20) (hd : ∀ x : Int, 0 ≤ x → x < c → 48 ≤ s 2 x ∧ s 2 x ≤ 57) (he : c = s 1 1 ∨ c = 20 ∨ ¬ (48 ≤ s 2 c ∧ s 2 c ≤ 57)) :
    ∀ (j i fu : Nat), (i : Int) + j = c → j < fu → F_X1_read_2 l s fu (i : Int) k = if c < s 1 1 then some (c, s) else k c := by
  intro j
  induction j with
  | zero =>
    intro i fu hi hfu
    obtain ⟨fu, rfl⟩ : ∃ g, fu = g + 1 := ⟨fu - 1, by omega⟩
    have ei : (i : Int) = c := by omega
    rw [ei, F_X1_read_2]
    simp only [xbp_s, xbd_s, xls, xli, xlt, xjn]
    rw [xw_sm (x := c) (by omega) (by omega), xw_sm (x := s 1 1) (by omega) (by omega)]
    by_cases z : c < s 1 1
    · rw [if_pos z, if_pos z]
      by_cases z2 : c = 20
      · rw [if_neg (fun w => w z2)]
      · rw [if_pos (show c ≠ 20 from z2), digit_c h hb ⟨hc.1, z⟩, if_neg (show ¬ (48 ≤ s 2 c ∧ s 2 c ≤ 57) by rcases he with u | u | u; omega; omega; exact u)]
        simp only [xbp_s, xbd_s, xls, xli, xlt, xjn]
        rw [if_pos (show xw (-1) = -1 by decide)]
    · rw [if_neg z, if_neg z]
  | succ j ih =>
    intro i fu hi hfu
    obtain ⟨fu, rfl⟩ : ∃ g, fu = g + 1 := ⟨fu - 1, by omega⟩
    have hdi := hd i (by omega) (by omega)
    have g := ih (i + 1) fu (by omega) (by omega)
    rw [show ((i + 1 : Nat) : Int) = (i : Int) + 1 by omega] at g
    rw [F_X1_read_2]
    simp only [xbp_s, xbd_s, xls, xli, xlt, xjn]
    rw [xw_sm (x := (i : Int)) (by omega) (by omega), xw_sm (x := s 1 1) (by omega) (by omega), if_pos (show (i : Int) < s 1 1 by omega), if_pos (show (i : Int) ≠ 20 by omega), digit_c h hb (by omega), if_pos hdi]
    simp only [xbp_s, xbd_s, xls, xli, xlt, xjn]
    rw [xw_sm (x := s 2 (i : Int) - 48) (by omega) (by omega), if_neg (show ¬ s 2 (i : Int) - 48 = -1 by omega)]
    exact g
/-- how many digits lead -/
theorem lead (f : Int → Int) {n : Int} (hn : 0 ≤ n) : ∃ c : Int, (0 ≤ c ∧ c ≤ n ∧ c ≤ 20) ∧ (∀ x : Int, 0 ≤ x → x < c → 48 ≤ f x ∧ f x ≤ 57) ∧ (c = n ∨ c = 20 ∨ ¬ (48 ≤ f c ∧ f c ≤ 57)) := by
  have key : ∀ j : Nat, (∃ c : Int, (0 ≤ c ∧ c ≤ n ∧ c ≤ 20) ∧ (∀ x : Int, 0 ≤ x → x < c → 48 ≤ f x ∧ f x ≤ 57) ∧ (c = n ∨ c = 20 ∨ ¬ (48 ≤ f c ∧ f c ≤ 57))) ∨ (((j : Int) ≤ n ∧ (j : Int) ≤ 20) ∧ (∀ x : Int, 0 ≤ x → x < (j : Int) → 48 ≤ f x ∧ f x ≤ 57)) := by
    intro j
    induction j with
    | zero => exact Or.inr ⟨by omega, fun x x1 x2 => by omega⟩
    | succ j ih =>
      rcases ih with a | ⟨a, b⟩
      · exact Or.inl a
      · by_cases z : (j : Int) = n ∨ (j : Int) = 20 ∨ ¬ (48 ≤ f (j : Int) ∧ f (j : Int) ≤ 57)
        · exact Or.inl ⟨j, by omega, b, z⟩
        · have z1 : ¬ (j : Int) = n := fun w => z (Or.inl w)
          have z2 : ¬ (j : Int) = 20 := fun w => z (Or.inr (Or.inl w))
          have z3 : 48 ≤ f (j : Int) ∧ f (j : Int) ≤ 57 := Decidable.byContradiction (fun w => z (Or.inr (Or.inr w)))
          refine Or.inr ⟨by omega, fun x x1 x2 => ?_⟩
          by_cases w : x = j
          · rw [w]; exact z3
          · exact b x x1 (by omega)
  rcases key 21 with a | ⟨a, _⟩
  · exact a
  · omega
theorem digits_loopW {l n : Int} {s0 : xW} {k : Int → xW → Option (Int × xW)} (hl : l = 5 ∨ l = 7) (h : 0 ≤ s0 1 1 ∧ s0 1 1 ≤ 80) (hb : ∀ i : Int, 0 ≤ s0 2 i ∧ s0 2 i ≤ 255) (hn : n = s0 1 1 ∧ n ≤ 20) (e0 : s0 l 1 = n) (hd : ∀ x : Int, 0 ≤ x → x < n → 48 ≤ s0 2 x ∧ s0 2 x ≤ 57) :
    ∀ (j i fu : Nat) (s : xW), (i : Int) + j = n → j < fu → (∀ c : Int, c ≠ l + 1 → s c = s0 c) → (∀ x : Int, s (l + 1) x = if 0 ≤ x ∧ x < (i : Int) then s0 2 x - 48 else s0 (l + 1) x) → ∃ s', F_X1_read_52 l fu (i : Int) s k = k n s' ∧ (∀ c : Int, c ≠ l + 1 → s' c = s0 c) ∧ (∀ x : Int, s' (l + 1) x = if 0 ≤ x ∧ x < n then s0 2 x - 48 else s0 (l + 1) x) := by
  intro j
  induction j with
  | zero =>
    intro i fu s hi hfu hc hx
    obtain ⟨fu, rfl⟩ : ∃ g, fu = g + 1 := ⟨fu - 1, by omega⟩
    have ei : (i : Int) = n := by omega
    rw [ei] at hx
    refine ⟨s, ?_, hc, hx⟩
    rw [ei, F_X1_read_52, hc l (by omega), e0, if_neg (Int.lt_irrefl _)]
  | succ j ih =>
    intro i fu s hi hfu hc hx
    obtain ⟨fu, rfl⟩ : ∃ g, fu = g + 1 := ⟨fu - 1, by omega⟩
    have e1 : s 1 = s0 1 := hc 1 (by omega)
    have e2 : s 2 = s0 2 := hc 2 (by omega)
    have hdi := hd i (by omega) (by omega)
    have hg := digit_c (i := (i : Int)) (s := s) (by rw [e1]; exact h) (by rw [e2]; exact hb) (by rw [e1]; omega)
    rw [e2, if_pos hdi] at hg
    rw [F_X1_read_52, hc l (by omega), e0, xw_sm (x := (i : Int)) (by omega) (by omega), xw_sm (x := n) (by omega) (by omega), if_pos (by omega), hg]
    simp only [xbp_s, xbd_s, xls, xli, xlt, xjn]
    rw [xgd_t (by omega), show ((i : Int) + 1) = ((i + 1 : Nat) : Int) by omega]
    refine ih (i + 1) fu _ (by omega) (by omega) (fun c z => by rw [xu_row _ _ _ z]; exact hc c z) (fun x => ?_)
    by_cases z : x = i
    · rw [z, xu_same, if_pos (by omega)]
    · rw [xu_slot _ _ _ z, hx x]
      by_cases z2 : 0 ≤ x ∧ x < (i : Int)
      · rw [if_pos z2, if_pos (by omega)]
      · rw [if_neg z2, if_neg (by omega)]
theorem read_bad {l c : Int} {σ : xW} (hl : l = 5 ∨ l = 7) (h : 0 ≤ σ 1 1 ∧ σ 1 1 ≤ 80) (hb : ∀ i : Int, 0 ≤ σ 2 i ∧ σ 2 i ≤ 255) (hc : 0 ≤ c ∧ c ≤ σ 1 1 ∧ c ≤ 20) (hd : ∀ x : Int, 0 ≤ x → x < c → 48 ≤ σ 2 x ∧ σ 2 x ≤ 57) (he : c = σ 1 1 ∨ c = 20 ∨ ¬ (48 ≤ σ 2 c ∧ σ 2 c ≤ 57)) (hz : c < σ 1 1 ∨ σ 1 1 = 0) : F_X10_readDigits l σ = some (-1 - c, xu σ 1 1 0) := by
  have hN := xN_ge
  have e1 : F_X1_read l σ = some (c, σ) := by
    unfold F_X1_read
    rw [xgd_t (by rcases hl with a | a <;> rw [a] <;> decide)]
    refine Eq.trans (digits_loopC h hb hc hd he c.toNat 0 xN (by omega) (by omega)) ?_
    by_cases z : c < σ 1 1
    · rw [if_pos z]
    · rw [if_neg z, xw_sm (x := σ 1 1) (by omega) (by omega), if_pos (by omega), show c = 0 by omega]
  unfold F_X10_readDigits F_X8_clear
  rw [xgd_t (by rcases hl with a | a <;> rw [a] <;> decide), e1]
  simp only [xbp_s, xbd_s, xls, xli, xlt, xjn]
  rw [xw_sm (x := c) (by omega) (by omega), if_neg (show ¬ c = -1 by omega)]
theorem read_good {l : Int} {σ : xW} (hl : l = 5 ∨ l = 7) (h : 0 ≤ σ 1 1 ∧ σ 1 1 ≤ 80) (hb : ∀ i : Int, 0 ≤ σ 2 i ∧ σ 2 i ≤ 255) (hn : σ 1 1 ≤ 20) (hd : ∀ x : Int, 0 ≤ x → x < σ 1 1 → 48 ≤ σ 2 x ∧ σ 2 x ≤ 57) (hz : ¬ σ 1 1 = 0) : ∃ s', F_X10_readDigits l σ = some (σ 1 1, s') ∧ s' 1 1 = 0 ∧ s' 2 = σ 2 ∧ s' l 1 = σ 1 1 ∧ (∀ x : Int, s' (l + 1) x = if 0 ≤ x ∧ x < σ 1 1 then σ 2 x - 48 else σ (l + 1) x) := by
  have hN := xN_ge
  have r1 : xu σ l 1 (σ 1 1) 1 = σ 1 := xu_row _ _ _ (by omega)
  have r2 : xu σ l 1 (σ 1 1) 2 = σ 2 := xu_row _ _ _ (by omega)
  have r3 : xu σ l 1 (σ 1 1) (l + 1) = σ (l + 1) := xu_row _ _ _ (by omega)
  obtain ⟨s1, w1, w2, w3⟩ := digits_loopW (l := l) (n := σ 1 1) (s0 := xu σ l 1 (σ 1 1)) (k := fun (l2_30 : Int) (s31 : xW) => some (-1, s31)) hl (by rw [r1]; exact h) (by rw [r2]; exact hb) ⟨by rw [r1], hn⟩ (xu_same _ _ _ _) (by rw [r2]; exact hd) (σ 1 1).toNat 0 xN (xu σ l 1 (σ 1 1)) (by omega) (by omega) (fun _ _ => rfl) (fun x => by rw [if_neg (by omega)])
  have e1 : F_X1_read l σ = some (-1, s1) := by
    unfold F_X1_read
    rw [xgd_t (by rcases hl with a | a <;> rw [a] <;> decide)]
    refine Eq.trans (digits_loopC (c := σ 1 1) h hb ⟨h.1, Int.le_refl _, hn⟩ hd (Or.inl rfl) (σ 1 1).toNat 0 xN (by omega) (by omega)) ?_
    rw [if_neg (Int.lt_irrefl _), xw_sm (x := σ 1 1) (by omega) (by omega), if_neg hz]
    simp only [xbp_s, xbd_s, xls, xli, xlt, xjn]
    exact w1
  refine ⟨xu s1 1 1 0, ?_, xu_same _ _ _ _, ?_, ?_, fun x => ?_⟩
  · unfold F_X10_readDigits F_X8_clear
    rw [xgd_t (by rcases hl with a | a <;> rw [a] <;> decide), e1]
    simp only [xbp_s, xbd_s, xls, xli, xlt, xjn]
    rw [if_pos (show xw (-1) = -1 by decide), w2 1 (by omega), r1]
  · rw [xu_row _ _ _ (show (2 : Int) ≠ 1 by decide), w2 2 (by omega), r2]
  · rw [xu_row _ _ _ (show l ≠ 1 by omega), w2 l (by omega), xu_same]
  · rw [xu_row _ _ _ (show l + 1 ≠ 1 by omega), w3 x, r2, r3]
