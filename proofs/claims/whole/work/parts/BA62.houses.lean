/-! houses -/
abbrev xhfit (nh : Int) (f : Int → Int) (i : Int) : Prop := (i % 3 = 2 ∧ f i = 59) ∨ (¬ i % 3 = 2 ∧ (48 ≤ f i ∧ f i ≤ 57) ∧ nh + i / 3 < 8)
def xhs (s : xW) (nh : Int) (f : Int → Int) (i : Int) : xW := if i % 3 = 2 then s else if i % 3 = 0 then xu (xu s 18 (nh + i / 3) ((f i - 48) * 10)) 19 (nh + i / 3) 0 else xu s 18 (nh + i / 3) (s 18 (nh + i / 3) + (f i - 48))
theorem fitsHouse_c {i nh : Int} {s : xW} (h : 0 ≤ s 1 1 ∧ s 1 1 ≤ 80) (hb : ∀ i : Int, 0 ≤ s 2 i ∧ s 2 i ≤ 255) (hi : 0 ≤ i ∧ i < s 1 1) (e0 : s 0 14 = nh) (hn : 0 ≤ nh ∧ nh ≤ 8) : F_X10_fitsHouse i s = if xhfit nh (s 2) i then some (1, xhs s nh (s 2) i) else some (0, s) := by
  have hbi := hb i
  unfold F_X10_fitsHouse
  rw [digit_c h hb hi, at_c h hb (by omega), if_pos hi, e0, xw_sm (x := i) (by omega) (by omega), Int.tmod_eq_emod_of_nonneg hi.1, Int.tdiv_eq_ediv_of_nonneg hi.1]
  simp only [xbp_s, xbd_s, xls, xli, xlt, xjn]
  rw [xw_sm (x := i % 3) (by omega) (by omega), xw_sm (x := s 2 i) (by omega) (by omega), xw_sm (x := nh + i / 3) (by omega) (by omega)]
  by_cases z : i % 3 = 2
  · rw [if_pos z]
    by_cases z2 : s 2 i = 59
    · rw [if_pos z2, if_pos (show xhfit nh (s 2) i from Or.inl ⟨z, z2⟩), xgd_t (by decide)]
      unfold xhs
      rw [if_pos z]
    · rw [if_neg z2, if_neg (show ¬ xhfit nh (s 2) i by unfold xhfit; omega), xgd_t (by decide)]
  · rw [if_neg z]
    by_cases z2 : 48 ≤ s 2 i ∧ s 2 i ≤ 57
    · rw [if_pos z2, xw_sm (x := s 2 i - 48) (by omega) (by omega), if_pos (show s 2 i - 48 ≠ -1 by omega)]
      by_cases z3 : nh + i / 3 < 8
      · rw [if_neg (show ¬ 8 ≤ nh + i / 3 by omega), if_pos (show xhfit nh (s 2) i from Or.inr ⟨z, z2, z3⟩)]
        unfold xhs
        rw [if_neg z]
        by_cases z4 : i % 3 = 0
        · rw [if_pos z4, if_pos z4, xgd_t (by omega), xgd_t (by omega)]
        · rw [if_neg z4, if_neg z4, xgd_t (by omega), xgd_t (by omega)]
      · rw [if_pos (show 8 ≤ nh + i / 3 by omega), if_neg (show ¬ xhfit nh (s 2) i by unfold xhfit; omega)]
    · rw [if_neg z2, if_neg (show ¬ xw (-1) ≠ -1 by decide), if_neg (show ¬ xhfit nh (s 2) i by unfold xhfit; omega)]
/-- what the class has written after i signs -/
def xhp (σ : xW) (nh i h : Int) : Int := if nh ≤ h ∧ 3 * (h - nh) + 1 < i then 10 * (σ 2 (3 * (h - nh)) - 48) + (σ 2 (3 * (h - nh) + 1) - 48) else if nh ≤ h ∧ 3 * (h - nh) < i then 10 * (σ 2 (3 * (h - nh)) - 48) else σ 18 h
def xhw (σ : xW) (nh i h : Int) : Int := if nh ≤ h ∧ 3 * (h - nh) < i then 0 else σ 19 h
def Xhp (σ s : xW) (nh i : Int) : Prop := (∀ c : Int, c ≠ 18 → c ≠ 19 → s c = σ c) ∧ (∀ h : Int, s 18 h = xhp σ nh i h) ∧ (∀ h : Int, s 19 h = xhw σ nh i h)
theorem Xhp_s {σ s : xW} {nh i : Int} (hi : 0 ≤ i) (h : Xhp σ s nh i) : Xhp σ (xhs s nh (σ 2) i) nh (i + 1) := by
  obtain ⟨h1, h2, h3⟩ := h
  unfold xhs
  by_cases z : i % 3 = 2
  · rw [if_pos z]
    refine ⟨h1, fun x => ?_, fun x => ?_⟩
    · rw [h2 x]
      unfold xhp
      by_cases q1 : nh ≤ x ∧ 3 * (x - nh) + 1 < i
      · rw [if_pos q1, if_pos (by omega)]
      · rw [if_neg q1, if_neg (show ¬ (nh ≤ x ∧ 3 * (x - nh) + 1 < i + 1) by omega)]
        by_cases q2 : nh ≤ x ∧ 3 * (x - nh) < i
        · rw [if_pos q2, if_pos (by omega)]
        · rw [if_neg q2, if_neg (show ¬ (nh ≤ x ∧ 3 * (x - nh) < i + 1) by omega)]
    · rw [h3 x]
      unfold xhw
      by_cases q2 : nh ≤ x ∧ 3 * (x - nh) < i
      · rw [if_pos q2, if_pos (by omega)]
      · rw [if_neg q2, if_neg (show ¬ (nh ≤ x ∧ 3 * (x - nh) < i + 1) by omega)]
  · rw [if_neg z]
    by_cases z4 : i % 3 = 0
    · rw [if_pos z4]
      refine ⟨fun c c1 c2 => by rw [xu_row _ _ _ c2, xu_row _ _ _ c1]; exact h1 c c1 c2, fun x => ?_, fun x => ?_⟩
      · rw [xu_row _ _ _ (show (18 : Int) ≠ 19 by decide)]
        by_cases q : x = nh + i / 3
        · rw [q, xu_same]
          unfold xhp
          rw [if_neg (by omega), if_pos (by omega), show 3 * (nh + i / 3 - nh) = i by omega]
          omega
        · rw [xu_slot _ _ _ q, h2 x]
          unfold xhp
          by_cases q1 : nh ≤ x ∧ 3 * (x - nh) + 1 < i
          · rw [if_pos q1, if_pos (by omega)]
          · rw [if_neg q1, if_neg (show ¬ (nh ≤ x ∧ 3 * (x - nh) + 1 < i + 1) by omega)]
            by_cases q2 : nh ≤ x ∧ 3 * (x - nh) < i
            · rw [if_pos q2, if_pos (by omega)]
            · rw [if_neg q2, if_neg (show ¬ (nh ≤ x ∧ 3 * (x - nh) < i + 1) by omega)]
      · by_cases q : x = nh + i / 3
        · rw [q, xu_same]
          unfold xhw
          rw [if_pos (by omega)]
        · rw [xu_slot _ _ _ q, xu_row _ _ _ (show (19 : Int) ≠ 18 by decide), h3 x]
          unfold xhw
          by_cases q2 : nh ≤ x ∧ 3 * (x - nh) < i
          · rw [if_pos q2, if_pos (by omega)]
          · rw [if_neg q2, if_neg (show ¬ (nh ≤ x ∧ 3 * (x - nh) < i + 1) by omega)]
    · rw [if_neg z4]
      refine ⟨fun c c1 c2 => by rw [xu_row _ _ _ c1]; exact h1 c c1 c2, fun x => ?_, fun x => ?_⟩
      · by_cases q : x = nh + i / 3
        · rw [q, xu_same, h2]
          unfold xhp
          rw [if_neg (by omega), if_pos (by omega), if_pos (by omega), show 3 * (nh + i / 3 - nh) + 1 = i by omega]
        · rw [xu_slot _ _ _ q, h2 x]
          unfold xhp
          by_cases q1 : nh ≤ x ∧ 3 * (x - nh) + 1 < i
          · rw [if_pos q1, if_pos (by omega)]
          · rw [if_neg q1, if_neg (show ¬ (nh ≤ x ∧ 3 * (x - nh) + 1 < i + 1) by omega)]
            by_cases q2 : nh ≤ x ∧ 3 * (x - nh) < i
            · rw [if_pos q2, if_pos (by omega)]
            · rw [if_neg q2, if_neg (show ¬ (nh ≤ x ∧ 3 * (x - nh) < i + 1) by omega)]
      · rw [xu_row _ _ _ (show (19 : Int) ≠ 18 by decide), h3 x]
        unfold xhw
        by_cases q2 : nh ≤ x ∧ 3 * (x - nh) < i
        · rw [if_pos q2, if_pos (by omega)]
        · rw [if_neg q2, if_neg (show ¬ (nh ≤ x ∧ 3 * (x - nh) < i + 1) by omega)]
theorem houses_loopC {nh c : Int} {σ : xW} {k : Int → xW → Option (Int × xW)} (h : 0 ≤ σ 1 1 ∧ σ 1 1 ≤ 80) (hb : ∀ i : Int, 0 ≤ σ 2 i ∧ σ 2 i ≤ 255) (e0 : σ 0 14 = nh) (hn : 0 ≤ nh ∧ nh ≤ 8) (hc : 0 ≤ c ∧ c ≤ σ 1 1 ∧ c ≤ 23) (hf : ∀ i : Int, 0 ≤ i → i < c → xhfit nh (σ 2) i) (he : c = σ 1 1 ∨ c = 23 ∨ ¬ xhfit nh (σ 2) c) :
    ∀ (j i fu : Nat) (s : xW), (i : Int) + j = c → j < fu → Xhp σ s nh i → ∃ s', F_X10_readHouses_2 fu (i : Int) s k = (if c < σ 1 1 then some (-1 - c, s') else k c s') ∧ Xhp σ s' nh c := by
  intro j
  induction j with
  | zero =>
    intro i fu s hi hfu hs
    obtain ⟨fu, rfl⟩ : ∃ g, fu = g + 1 := ⟨fu - 1, by omega⟩
    have ei : (i : Int) = c := by omega
    rw [ei] at hs
    have e1 : s 1 = σ 1 := hs.1 1 (by decide) (by decide)
    have e2 : s 2 = σ 2 := hs.1 2 (by decide) (by decide)
    have e00 : s 0 14 = nh := by rw [hs.1 0 (by decide) (by decide)]; exact e0
    refine ⟨s, ?_, hs⟩
    rw [ei, F_X10_readHouses_2, e1, xw_sm (x := c) (by omega) (by omega), xw_sm (x := σ 1 1) (by omega) (by omega)]
    by_cases z : c < σ 1 1
    · rw [if_pos z, if_pos z]
      simp only [xjn]
      by_cases z2 : c = 23
      · rw [if_neg (fun w => w z2)]
      · have z3 : ¬ xhfit nh (s 2) c := by
          rw [e2]
          rcases he with u | u | u
          · omega
          · omega
          · exact u
        rw [if_pos (show c ≠ 23 from z2), fitsHouse_c (by rw [e1]; exact h) (by rw [e2]; exact hb) (by rw [e1]; omega) e00 hn, if_neg z3]
        simp only [xbp_s, xbd_s, xls, xli, xlt, xjn]
        rw [if_pos (show xw 0 = 0 by decide)]
    · rw [if_neg z, if_neg z]
  | succ j ih =>
    intro i fu s hi hfu hs
    obtain ⟨fu, rfl⟩ : ∃ g, fu = g + 1 := ⟨fu - 1, by omega⟩
    have e1 : s 1 = σ 1 := hs.1 1 (by decide) (by decide)
    have e2 : s 2 = σ 2 := hs.1 2 (by decide) (by decide)
    have e00 : s 0 14 = nh := by rw [hs.1 0 (by decide) (by decide)]; exact e0
    have hfi := hf i (by omega) (by omega)
    obtain ⟨s', g1, g2⟩ := ih (i + 1) fu (xhs s nh (σ 2) i) (by omega) (by omega) (by
      rw [show ((i + 1 : Nat) : Int) = (i : Int) + 1 by omega]
      exact Xhp_s (by omega) hs)
    refine ⟨s', ?_, g2⟩
    rw [F_X10_readHouses_2, e1, xw_sm (x := (i : Int)) (by omega) (by omega), xw_sm (x := σ 1 1) (by omega) (by omega), if_pos (by omega)]
    simp only [xjn]
    rw [if_pos (show (i : Int) ≠ 23 by omega), fitsHouse_c (by rw [e1]; exact h) (by rw [e2]; exact hb) (by rw [e1]; omega) e00 hn, e2, if_pos hfi]
    simp only [xbp_s, xbd_s, xls, xli, xlt, xjn]
    rw [if_neg (show ¬ xw 1 = 0 by decide), show ((i : Int) + 1) = ((i + 1 : Nat) : Int) by omega]
    exact g1
/-! the reference -/
theorem number0_m {s : xW} (h : 0 ≤ s 121 16 ∧ s 121 16 ≤ 80) (h2 : 0 ≤ s 121 17 ∧ s 121 17 ≤ 80) (hb : s 121 16 < s 121 17 → 0 ≤ s 129 (s 121 16) ∧ s 129 (s 121 16) ≤ 255) (hd : ¬ (s 121 16 < s 121 17 ∧ 48 ≤ s 129 (s 121 16) ∧ s 129 (s 121 16) ≤ 57)) : F_X11_number 1 s = some (-1, s) := by
  have e := digit_m h h2 hb
  rw [if_neg hd] at e
  unfold F_X11_number
  rw [e]
  simp only [xbp_s, xbd_s, xls, xli, xlt, xjn]
  rw [if_pos (show xw 0 = 0 by decide)]
/-- the text under way: at p of E signs, f -/
def Xat (s : xW) (f : Int → Int) (p E : Int) : Prop := s 121 16 = p ∧ s 121 17 = E ∧ (0 ≤ p ∧ p ≤ E ∧ E ≤ 80) ∧ (∀ x : Int, 0 ≤ x → x < E → s 129 x = f x ∧ 0 ≤ f x ∧ f x ≤ 255)
theorem num_1 {s : xW} {f : Int → Int} {p E : Int} (h : Xat s f p E) (hd : p < E ∧ 48 ≤ f p ∧ f p ≤ 57) : F_X11_number 1 s = some (f p - 48, xu s 121 16 (p + 1)) := by
  obtain ⟨h1, h2, h3, h4⟩ := h
  have q := h4 p h3.1 hd.1
  rw [number1_m (by omega) (by omega) (fun _ => by rw [h1, q.1]; exact q.2) (by rw [h1, h2, q.1]; exact hd), h1, q.1]
theorem num_0 {s : xW} {f : Int → Int} {p E : Int} (h : Xat s f p E) (hd : ¬ (p < E ∧ 48 ≤ f p ∧ f p ≤ 57)) : F_X11_number 1 s = some (-1, s) := by
  obtain ⟨h1, h2, h3, h4⟩ := h
  refine number0_m (by omega) (by omega) (fun w => ?_) (fun w => ?_)
  · rw [h1, h2] at w
    have q := h4 p h3.1 w
    rw [h1, q.1]; exact q.2
  · rw [h1, h2] at w
    have q := h4 p h3.1 w.1
    rw [q.1] at w
    exact hd w
theorem takesSign_m {s : xW} {f : Int → Int} {p E a : Int} (h : Xat s f p E) (ha : 0 ≤ a ∧ a ≤ 255) : F_X11_takesSign a s = if p < E ∧ f p = a then some (1, xu s 121 16 (p + 1)) else some (0, xu s 121 16 p) := by
  obtain ⟨h1, h2, h3, h4⟩ := h
  unfold F_X11_takesSign
  rw [h1, h2, xw_sm (x := p) (by omega) (by omega), xw_sm (x := E) (by omega) (by omega)]
  simp only [xjn]
  rw [show F_X11_flag 1 s = some 1 from rfl, show F_X11_flag 0 s = some 0 from rfl]
  simp only [xbp_s, xbd_s, xls, xli, xlt, xjn]
  by_cases z : p < E
  · have q := h4 p h3.1 z
    rw [if_pos z, xgd_t (by omega), q.1, xw_sm (x := f p) (by omega) (by omega), xw_sm (x := a) (by omega) (by omega)]
    by_cases z2 : f p = a
    · rw [if_pos z2, if_pos ⟨z, z2⟩, xgd_t (by decide)]
    · rw [if_neg z2, if_neg (fun w => z2 w.2), xgd_t (by decide), Int.add_zero]
  · rw [if_neg z, if_neg (fun w => z w.1), xgd_t (by decide), Int.add_zero]
theorem Xat_u {s : xW} {f : Int → Int} {p E q : Int} (h : Xat s f p E) (hq : 0 ≤ q ∧ q ≤ E) : Xat (xu s 121 16 q) f q E := by
  obtain ⟨h1, h2, h3, h4⟩ := h
  refine ⟨xu_same _ _ _ _, by rw [xu_slot _ _ _ (show (17 : Int) ≠ 16 by decide)]; exact h2, by omega, fun x x1 x2 => ?_⟩
  rw [xu_row _ _ _ (show (129 : Int) ≠ 121 by decide)]
  exact h4 x x1 x2
theorem Xat_o {s s1 : xW} {f : Int → Int} {p E : Int} (h : Xat s f p E) (e1 : s1 121 16 = s 121 16) (e2 : s1 121 17 = s 121 17) (e3 : s1 129 = s 129) : Xat s1 f p E := by
  unfold Xat at *
  rw [e1, e2, e3]
  exact h
