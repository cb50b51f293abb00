/-! houses, the reference's lines -/
abbrev xdg (f : Int → Int) (E p : Int) : Prop := p < E ∧ 48 ≤ f p ∧ f p ≤ 57
theorem readsHouse_m {s : xW} {f : Int → Int} {p E nh kk : Int} (h : Xat s f p E) (e3 : s 121 3 = nh) (e20 : s 121 20 = kk) (hn : 0 ≤ nh ∧ nh ≤ 8) (hk : 0 ≤ kk ∧ nh + kk ≤ 8) : ∃ r s', F_X11_readsHouse s = some (r, s') ∧ (∀ k, k ≠ 16 → k ≠ 20 → s' 121 k = s 121 k) ∧
    ((r = 0 ∧ (nh + kk = 8 ∨ ¬ xdg f E p) ∧ Xat s' f p E) ∨ (r = 0 ∧ nh + kk ≠ 8 ∧ xdg f E p ∧ ¬ xdg f E (p + 1) ∧ Xat s' f (p + 1) E) ∨ (r = 1 ∧ nh + kk ≠ 8 ∧ xdg f E p ∧ xdg f E (p + 1) ∧ Xat s' f (p + 2) E ∧ s' 121 20 = kk + 1 ∧ (∀ j : Int, s' 130 j = if j = 2 * kk then f p - 48 else if j = 2 * kk + 1 then f (p + 1) - 48 else s 130 j))) := by
  have hp := h.2.2.1
  by_cases z : nh + kk = 8
  · refine ⟨0, s, ?_, fun _ _ _ => rfl, Or.inl ⟨rfl, Or.inl z, h⟩⟩
    unfold F_X11_readsHouse
    rw [e3, e20, z, if_pos (by decide)]
  · by_cases z1 : xdg f E p
    · have h1 := Xat_u (q := p + 1) h (by unfold xdg at z1; omega)
      have h2 : Xat (xu (xu s 121 16 (p + 1)) 130 (2 * kk) (f p - 48)) f (p + 1) E := Xat_o h1 (by rw [xu_row _ _ _ (show (121 : Int) ≠ 130 by decide)]) (by rw [xu_row _ _ _ (show (121 : Int) ≠ 130 by decide)]) (by rw [xu_row _ _ _ (show (129 : Int) ≠ 130 by decide)])
      have q := h.2.2.2 p hp.1 z1.1
      by_cases z2 : xdg f E (p + 1)
      · have q2 := h.2.2.2 (p + 1) (by omega) z2.1
        have h3 := Xat_u (q := p + 2) h2 (by unfold xdg at z2; omega)
        refine ⟨1, xu (xu (xu (xu (xu s 121 16 (p + 1)) 130 (2 * kk) (f p - 48)) 121 16 (p + 2)) 130 (2 * kk + 1) (f (p + 1) - 48)) 121 20 (kk + 1), ?_, fun k k1 k2 => ?_, Or.inr (Or.inr ⟨rfl, z, z1, z2, ?_, xu_same _ _ _ _, fun j => ?_⟩)⟩
        · unfold F_X11_readsHouse
          rw [e3, e20, xw_sm (x := nh + kk) (by omega) (by omega), if_neg z, num_1 h z1]
          simp only [xbp_s, xbd_s, xls, xli, xlt, xjn]
          rw [xgd_t (by omega), xgd_t (by omega), xu_same, xw_sm (x := f p - 48) (by omega) (by omega), if_neg (by unfold xdg at z1; omega), num_1 h2 z2]
          simp only [xbp_s, xbd_s, xls, xli, xlt, xjn]
          rw [xgd_t (by omega), xgd_t (by omega), show p + 1 + 1 = p + 2 by omega]
          have e : (xu (xu (xu (xu s 121 16 (p + 1)) 130 (2 * kk) (f p - 48)) 121 16 (p + 2)) 130 (2 * kk + 1) (f (p + 1) - 48)) 121 20 = kk := by
            rw [xu_row _ _ _ (show (121 : Int) ≠ 130 by decide), xu_slot _ _ _ (show (20 : Int) ≠ 16 by decide), xu_row _ _ _ (show (121 : Int) ≠ 130 by decide), xu_slot _ _ _ (show (20 : Int) ≠ 16 by decide)]
            exact e20
          rw [e, xu_row _ _ _ (show (130 : Int) ≠ 121 by decide), xu_same, xw_sm (x := f (p + 1) - 48) (by omega) (by omega), if_pos (by unfold xdg at z2; omega), xgd_t (by decide)]
        · rw [xu_slot _ _ _ k2, xu_row _ _ _ (show (121 : Int) ≠ 130 by decide), xu_slot _ _ _ k1, xu_row _ _ _ (show (121 : Int) ≠ 130 by decide), xu_slot _ _ _ k1]
        · exact Xat_o h3 (by rw [xu_slot _ _ _ (show (16 : Int) ≠ 20 by decide), xu_row _ _ _ (show (121 : Int) ≠ 130 by decide)]) (by rw [xu_slot _ _ _ (show (17 : Int) ≠ 20 by decide), xu_row _ _ _ (show (121 : Int) ≠ 130 by decide)]) (by rw [xu_row _ _ _ (show (129 : Int) ≠ 121 by decide), xu_row _ _ _ (show (129 : Int) ≠ 130 by decide)])
        · rw [xu_row _ _ _ (show (130 : Int) ≠ 121 by decide)]
          by_cases w1 : j = 2 * kk + 1
          · rw [w1, xu_same, if_neg (by omega), if_pos rfl]
          · rw [xu_slot _ _ _ w1, xu_row _ _ _ (show (130 : Int) ≠ 121 by decide)]
            by_cases w2 : j = 2 * kk
            · rw [w2, xu_same, if_pos rfl]
            · rw [xu_slot _ _ _ w2, xu_row _ _ _ (show (130 : Int) ≠ 121 by decide), if_neg w2, if_neg w1]
      · refine ⟨0, xu (xu (xu (xu s 121 16 (p + 1)) 130 (2 * kk) (f p - 48)) 130 (2 * kk + 1) (-1)) 121 20 (kk + 1), ?_, fun k k1 k2 => ?_, Or.inr (Or.inl ⟨rfl, z, z1, z2, ?_⟩)⟩
        · unfold F_X11_readsHouse
          rw [e3, e20, xw_sm (x := nh + kk) (by omega) (by omega), if_neg z, num_1 h z1]
          simp only [xbp_s, xbd_s, xls, xli, xlt, xjn]
          rw [xgd_t (by omega), xgd_t (by omega), xu_same, xw_sm (x := f p - 48) (by omega) (by omega), if_neg (by unfold xdg at z1; omega), num_0 h2 z2]
          simp only [xbp_s, xbd_s, xls, xli, xlt, xjn]
          rw [xgd_t (by omega), xgd_t (by omega)]
          have e : (xu (xu (xu s 121 16 (p + 1)) 130 (2 * kk) (f p - 48)) 130 (2 * kk + 1) (-1)) 121 20 = kk := by
            rw [xu_row _ _ _ (show (121 : Int) ≠ 130 by decide), xu_row _ _ _ (show (121 : Int) ≠ 130 by decide), xu_slot _ _ _ (show (20 : Int) ≠ 16 by decide)]
            exact e20
          rw [e, xu_row _ _ _ (show (130 : Int) ≠ 121 by decide), xu_same, if_neg (by decide), xgd_t (by decide)]
        · rw [xu_slot _ _ _ k2, xu_row _ _ _ (show (121 : Int) ≠ 130 by decide), xu_row _ _ _ (show (121 : Int) ≠ 130 by decide), xu_slot _ _ _ k1]
        · exact Xat_o h2 (by rw [xu_slot _ _ _ (show (16 : Int) ≠ 20 by decide), xu_row _ _ _ (show (121 : Int) ≠ 130 by decide)]) (by rw [xu_slot _ _ _ (show (17 : Int) ≠ 20 by decide), xu_row _ _ _ (show (121 : Int) ≠ 130 by decide)]) (by rw [xu_row _ _ _ (show (129 : Int) ≠ 121 by decide), xu_row _ _ _ (show (129 : Int) ≠ 130 by decide)])
    · refine ⟨0, xu (xu (xu s 130 (2 * kk) (-1)) 130 (2 * kk + 1) (-1)) 121 20 (kk + 1), ?_, fun k k1 k2 => ?_, Or.inl ⟨rfl, Or.inr z1, ?_⟩⟩
      · unfold F_X11_readsHouse
        rw [e3, e20, xw_sm (x := nh + kk) (by omega) (by omega), if_neg z, num_0 h z1]
        simp only [xbp_s, xbd_s, xls, xli, xlt, xjn]
        rw [xgd_t (by omega), xgd_t (by omega), xu_same, if_pos (by decide), xgd_t (by omega), xgd_t (by omega)]
        have e : (xu (xu s 130 (2 * kk) (-1)) 130 (2 * kk + 1) (-1)) 121 20 = kk := by
          rw [xu_row _ _ _ (show (121 : Int) ≠ 130 by decide), xu_row _ _ _ (show (121 : Int) ≠ 130 by decide)]
          exact e20
        rw [e, xu_row _ _ _ (show (130 : Int) ≠ 121 by decide), xu_same, if_neg (by decide), xgd_t (by decide)]
      · rw [xu_slot _ _ _ k2, xu_row _ _ _ (show (121 : Int) ≠ 130 by decide), xu_row _ _ _ (show (121 : Int) ≠ 130 by decide)]
      · exact Xat_o h (by rw [xu_slot _ _ _ (show (16 : Int) ≠ 20 by decide), xu_row _ _ _ (show (121 : Int) ≠ 130 by decide), xu_row _ _ _ (show (121 : Int) ≠ 130 by decide)]) (by rw [xu_slot _ _ _ (show (17 : Int) ≠ 20 by decide), xu_row _ _ _ (show (121 : Int) ≠ 130 by decide), xu_row _ _ _ (show (121 : Int) ≠ 130 by decide)]) (by rw [xu_row _ _ _ (show (129 : Int) ≠ 121 by decide), xu_row _ _ _ (show (129 : Int) ≠ 130 by decide), xu_row _ _ _ (show (129 : Int) ≠ 130 by decide)])
theorem hlines {f : Int → Int} {E nh c lim n : Int} {k : Int → Int → xW → Option (Int × xW)} (hn : 0 ≤ nh ∧ nh ≤ 8) (hE : 0 ≤ c ∧ c ≤ E ∧ E ≤ 23) (hf : ∀ i : Int, 0 ≤ i → i < c → xhfit nh f i) (he : c = E ∨ ¬ xhfit nh f c) :
    ∀ (j kk fu : Nat) (s : xW), 3 * (kk : Int) ≤ c → c < 3 * (kk : Int) + 3 * (j : Int) + 3 → j + 1 < fu → Xat s f (3 * (kk : Int)) E → s 121 3 = nh → s 121 20 = kk → nh + kk ≤ 8 → (∀ i : Int, 0 ≤ i → i < kk → s 130 (2 * i) = f (3 * i) - 48 ∧ s 130 (2 * i + 1) = f (3 * i + 1) - 48) →
    ∃ ok s', F_X11_readsLines_25 1 lim n fu 1 1 s k = k ok 0 s' ∧ Xat s' f c E ∧ (∀ k, k ≠ 16 → k ≠ 20 → s' 121 k = s 121 k) ∧ ((ok = 0 ∧ ¬ c % 3 = 2) ∨ (ok = 1 ∧ c % 3 = 2 ∧ s' 121 20 = (c + 1) / 3 ∧ (∀ i : Int, 0 ≤ i → i < (c + 1) / 3 → s' 130 (2 * i) = f (3 * i) - 48 ∧ s' 130 (2 * i + 1) = f (3 * i + 1) - 48))) := by
  intro j
  induction j with
  | zero =>
    intro kk fu s h1 h2 hfu hs e3 e20 hk hr
    obtain ⟨fu, rfl⟩ : ∃ g, fu = g + 1 + 1 := ⟨fu - 2, by omega⟩
    obtain ⟨r, s1, u1, u2, u3⟩ := readsHouse_m hs e3 e20 hn ⟨by omega, hk⟩
    have hx : ∀ r s', F_X11_readsHouse s = some (r, s') → r = 0 → F_X11_readsLines_25 1 lim n (fu + 1 + 1) 1 1 s k = k 0 0 s' := fun r s' e er => by
      rw [F_X11_readsLines_25, if_pos (show xw 1 ≠ 0 by decide)]
      simp only [xjn]
      rw [if_pos (show xw 1 ≠ 0 by decide), e, er]
      simp only [xbp_s, xbd_s, xls, xli, xlt, xjn]
      rw [if_neg (show ¬ xw 0 ≠ 0 by decide), F_X11_readsLines_25, if_neg (show ¬ xw 0 ≠ 0 by decide)]
    rcases u3 with ⟨w1, w2, w3⟩ | ⟨w1, w2, w3, w4, w5⟩ | ⟨w1, w2, w3, w4, w5, w6, w7⟩
    · have ec : c = 3 * (kk : Int) := by
        by_cases z : 3 * (kk : Int) < c
        · have := hf (3 * kk) (by omega) z
          unfold xhfit at this
          unfold xdg at w2
          omega
        · omega
      refine ⟨0, s1, hx r s1 u1 w1, by rw [ec]; exact w3, u2, Or.inl ⟨rfl, by omega⟩⟩
    · have ec : c = 3 * (kk : Int) + 1 := by
        by_cases z : 3 * (kk : Int) + 1 < c
        · have := hf (3 * kk + 1) (by omega) z
          unfold xhfit at this
          unfold xdg at w4
          omega
        · by_cases z2 : c = 3 * (kk : Int)
          · unfold xdg at w3
            rcases he with he | he
            · omega
            · rw [z2] at he
              unfold xhfit at he
              omega
          · omega
      refine ⟨0, s1, hx r s1 u1 w1, by rw [ec]; exact w5, u2, Or.inl ⟨rfl, by omega⟩⟩
    · have ec : c = 3 * (kk : Int) + 2 := by
        by_cases z2 : c = 3 * (kk : Int)
        · unfold xdg at w3
          rcases he with he | he
          · omega
          · rw [z2] at he
            unfold xhfit at he
            omega
        · by_cases z3 : c = 3 * (kk : Int) + 1
          · unfold xdg at w4
            rcases he with he | he
            · omega
            · rw [z3] at he
              unfold xhfit at he
              omega
          · omega
      have hno : ¬ (3 * (kk : Int) + 2 < E ∧ f (3 * (kk : Int) + 2) = 59) := fun w => by
        rcases he with he | he
        · omega
        · rw [ec] at he
          unfold xhfit at he
          omega
      have et := takesSign_m (a := 59) w5 (by decide)
      rw [if_neg hno] at et
      refine ⟨1, xu s1 121 16 (3 * (kk : Int) + 2), ?_, by rw [ec]; exact Xat_u w5 (by omega), fun k k1 k2 => by rw [xu_slot _ _ _ k1]; exact u2 k k1 k2, Or.inr ⟨rfl, by omega, by rw [xu_slot _ _ _ (show (20 : Int) ≠ 16 by decide), w6]; omega, fun i i1 i2 => ?_⟩⟩
      · rw [F_X11_readsLines_25, if_pos (show xw 1 ≠ 0 by decide)]
        simp only [xjn]
        rw [if_pos (show xw 1 ≠ 0 by decide), u1, w1]
        simp only [xbp_s, xbd_s, xls, xli, xlt, xjn]
        rw [if_pos (show xw 1 ≠ 0 by decide), et]
        simp only [xbp_s, xbd_s, xls, xli, xlt, xjn]
        rw [if_neg (show ¬ xw 0 ≠ 0 by decide), F_X11_readsLines_25, if_neg (show ¬ xw 0 ≠ 0 by decide)]
      · rw [xu_row _ _ _ (show (130 : Int) ≠ 121 by decide), w7, w7]
        by_cases z : i = kk
        · rw [z, if_pos rfl, if_neg (by omega), if_pos rfl]
          exact ⟨rfl, rfl⟩
        · rw [if_neg (by omega), if_neg (by omega), if_neg (by omega), if_neg (by omega)]
          exact hr i i1 (by omega)
  | succ j ih =>
    intro kk fu s h1 h2 hfu hs e3 e20 hk hr
    by_cases zc : c < 3 * (kk : Int) + 3
    · -- as above: one more line is asked for, but it is the last
      obtain ⟨fu, rfl⟩ : ∃ g, fu = g + 1 + 1 := ⟨fu - 2, by omega⟩
      obtain ⟨r, s1, u1, u2, u3⟩ := readsHouse_m hs e3 e20 hn ⟨by omega, hk⟩
      have hx : ∀ r s', F_X11_readsHouse s = some (r, s') → r = 0 → F_X11_readsLines_25 1 lim n (fu + 1 + 1) 1 1 s k = k 0 0 s' := fun r s' e er => by
        rw [F_X11_readsLines_25, if_pos (show xw 1 ≠ 0 by decide)]
        simp only [xjn]
        rw [if_pos (show xw 1 ≠ 0 by decide), e, er]
        simp only [xbp_s, xbd_s, xls, xli, xlt, xjn]
        rw [if_neg (show ¬ xw 0 ≠ 0 by decide), F_X11_readsLines_25, if_neg (show ¬ xw 0 ≠ 0 by decide)]
      rcases u3 with ⟨w1, w2, w3⟩ | ⟨w1, w2, w3, w4, w5⟩ | ⟨w1, w2, w3, w4, w5, w6, w7⟩
      · have ec : c = 3 * (kk : Int) := by
          by_cases z : 3 * (kk : Int) < c
          · have := hf (3 * kk) (by omega) z
            unfold xhfit at this
            unfold xdg at w2
            omega
          · omega
        refine ⟨0, s1, hx r s1 u1 w1, by rw [ec]; exact w3, u2, Or.inl ⟨rfl, by omega⟩⟩
      · have ec : c = 3 * (kk : Int) + 1 := by
          by_cases z : 3 * (kk : Int) + 1 < c
          · have := hf (3 * kk + 1) (by omega) z
            unfold xhfit at this
            unfold xdg at w4
            omega
          · by_cases z2 : c = 3 * (kk : Int)
            · unfold xdg at w3
              rcases he with he | he
              · omega
              · rw [z2] at he
                unfold xhfit at he
                omega
            · omega
        refine ⟨0, s1, hx r s1 u1 w1, by rw [ec]; exact w5, u2, Or.inl ⟨rfl, by omega⟩⟩
      · have ec : c = 3 * (kk : Int) + 2 := by
          by_cases z2 : c = 3 * (kk : Int)
          · unfold xdg at w3
            rcases he with he | he
            · omega
            · rw [z2] at he
              unfold xhfit at he
              omega
          · by_cases z3 : c = 3 * (kk : Int) + 1
            · unfold xdg at w4
              rcases he with he | he
              · omega
              · rw [z3] at he
                unfold xhfit at he
                omega
            · omega
        have hno : ¬ (3 * (kk : Int) + 2 < E ∧ f (3 * (kk : Int) + 2) = 59) := fun w => by
          rcases he with he | he
          · omega
          · rw [ec] at he
            unfold xhfit at he
            omega
        have et := takesSign_m (a := 59) w5 (by decide)
        rw [if_neg hno] at et
        refine ⟨1, xu s1 121 16 (3 * (kk : Int) + 2), ?_, by rw [ec]; exact Xat_u w5 (by omega), fun k k1 k2 => by rw [xu_slot _ _ _ k1]; exact u2 k k1 k2, Or.inr ⟨rfl, by omega, by rw [xu_slot _ _ _ (show (20 : Int) ≠ 16 by decide), w6]; omega, fun i i1 i2 => ?_⟩⟩
        · rw [F_X11_readsLines_25, if_pos (show xw 1 ≠ 0 by decide)]
          simp only [xjn]
          rw [if_pos (show xw 1 ≠ 0 by decide), u1, w1]
          simp only [xbp_s, xbd_s, xls, xli, xlt, xjn]
          rw [if_pos (show xw 1 ≠ 0 by decide), et]
          simp only [xbp_s, xbd_s, xls, xli, xlt, xjn]
          rw [if_neg (show ¬ xw 0 ≠ 0 by decide), F_X11_readsLines_25, if_neg (show ¬ xw 0 ≠ 0 by decide)]
        · rw [xu_row _ _ _ (show (130 : Int) ≠ 121 by decide), w7, w7]
          by_cases z : i = kk
          · rw [z, if_pos rfl, if_neg (by omega), if_pos rfl]
            exact ⟨rfl, rfl⟩
          · rw [if_neg (by omega), if_neg (by omega), if_neg (by omega), if_neg (by omega)]
            exact hr i i1 (by omega)
    · obtain ⟨fu, rfl⟩ : ∃ g, fu = g + 1 := ⟨fu - 1, by omega⟩
      have g0 := hf (3 * kk) (by omega) (by omega)
      have g1 := hf (3 * kk + 1) (by omega) (by omega)
      have g2 := hf (3 * kk + 2) (by omega) (by omega)
      unfold xhfit at g0 g1 g2
      obtain ⟨r, s1, u1, u2, u3⟩ := readsHouse_m hs e3 e20 hn ⟨by omega, hk⟩
      rcases u3 with ⟨w1, w2, w3⟩ | ⟨w1, w2, w3, w4, w5⟩ | ⟨w1, w2, w3, w4, w5, w6, w7⟩
      · unfold xdg at w2
        omega
      · unfold xdg at w4
        omega
      · have et := takesSign_m (a := 59) w5 (by decide)
        rw [if_pos (by omega)] at et
        obtain ⟨ok, s', v1, v2, v3, v4⟩ := ih (kk + 1) fu (xu s1 121 16 (3 * (kk : Int) + 2 + 1)) (by omega) (by omega) (by omega) (by
          have := Xat_u (q := 3 * (kk : Int) + 2 + 1) w5 (by omega)
          rw [show 3 * ((kk + 1 : Nat) : Int) = 3 * (kk : Int) + 2 + 1 by omega]
          exact this) (by rw [xu_slot _ _ _ (show (3 : Int) ≠ 16 by decide), u2 3 (by decide) (by decide)]; exact e3) (by rw [xu_slot _ _ _ (show (20 : Int) ≠ 16 by decide), w6]; omega) (by omega) (fun i i1 i2 => by
          rw [xu_row _ _ _ (show (130 : Int) ≠ 121 by decide), w7, w7]
          by_cases z : i = kk
          · rw [z, if_pos rfl, if_neg (by omega), if_pos rfl]
            exact ⟨rfl, rfl⟩
          · rw [if_neg (by omega), if_neg (by omega), if_neg (by omega), if_neg (by omega)]
            exact hr i i1 (by omega))
        refine ⟨ok, s', ?_, v2, fun k k1 k2 => by rw [v3 k k1 k2, xu_slot _ _ _ k1]; exact u2 k k1 k2, v4⟩
        rw [F_X11_readsLines_25, if_pos (show xw 1 ≠ 0 by decide)]
        simp only [xjn]
        rw [if_pos (show xw 1 ≠ 0 by decide), u1, w1]
        simp only [xbp_s, xbd_s, xls, xli, xlt, xjn]
        rw [if_pos (show xw 1 ≠ 0 by decide), et]
        simp only [xbp_s, xbd_s, xls, xli, xlt, xjn]
        rw [if_pos (show xw 1 ≠ 0 by decide)]
        exact v1
