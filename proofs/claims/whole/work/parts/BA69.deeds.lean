/-! deeds: a line of the reference -/
theorem readsDeed_m {nh nd : Int} {f : Int → Int} {E p : Nat} {kk m0 : Int} {s : xW} (hnh : 0 ≤ nh ∧ nh ≤ 8) (hd : 0 ≤ nd ∧ nd ≤ 8) (hE : E ≤ 80) (hs : Xat s f (p : Int) (E : Int)) (e3 : s 121 3 = nh) (e4 : s 121 4 = nd) (e20 : s 121 20 = kk) (hdd : xdd nh nd f p = some (kk, 0, m0)) (hr : ∀ x : Int, 0 ≤ x → x < 3 * kk → s 130 x = xdt nh nd f p x) :
    ∃ (r : Int) (s' : xW) (q : Nat) (part m : Int), F_X11_readsDeed s = some (r, s') ∧ p ≤ q ∧ Xat s' f (q : Int) (E : Int) ∧ xdd nh nd f q = some (kk, part, m) ∧ (∀ k, k ≠ 16 → k ≠ 20 → s' 121 k = s 121 k) ∧
      ((r = 0 ∧ part ≤ 2 ∧ (q = E ∨ xdd nh nd f (q + 1) = none)) ∨ (r = 1 ∧ 2 < part ∧ s' 121 20 = kk + 1 ∧ (∀ x : Int, 0 ≤ x → x < 3 * kk + 3 → s' 130 x = xdt nh nd f q x) ∧ (q = E ∨ f q = 59 ∨ xdd nh nd f (q + 1) = none))) := by
  have hN := xN_ge
  have hX := Xds_i hd p _ hdd
  have hk0 : 0 ≤ kk := hX.1
  have hk8 : nd + kk ≤ 8 := hX.2.2.1
  have hp := hs.2.2.1
  by_cases z : nd + kk = 8
  · refine ⟨0, s, p, 0, m0, ?_, Nat.le_refl _, hs, hdd, fun _ _ _ => rfl, Or.inl ⟨rfl, by omega, Or.inr ?_⟩⟩
    · unfold F_X11_readsDeed
      rw [e4, e20, z, if_pos (by decide)]
    · rw [xdd_s hdd]
      unfold xdst
      simp only
      rw [if_neg (by omega), if_pos (by omega)]
  · by_cases z1 : (p : Int) < E ∧ 0 ≤ f p - 48 ∧ f p - 48 ≤ nh - 1
    · have hst1 : xdd nh nd f (p + 1) = some (kk, 1, 0) := by
        rw [xdd_s hdd]
        unfold xdst
        simp only
        rw [if_neg (by omega), if_neg (by omega), if_pos trivial, if_pos (by omega)]
      have hdt1 : ∀ x : Int, xdt nh nd f (p + 1) x = if x = 3 * kk then f p - 48 else if x = 3 * kk + 2 then 0 else xdt nh nd f p x := fun x => by
        rw [xdt_s hdd]
        unfold xdtb
        simp only
        rw [if_pos trivial]
      have h1 : Xat (xu (xu s 121 16 ((p : Int) + 1)) 130 (3 * kk) (f p - 48)) f ((p + 1 : Nat) : Int) (E : Int) := by
        have := Xat_u (q := (p : Int) + 1) hs (by omega)
        rw [show ((p + 1 : Nat) : Int) = (p : Int) + 1 by omega]
        exact Xat_o this (by rw [xu_row _ _ _ (show (121 : Int) ≠ 130 by decide)]) (by rw [xu_row _ _ _ (show (121 : Int) ≠ 130 by decide)]) (by rw [xu_row _ _ _ (show (129 : Int) ≠ 130 by decide)])
      have q0 := hs.2.2.2 p (by omega) z1.1
      by_cases z2 : ((p + 1 : Nat) : Int) < E ∧ 1 ≤ f ((p + 1 : Nat) : Int) - 48 ∧ f ((p + 1 : Nat) : Int) - 48 ≤ 9
      · have hst2 : xdd nh nd f (p + 1 + 1) = some (kk, 2, 0) := by
          rw [xdd_s hst1]
          unfold xdst
          simp only
          rw [if_neg (by omega), if_neg (by omega), if_neg (by omega), if_pos trivial, if_pos (by omega)]
        have hdt2 : ∀ x : Int, xdt nh nd f (p + 1 + 1) x = if x = 3 * kk + 1 then f ((p + 1 : Nat) : Int) - 48 else xdt nh nd f (p + 1) x := fun x => by
          rw [xdt_s hst1]
          unfold xdtb
          simp only
          rw [if_neg (by decide), if_pos trivial]
        have q1 := hs.2.2.2 ((p + 1 : Nat) : Int) (by omega) z2.1
        obtain ⟨s2, hs2⟩ : ∃ s2, s2 = xu (xu (xu (xu (xu s 121 16 ((p : Int) + 1)) 130 (3 * kk) (f p - 48)) 121 16 (((p + 1 : Nat) : Int) + 1)) 130 (3 * kk + 1) (f ((p + 1 : Nat) : Int) - 48)) 130 (3 * kk + 2) 0 := ⟨_, rfl⟩
        have h2 : Xat s2 f ((p + 1 + 1 : Nat) : Int) (E : Int) := by
          have := Xat_u (q := ((p + 1 : Nat) : Int) + 1) h1 (by omega)
          rw [show ((p + 1 + 1 : Nat) : Int) = ((p + 1 : Nat) : Int) + 1 by omega]
          exact Xat_o this (by rw [hs2, xu_row _ _ _ (show (121 : Int) ≠ 130 by decide), xu_row _ _ _ (show (121 : Int) ≠ 130 by decide)]) (by rw [hs2, xu_row _ _ _ (show (121 : Int) ≠ 130 by decide), xu_row _ _ _ (show (121 : Int) ≠ 130 by decide)]) (by rw [hs2, xu_row _ _ _ (show (129 : Int) ≠ 130 by decide), xu_row _ _ _ (show (129 : Int) ≠ 130 by decide)])
        have k121 : ∀ k, k ≠ 16 → s2 121 k = s 121 k := fun k k1 => by
          rw [hs2, xu_row _ _ _ (show (121 : Int) ≠ 130 by decide), xu_row _ _ _ (show (121 : Int) ≠ 130 by decide), xu_slot _ _ _ k1, xu_row _ _ _ (show (121 : Int) ≠ 130 by decide), xu_slot _ _ _ k1]
        have k130 : ∀ x : Int, s2 130 x = if x = 3 * kk + 2 then 0 else if x = 3 * kk + 1 then f ((p + 1 : Nat) : Int) - 48 else if x = 3 * kk then f p - 48 else s 130 x := fun x => by
          rw [hs2]
          by_cases w1 : x = 3 * kk + 2
          · rw [if_pos w1, w1, xu_same]
          · rw [if_neg w1, xu_slot _ _ _ w1]
            by_cases w2 : x = 3 * kk + 1
            · rw [if_pos w2, w2, xu_same]
            · rw [if_neg w2, xu_slot _ _ _ w2, xu_row _ _ _ (show (130 : Int) ≠ 121 by decide)]
              by_cases w3 : x = 3 * kk
              · rw [if_pos w3, w3, xu_same]
              · rw [if_neg w3, xu_slot _ _ _ w3, xu_row _ _ _ (show (130 : Int) ≠ 121 by decide)]
        have k131 : s2 130 (3 * kk + 1) = f ((p + 1 : Nat) : Int) - 48 := by rw [k130, if_neg (by omega), if_pos rfl]
        obtain ⟨q', s', l', part', m', g1, g2, g3, g4, g5, g6, g7, g8, g9, g10⟩ := deed_96 (nh := nh) (nd := nd) (kk := kk) (f := f) (E := E) (K := fun (l2_53 : Int) (l3_54 : Int) (s55 : xW) =>
          xls (xu s55 121 20 ((s55 121 20) + 1)) fun s56 =>
          xgd (0 ≤ ((3 * kk) + 2) ∧ ((3 * kk) + 2) < 24) <|
          xli (if 0 < (xw (s56 130 ((3 * kk) + 2))) then 1 else 0) fun v60 =>
          xgd (v60 = 0 ∨ v60 = 1) <|
          some (v60, s56)) hd ⟨hk0, by omega⟩ E (p + 1 + 1) xN s2 (-1) 2 0 (by omega) (by omega) h2 hst2 (by omega) (by rw [k130, if_pos rfl]) (by omega) (fun e e1 e2 => by
            rcases (by omega : e = 0 ∨ e = 1 ∨ e = 2 ∨ e = 3) with rfl | rfl | rfl | rfl <;> decide)
        have hX' := Xds_i hd q' _ g4
        have hm' : 0 ≤ m' ∧ m' ≤ 15 := hX'.2.2.2.2.1
        have hm0 : part' ≤ 2 → m' = 0 := hX'.2.2.2.2.2.1
        have hm1 : 2 < part' → 1 ≤ m' := hX'.2.2.2.2.2.2.1
        have hT : xdt nh nd f q' (3 * kk + 2) = m' := (hX'.2.2.2.2.2.2.2.2.1 (show 1 ≤ part' by omega)).2.2
        have eF : F_X11_readsDeed s = some (if 0 < m' then 1 else 0, xu s' 121 20 (kk + 1)) := by
          unfold F_X11_readsDeed
          rw [e4, e20, e3, xw_sm (x := nd + kk) (by omega) (by omega), if_neg z, digitIn_1 hs (by omega) (by omega) z1]
          simp only [xbp_s, xbd_s, xls, xli, xlt, xjn]
          rw [xgd_t (by omega), xgd_t (by omega), xu_same, xw_sm (x := f p - 48) (by omega) (by omega), if_neg (show ¬ f p - 48 < 0 by omega), digitIn_1 h1 (by omega) (by omega) z2]
          simp only [xbp_s, xbd_s, xls, xli, xlt, xjn]
          rw [xgd_t (by omega), xgd_t (by omega), xgd_t (by omega), ← hs2, k131, xw_sm (x := f ((p + 1 : Nat) : Int) - 48) (by omega) (by omega), if_pos (show 0 < f ((p + 1 : Nat) : Int) - 48 by omega)]
          refine Eq.trans g1 ?_
          simp only [xbp_s, xbd_s, xls, xli, xlt, xjn]
          rw [g9 20 (by decide), k121 20 (by decide), e20, xgd_t (by omega), xu_row _ _ _ (show (130 : Int) ≠ 121 by decide), g6, xw_sm (x := m') (by omega) (by omega), xgd_t (by split <;> decide)]
        have hend : q' = E ∨ (2 < part' ∧ f q' = 59) ∨ xdd nh nd f (q' + 1) = none := by
          by_cases w : (q' : Int) < E
          · by_cases w2 : 2 < part' ∧ f q' = 59
            · exact Or.inr (Or.inl w2)
            · refine Or.inr (Or.inr ?_)
              rw [xdd_s g4]
              unfold xdst
              simp only
              rw [if_neg w2, if_neg (by omega), if_neg (by omega), if_neg (by omega), if_neg (fun u => g10 ⟨w, u⟩)]
          · have := g3.2.2.1
            exact Or.inl (by omega)
        have hrow : ∀ x : Int, 0 ≤ x → x < 3 * kk + 3 → (xu s' 121 20 (kk + 1)) 130 x = xdt nh nd f q' x := fun x x1 x2 => by
          rw [xu_row _ _ _ (show (130 : Int) ≠ 121 by decide)]
          by_cases w1 : x = 3 * kk + 2
          · rw [w1, g6, hT]
          · rw [g7 x w1, g8 x w1, hdt2 x, hdt1 x, k130 x, if_neg w1]
            by_cases w2 : x = 3 * kk + 1
            · rw [if_pos w2, if_pos w2]
            · rw [if_neg w2, if_neg w2]
              by_cases w3 : x = 3 * kk
              · rw [if_pos w3, if_pos w3]
              · rw [if_neg w3, if_neg w3, if_neg w1]
                exact hr x x1 (by omega)
        have hat : Xat (xu s' 121 20 (kk + 1)) f (q' : Int) (E : Int) := Xat_o g3 (by rw [xu_slot _ _ _ (show (16 : Int) ≠ 20 by decide)]) (by rw [xu_slot _ _ _ (show (17 : Int) ≠ 20 by decide)]) (by rw [xu_row _ _ _ (show (129 : Int) ≠ 121 by decide)])
        have hks : ∀ k, k ≠ 16 → k ≠ 20 → (xu s' 121 20 (kk + 1)) 121 k = s 121 k := fun k k1 k2 => by rw [xu_slot _ _ _ k2, g9 k k1, k121 k k1]
        by_cases w : 0 < m'
        · rw [if_pos w] at eF
          have hp2 : 2 < part' := by
            by_cases u : part' ≤ 2
            · have := hm0 u; omega
            · omega
          exact ⟨1, _, q', part', m', eF, by omega, hat, g4, hks, Or.inr ⟨rfl, hp2, xu_same _ _ _ _, hrow, by rcases hend with u | u | u; exact Or.inl u; exact Or.inr (Or.inl u.2); exact Or.inr (Or.inr u)⟩⟩
        · rw [if_neg w] at eF
          have hp2 : part' ≤ 2 := by
            by_cases u : 2 < part'
            · have := hm1 u; omega
            · omega
          exact ⟨0, _, q', part', m', eF, by omega, hat, g4, hks, Or.inl ⟨rfl, hp2, by rcases hend with u | u | u; exact Or.inl u; omega; exact Or.inr u⟩⟩
      · -- no length
        obtain ⟨s2, hs2⟩ : ∃ s2, s2 = xu (xu (xu (xu s 121 16 ((p : Int) + 1)) 130 (3 * kk) (f p - 48)) 130 (3 * kk + 1) (-1)) 130 (3 * kk + 2) 0 := ⟨_, rfl⟩
        have h2 : Xat s2 f ((p + 1 : Nat) : Int) (E : Int) := Xat_o h1 (by rw [hs2, xu_row _ _ _ (show (121 : Int) ≠ 130 by decide), xu_row _ _ _ (show (121 : Int) ≠ 130 by decide)]) (by rw [hs2, xu_row _ _ _ (show (121 : Int) ≠ 130 by decide), xu_row _ _ _ (show (121 : Int) ≠ 130 by decide)]) (by rw [hs2, xu_row _ _ _ (show (129 : Int) ≠ 130 by decide), xu_row _ _ _ (show (129 : Int) ≠ 130 by decide)])
        have k121 : ∀ k, k ≠ 16 → s2 121 k = s 121 k := fun k k1 => by
          rw [hs2, xu_row _ _ _ (show (121 : Int) ≠ 130 by decide), xu_row _ _ _ (show (121 : Int) ≠ 130 by decide), xu_row _ _ _ (show (121 : Int) ≠ 130 by decide), xu_slot _ _ _ k1]
        have eF : F_X11_readsDeed s = some (0, xu s2 121 20 (kk + 1)) := by
          obtain ⟨g, hg, _⟩ := xN_s
          unfold F_X11_readsDeed
          rw [e4, e20, e3, xw_sm (x := nd + kk) (by omega) (by omega), if_neg z, digitIn_1 hs (by omega) (by omega) z1]
          simp only [xbp_s, xbd_s, xls, xli, xlt, xjn]
          rw [xgd_t (by omega), xgd_t (by omega), xu_same, xw_sm (x := f p - 48) (by omega) (by omega), if_neg (show ¬ f p - 48 < 0 by omega), digitIn_0 h1 (by omega) (by omega) z2]
          simp only [xbp_s, xbd_s, xls, xli, xlt, xjn]
          rw [xgd_t (by omega), xgd_t (by omega), xgd_t (by omega), ← hs2]
          have k1 : s2 130 (3 * kk + 1) = -1 := by rw [hs2, xu_slot _ _ _ (show 3 * kk + 1 ≠ 3 * kk + 2 by omega), xu_same]
          have k2 : s2 130 (3 * kk + 2) = 0 := by rw [hs2, xu_same]
          rw [k1, if_neg (show ¬ 0 < xw (-1) by decide), hg, F_X11_readsDeed_96, if_neg (show ¬ xw 0 ≠ 0 by decide), k121 20 (by decide), e20, xgd_t (by omega), xu_row _ _ _ (show (130 : Int) ≠ 121 by decide), k2, if_neg (show ¬ 0 < xw 0 by decide), xgd_t (by decide)]
        refine ⟨0, _, p + 1, 1, 0, eF, by omega, Xat_o h2 (by rw [xu_slot _ _ _ (show (16 : Int) ≠ 20 by decide)]) (by rw [xu_slot _ _ _ (show (17 : Int) ≠ 20 by decide)]) (by rw [xu_row _ _ _ (show (129 : Int) ≠ 121 by decide)]), hst1, fun k k1 k2 => by rw [xu_slot _ _ _ k2, k121 k k1], Or.inl ⟨rfl, by omega, ?_⟩⟩
        by_cases w : ((p + 1 : Nat) : Int) < E
        · refine Or.inr ?_
          rw [xdd_s hst1]
          unfold xdst
          simp only
          rw [if_neg (by omega), if_neg (by omega), if_neg (by omega), if_pos trivial, if_neg (by omega)]
        · exact Or.inl (by omega)
    · -- no house
      obtain ⟨s2, hs2⟩ : ∃ s2, s2 = xu (xu (xu s 130 (3 * kk) (-1)) 130 (3 * kk + 1) (-1)) 130 (3 * kk + 2) 0 := ⟨_, rfl⟩
      have h2 : Xat s2 f (p : Int) (E : Int) := Xat_o hs (by rw [hs2, xu_row _ _ _ (show (121 : Int) ≠ 130 by decide), xu_row _ _ _ (show (121 : Int) ≠ 130 by decide), xu_row _ _ _ (show (121 : Int) ≠ 130 by decide)]) (by rw [hs2, xu_row _ _ _ (show (121 : Int) ≠ 130 by decide), xu_row _ _ _ (show (121 : Int) ≠ 130 by decide), xu_row _ _ _ (show (121 : Int) ≠ 130 by decide)]) (by rw [hs2, xu_row _ _ _ (show (129 : Int) ≠ 130 by decide), xu_row _ _ _ (show (129 : Int) ≠ 130 by decide), xu_row _ _ _ (show (129 : Int) ≠ 130 by decide)])
      have k121 : ∀ k, s2 121 k = s 121 k := fun k => by
        rw [hs2, xu_row _ _ _ (show (121 : Int) ≠ 130 by decide), xu_row _ _ _ (show (121 : Int) ≠ 130 by decide), xu_row _ _ _ (show (121 : Int) ≠ 130 by decide)]
      have eF : F_X11_readsDeed s = some (0, xu s2 121 20 (kk + 1)) := by
        obtain ⟨g, hg, _⟩ := xN_s
        unfold F_X11_readsDeed
        rw [e4, e20, e3, xw_sm (x := nd + kk) (by omega) (by omega), if_neg z, digitIn_0 hs (by omega) (by omega) z1]
        simp only [xbp_s, xbd_s, xls, xli, xlt, xjn]
        rw [xgd_t (by omega), xgd_t (by omega), xu_same, if_pos (show xw (-1) < 0 by decide), xgd_t (by omega), xgd_t (by omega), xgd_t (by omega), ← hs2]
        have k1 : s2 130 (3 * kk + 1) = -1 := by rw [hs2, xu_slot _ _ _ (show 3 * kk + 1 ≠ 3 * kk + 2 by omega), xu_same]
        have k2 : s2 130 (3 * kk + 2) = 0 := by rw [hs2, xu_same]
        rw [k1, if_neg (show ¬ 0 < xw (-1) by decide), hg, F_X11_readsDeed_96, if_neg (show ¬ xw 0 ≠ 0 by decide), k121 20, e20, xgd_t (by omega), xu_row _ _ _ (show (130 : Int) ≠ 121 by decide), k2, if_neg (show ¬ 0 < xw 0 by decide), xgd_t (by decide)]
      refine ⟨0, _, p, 0, m0, eF, Nat.le_refl _, Xat_o h2 (by rw [xu_slot _ _ _ (show (16 : Int) ≠ 20 by decide)]) (by rw [xu_slot _ _ _ (show (17 : Int) ≠ 20 by decide)]) (by rw [xu_row _ _ _ (show (129 : Int) ≠ 121 by decide)]), hdd, fun k k1 k2 => by rw [xu_slot _ _ _ k2, k121 k], Or.inl ⟨rfl, by omega, ?_⟩⟩
      by_cases w : (p : Int) < E
      · refine Or.inr ?_
        rw [xdd_s hdd]
        unfold xdst
        simp only
        rw [if_neg (by omega), if_neg (by omega), if_pos trivial, if_neg (by omega)]
      · exact Or.inl (by omega)
theorem dlines {nh nd lim n : Int} {f : Int → Int} {E : Nat} {k : Int → Int → xW → Option (Int × xW)} (hnh : 0 ≤ nh ∧ nh ≤ 8) (hd : 0 ≤ nd ∧ nd ≤ 8) (hE : E ≤ 80) :
    ∀ (j p fu : Nat) (kk m0 : Int) (s : xW), E ≤ p + j → j + 1 < fu → Xat s f (p : Int) (E : Int) → s 121 3 = nh → s 121 4 = nd → s 121 20 = kk → xdd nh nd f p = some (kk, 0, m0) → (∀ x : Int, 0 ≤ x → x < 3 * kk → s 130 x = xdt nh nd f p x) →
    ∃ (ok : Int) (s' : xW) (c : Nat) (st : Int × Int × Int), F_X11_readsLines_25 0 lim n fu 1 1 s k = k ok 0 s' ∧ c ≤ E ∧ Xat s' f (c : Int) (E : Int) ∧ xdd nh nd f c = some st ∧ (c = E ∨ xdd nh nd f (c + 1) = none) ∧ (∀ k, k ≠ 16 → k ≠ 20 → s' 121 k = s 121 k) ∧ ((ok = 0 ∧ st.2.1 ≤ 2) ∨ (ok = 1 ∧ 2 < st.2.1 ∧ s' 121 20 = st.1 + 1 ∧ (∀ x : Int, 0 ≤ x → x < 3 * st.1 + 3 → s' 130 x = xdt nh nd f c x))) := by
  intro j
  induction j with
  | zero =>
    intro p fu kk m0 s hj hfu hs e3 e4 e20 hdd hr
    obtain ⟨fu, rfl⟩ : ∃ g, fu = g + 1 + 1 := ⟨fu - 2, by omega⟩
    obtain ⟨r, s1, q, part, m, u1, u2, u3, u4, u5, u6⟩ := readsDeed_m hnh hd hE hs e3 e4 e20 hdd hr
    have hq := u3.2.2.1
    rcases u6 with ⟨w1, w2, w3⟩ | ⟨w1, w2, w3, w4, w5⟩
    · refine ⟨0, s1, q, _, ?_, by omega, u3, u4, w3, u5, Or.inl ⟨rfl, w2⟩⟩
      rw [F_X11_readsLines_25, if_pos (show xw 1 ≠ 0 by decide)]
      simp only [xjn]
      rw [if_neg (show ¬ xw 0 ≠ 0 by decide), u1, w1]
      simp only [xbp_s, xbd_s, xls, xli, xlt, xjn]
      rw [if_neg (show ¬ xw 0 ≠ 0 by decide), F_X11_readsLines_25, if_neg (show ¬ xw 0 ≠ 0 by decide)]
    · have et := takesSign_m (a := 59) u3 (by decide)
      rw [if_neg (by omega)] at et
      refine ⟨1, xu s1 121 16 (q : Int), q, _, ?_, by omega, Xat_u u3 (by omega), u4, Or.inl (by omega), fun k k1 k2 => by rw [xu_slot _ _ _ k1]; exact u5 k k1 k2, Or.inr ⟨rfl, w2, by rw [xu_slot _ _ _ (show (20 : Int) ≠ 16 by decide)]; exact w3, fun x x1 x2 => by rw [xu_row _ _ _ (show (130 : Int) ≠ 121 by decide)]; exact w4 x x1 x2⟩⟩
      rw [F_X11_readsLines_25, if_pos (show xw 1 ≠ 0 by decide)]
      simp only [xjn]
      rw [if_neg (show ¬ xw 0 ≠ 0 by decide), u1, w1]
      simp only [xbp_s, xbd_s, xls, xli, xlt, xjn]
      rw [if_pos (show xw 1 ≠ 0 by decide), et]
      simp only [xbp_s, xbd_s, xls, xli, xlt, xjn]
      rw [if_neg (show ¬ xw 0 ≠ 0 by decide), F_X11_readsLines_25, if_neg (show ¬ xw 0 ≠ 0 by decide)]
  | succ j ih =>
    intro p fu kk m0 s hj hfu hs e3 e4 e20 hdd hr
    obtain ⟨fu, rfl⟩ : ∃ g, fu = g + 1 + 1 := ⟨fu - 2, by omega⟩
    obtain ⟨r, s1, q, part, m, u1, u2, u3, u4, u5, u6⟩ := readsDeed_m hnh hd hE hs e3 e4 e20 hdd hr
    have hq := u3.2.2.1
    rcases u6 with ⟨w1, w2, w3⟩ | ⟨w1, w2, w3, w4, w5⟩
    · refine ⟨0, s1, q, _, ?_, by omega, u3, u4, w3, u5, Or.inl ⟨rfl, w2⟩⟩
      rw [F_X11_readsLines_25, if_pos (show xw 1 ≠ 0 by decide)]
      simp only [xjn]
      rw [if_neg (show ¬ xw 0 ≠ 0 by decide), u1, w1]
      simp only [xbp_s, xbd_s, xls, xli, xlt, xjn]
      rw [if_neg (show ¬ xw 0 ≠ 0 by decide), F_X11_readsLines_25, if_neg (show ¬ xw 0 ≠ 0 by decide)]
    · have et := takesSign_m (a := 59) u3 (by decide)
      by_cases z : (q : Int) < E ∧ f (q : Int) = 59
      · rw [if_pos z] at et
        have hdd2 : xdd nh nd f (q + 1) = some (kk + 1, 0, 0) := by
          rw [xdd_s u4]
          unfold xdst
          simp only
          rw [if_pos ⟨w2, z.2⟩]
        have hdt2 : xdt nh nd f (q + 1) = xdt nh nd f q := by
          rw [xdt_s u4]
          unfold xdtb
          simp only
          rw [if_neg (by omega), if_neg (by omega), if_pos ⟨w2, z.2⟩]
        obtain ⟨ok, s', c, st, v1, v2, v3, v4, v5, v6, v7⟩ := ih (q + 1) (fu + 1) (kk + 1) 0 (xu s1 121 16 ((q : Int) + 1)) (by omega) (by omega) (by
          have := Xat_u (q := (q : Int) + 1) u3 (by omega)
          rw [show ((q + 1 : Nat) : Int) = (q : Int) + 1 by omega]
          exact this) (by rw [xu_slot _ _ _ (show (3 : Int) ≠ 16 by decide), u5 3 (by decide) (by decide)]; exact e3) (by rw [xu_slot _ _ _ (show (4 : Int) ≠ 16 by decide), u5 4 (by decide) (by decide)]; exact e4) (by rw [xu_slot _ _ _ (show (20 : Int) ≠ 16 by decide)]; exact w3) hdd2 (fun x x1 x2 => by
          rw [xu_row _ _ _ (show (130 : Int) ≠ 121 by decide), hdt2]
          exact w4 x x1 (by omega))
        refine ⟨ok, s', c, st, ?_, v2, v3, v4, v5, fun k k1 k2 => by rw [v6 k k1 k2, xu_slot _ _ _ k1]; exact u5 k k1 k2, v7⟩
        rw [F_X11_readsLines_25, if_pos (show xw 1 ≠ 0 by decide)]
        simp only [xjn]
        rw [if_neg (show ¬ xw 0 ≠ 0 by decide), u1, w1]
        simp only [xbp_s, xbd_s, xls, xli, xlt, xjn]
        rw [if_pos (show xw 1 ≠ 0 by decide), et]
        simp only [xbp_s, xbd_s, xls, xli, xlt, xjn]
        rw [if_pos (show xw 1 ≠ 0 by decide)]
        exact v1
      · rw [if_neg z] at et
        refine ⟨1, xu s1 121 16 (q : Int), q, _, ?_, by omega, Xat_u u3 (by omega), u4, by rcases w5 with w | w | w; exact Or.inl w; exact Or.inl (by omega); exact Or.inr w, fun k k1 k2 => by rw [xu_slot _ _ _ k1]; exact u5 k k1 k2, Or.inr ⟨rfl, w2, by rw [xu_slot _ _ _ (show (20 : Int) ≠ 16 by decide)]; exact w3, fun x x1 x2 => by rw [xu_row _ _ _ (show (130 : Int) ≠ 121 by decide)]; exact w4 x x1 x2⟩⟩
        rw [F_X11_readsLines_25, if_pos (show xw 1 ≠ 0 by decide)]
        simp only [xjn]
        rw [if_neg (show ¬ xw 0 ≠ 0 by decide), u1, w1]
        simp only [xbp_s, xbd_s, xls, xli, xlt, xjn]
        rw [if_pos (show xw 1 ≠ 0 by decide), et]
        simp only [xbp_s, xbd_s, xls, xli, xlt, xjn]
        rw [if_neg (show ¬ xw 0 ≠ 0 by decide), F_X11_readsLines_25, if_neg (show ¬ xw 0 ≠ 0 by decide)]
