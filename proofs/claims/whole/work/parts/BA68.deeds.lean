/-! deeds: the class's loop, the reference's lines -/
theorem xdd_p {nh nd : Int} {f : Int → Int} : ∀ (i : Nat) (st : Int × Int × Int), xdd nh nd f i = some st → st.2.1 ≤ i ∧ st.1 ≤ i
  | 0, st, h => by
    have e : st = (0, 0, 0) := (Option.some.inj h).symm
    rw [e]
    exact ⟨Int.le_refl _, Int.le_refl _⟩
  | i + 1, st, h => by
    cases z : xdd nh nd f i with
    | none =>
      have := xdd_n z 1
      rw [h] at this
      exact nomatch this
    | some st0 =>
      have ih := xdd_p i st0 z
      rw [xdd_s z] at h
      obtain ⟨k, part, m⟩ := st0
      unfold xdst at h
      simp only at h ih
      by_cases z0 : 2 < part ∧ f i = 59
      · rw [if_pos z0] at h
        injection h with h
        rw [← h]
        simp only
        omega
      · rw [if_neg z0] at h
        by_cases z1 : 8 ≤ nd + k
        · rw [if_pos z1] at h
          exact nomatch h
        · rw [if_neg z1] at h
          by_cases z2 : part = 0
          · rw [if_pos z2] at h
            by_cases z3 : 48 ≤ f i ∧ f i - 48 < nh
            · rw [if_pos z3] at h
              injection h with h
              rw [← h]
              simp only
              omega
            · rw [if_neg z3] at h
              exact nomatch h
          · rw [if_neg z2] at h
            by_cases z3 : part = 1
            · rw [if_pos z3] at h
              by_cases z4 : 49 ≤ f i ∧ f i ≤ 57
              · rw [if_pos z4] at h
                injection h with h
                rw [← h]
                simp only
                omega
              · rw [if_neg z4] at h
                exact nomatch h
            · rw [if_neg z3] at h
              by_cases z4 : (97 ≤ f i ∧ f i ≤ 100) ∧ xshr m (f i - 97) = 0
              · rw [if_pos z4] at h
                injection h with h
                rw [← h]
                simp only
                omega
              · rw [if_neg z4] at h
                exact nomatch h
theorem deeds_loopC {nh nd : Int} {E : Nat} {σ : xW} {K : Int → Int → Int → xW → Option (Int × xW)} (ht : 0 ≤ σ 1 1 ∧ σ 1 1 ≤ 80) (hb : ∀ i : Int, 0 ≤ σ 2 i ∧ σ 2 i ≤ 255) (hnh : σ 0 14 = nh ∧ 0 ≤ nh ∧ nh ≤ 8) (hnd : σ 92 0 = nd ∧ 0 ≤ nd ∧ nd ≤ 8) (hE : (E : Int) = min (σ 1 1) 55) :
    ∀ (j i fu : Nat) (s : xW) (st : Int × Int × Int), i + j = E → j < fu → xdd nh nd (σ 2) i = some st → Xdc σ s nd (xdt nh nd (σ 2) i) st → ∃ (c : Nat) (st' : Int × Int × Int) (s' : xW), c ≤ E ∧ xdd nh nd (σ 2) c = some st' ∧ (c = E ∨ xdd nh nd (σ 2) (c + 1) = none) ∧ (((c : Int) < σ 1 1 ∧ F_X10_readDeeds_6 fu st.1 st.2.1 (i : Int) s K = some (-1 - (c : Int), s') ∧ Xdw σ s' nd) ∨ ((c : Int) = σ 1 1 ∧ F_X10_readDeeds_6 fu st.1 st.2.1 (i : Int) s K = K st'.1 st'.2.1 c s' ∧ Xdc σ s' nd (xdt nh nd (σ 2) c) st')) := by
  intro j
  induction j with
  | zero =>
    intro i fu s st hi hfu hd hc
    obtain ⟨fu, rfl⟩ : ∃ g, fu = g + 1 := ⟨fu - 1, by omega⟩
    have e1 : s 1 = σ 1 := hc.1.1 1 (by decide) (by decide) (by decide)
    refine ⟨i, st, s, by omega, hd, Or.inl (by omega), ?_⟩
    rw [F_X10_readDeeds_6, e1, xw_sm (x := (i : Int)) (by omega) (by omega), xw_sm (x := σ 1 1) (by omega) (by omega)]
    by_cases z : (i : Int) < σ 1 1
    · exact Or.inl ⟨z, by rw [if_pos z, if_pos (by omega)], hc.1⟩
    · exact Or.inr ⟨by omega, by rw [if_neg z], hc⟩
  | succ j ih =>
    intro i fu s st hi hfu hd hc
    obtain ⟨fu, rfl⟩ : ∃ g, fu = g + 1 := ⟨fu - 1, by omega⟩
    have hp := xdd_p i st hd
    rcases deed_step (n := σ 1 1) (i := (i : Int)) (fu := fu) (K := K) ht hb hnh hnd (by omega) (by omega) (Xds_i hnd.2 i st hd) hc with ⟨st', s', u1, u2, u3⟩ | ⟨u1, s', u2, u3⟩
    · obtain ⟨c, st2, s2, v1, v2, v3, v4⟩ := ih (i + 1) fu s' st' (by omega) (by omega) (by rw [xdd_s hd]; exact u1) (by rw [xdt_s hd]; exact u3)
      refine ⟨c, st2, s2, v1, v2, v3, ?_⟩
      rw [u2, show ((i : Int) + 1) = ((i + 1 : Nat) : Int) by omega]
      exact v4
    · exact ⟨i, st, s', by omega, hd, Or.inr (by rw [xdd_s hd]; exact u1), Or.inl ⟨by omega, u2, u3⟩⟩
theorem takes_abcd {s : xW} {f : Int → Int} {p E a : Int} (h : Xat s f p E) (ha : 0 ≤ a ∧ a ≤ 4) : F_X11_takesOf (([97, 98, 99, 100] : List Int).drop a.toNat) s = if p < E ∧ 97 + a ≤ f p ∧ f p ≤ 100 then some (f p - 97 - a, xu s 121 16 (p + 1)) else some (-1, s) := by
  have hN := xN_ge
  obtain ⟨w, hw⟩ : ∃ w, w = ([97, 98, 99, 100] : List Int).drop a.toNat := ⟨_, rfl⟩
  have hl : (w.length : Int) = 4 - a := by
    rw [hw, List.length_drop]
    show (((4 - a.toNat : Nat)) : Int) = 4 - a
    omega
  have hch : ∀ i : Int, 0 ≤ i → i < 4 - a → xch w i = 97 + a + i := fun i i1 i2 => by
    rw [hw]
    rcases (by omega : a = 0 ∨ a = 1 ∨ a = 2 ∨ a = 3 ∨ a = 4) with rfl | rfl | rfl | rfl | rfl
    · rcases (by omega : i = 0 ∨ i = 1 ∨ i = 2 ∨ i = 3) with rfl | rfl | rfl | rfl <;> rfl
    · rcases (by omega : i = 0 ∨ i = 1 ∨ i = 2) with rfl | rfl | rfl <;> rfl
    · rcases (by omega : i = 0 ∨ i = 1) with rfl | rfl <;> rfl
    · rcases (by omega : i = 0) with rfl
      rfl
    · omega
  rw [← hw]
  by_cases z : p < E
  · by_cases z2 : 97 + a ≤ f p ∧ f p ≤ 100
    · rw [if_pos ⟨z, z2⟩]
      unfold F_X11_takesOf
      exact takesOf_l (i0 := f p - 97 - a) h z (by omega) (fun i i1 i2 => by rw [hch i i1 (by omega)]; omega) (by omega) (by rw [hch _ (by omega) (by omega)]; omega) (fun i i1 i2 => by rw [hch i i1 (by omega)]; omega) (f p - 97 - a).toNat 0 xN (by omega) (by omega)
    · rw [if_neg (fun y => z2 y.2)]
      unfold F_X11_takesOf
      exact takesOf_n (k := fun (l2_13 : Int) (s14 : xW) => some (-1, s14)) h z (by omega) (fun i i1 i2 => by rw [hch i i1 (by omega)]; omega) (fun i i1 i2 => by rw [hch i i1 (by omega)]; omega) w.length 0 xN (by omega) (by omega)
  · rw [if_neg (fun y => z y.1)]
    exact takesOf_e h (by omega) z
/-- the letters -/
theorem deed_96 {nh nd kk : Int} {f : Int → Int} {E : Nat} {K : Int → Int → xW → Option (Int × xW)} (hd : 0 ≤ nd ∧ nd ≤ 8) (hk : 0 ≤ kk ∧ nd + kk < 8) :
    ∀ (j q fu : Nat) (s : xW) (l part m : Int), E ≤ q + j → j + 1 < fu → Xat s f (q : Int) (E : Int) → xdd nh nd f q = some (kk, part, m) → 2 ≤ part → s 130 (3 * kk + 2) = m → (-1 ≤ l ∧ l ≤ 3) → (∀ e : Int, 0 ≤ e → e ≤ 3 → (xshr m e = 0 ↔ l < e)) →
    ∃ (q' : Nat) (s' : xW) (l' part' m' : Int), F_X11_readsDeed_96 (3 * kk) fu l 1 s K = K l' 0 s' ∧ q ≤ q' ∧ Xat s' f (q' : Int) (E : Int) ∧ xdd nh nd f q' = some (kk, part', m') ∧ 2 ≤ part' ∧ s' 130 (3 * kk + 2) = m' ∧ (∀ x : Int, x ≠ 3 * kk + 2 → s' 130 x = s 130 x) ∧ (∀ x : Int, x ≠ 3 * kk + 2 → xdt nh nd f q' x = xdt nh nd f q x) ∧ (∀ k, k ≠ 16 → s' 121 k = s 121 k) ∧ ¬ ((q' : Int) < E ∧ (97 ≤ f q' ∧ f q' ≤ 100) ∧ xshr m' (f q' - 97) = 0) := by
  have stop : ∀ (fu : Nat) (q : Nat) (s : xW) (l part m : Int), 1 < fu → Xat s f (q : Int) (E : Int) → xdd nh nd f q = some (kk, part, m) → 2 ≤ part → s 130 (3 * kk + 2) = m → (-1 ≤ l ∧ l ≤ 3) → (∀ e : Int, 0 ≤ e → e ≤ 3 → (xshr m e = 0 ↔ l < e)) → ¬ ((q : Int) < E ∧ 97 + (l + 1) ≤ f q ∧ f q ≤ 100) → ∃ (q' : Nat) (s' : xW) (l' part' m' : Int), F_X11_readsDeed_96 (3 * kk) fu l 1 s K = K l' 0 s' ∧ q ≤ q' ∧ Xat s' f (q' : Int) (E : Int) ∧ xdd nh nd f q' = some (kk, part', m') ∧ 2 ≤ part' ∧ s' 130 (3 * kk + 2) = m' ∧ (∀ x : Int, x ≠ 3 * kk + 2 → s' 130 x = s 130 x) ∧ (∀ x : Int, x ≠ 3 * kk + 2 → xdt nh nd f q' x = xdt nh nd f q x) ∧ (∀ k, k ≠ 16 → s' 121 k = s 121 k) ∧ ¬ ((q' : Int) < E ∧ (97 ≤ f q' ∧ f q' ≤ 100) ∧ xshr m' (f q' - 97) = 0) := by
    intro fu q s l part m hfu hs hdd hp hm hl hx hno
    obtain ⟨fu, rfl⟩ : ∃ g, fu = g + 1 + 1 := ⟨fu - 2, by omega⟩
    have hxs := Xds_i hd q _ hdd
    have hmb : 0 ≤ m ∧ m ≤ 15 := hxs.2.2.2.2.1
    refine ⟨q, xu s 130 (3 * kk + 2) m, l, part, m, ?_, Nat.le_refl _, Xat_o hs (by rw [xu_row _ _ _ (show (121 : Int) ≠ 130 by decide)]) (by rw [xu_row _ _ _ (show (121 : Int) ≠ 130 by decide)]) (by rw [xu_row _ _ _ (show (129 : Int) ≠ 130 by decide)]), hdd, hp, xu_same _ _ _ _, fun x x1 => xu_slot _ _ _ x1, fun _ _ => rfl, fun k _ => by rw [xu_row _ _ _ (show (121 : Int) ≠ 130 by decide)], fun w => hno ⟨w.1, ?_, w.2.1.2⟩⟩
    · rw [F_X11_readsDeed_96, if_pos (show xw 1 ≠ 0 by decide), xgd_t (show 0 ≤ l + 1 ∧ l + 1 ≤ (([97, 98, 99, 100] : List Int).length : Int) from ⟨by omega, by show l + 1 ≤ 4; omega⟩), takes_abcd hs (by omega), if_neg hno]
      simp only [xbp_s, xbd_s, xls, xli, xlt, xjn]
      rw [if_neg (show ¬ 0 ≤ xw (-1) by decide), if_neg (show ¬ xw 0 ≠ 0 by decide), if_neg (show ¬ xw 0 ≠ 0 by decide), xgd_t (by omega), xgd_t (by omega), hm, xor_0 (by omega), F_X11_readsDeed_96, if_neg (show ¬ xw 0 ≠ 0 by decide)]
    · have := (hx (f q - 97) (by omega) (by omega)).1 w.2.2
      omega
  intro j
  induction j with
  | zero =>
    intro q fu s l part m hj hfu hs hdd hp hm hl hx
    exact stop fu q s l part m (by omega) hs hdd hp hm hl hx (fun w => by have := hs.2.2.1; omega)
  | succ j ih =>
    intro q fu s l part m hj hfu hs hdd hp hm hl hx
    by_cases z : (q : Int) < E ∧ 97 + (l + 1) ≤ f q ∧ f q ≤ 100
    · obtain ⟨fu, rfl⟩ : ∃ g, fu = g + 1 := ⟨fu - 1, by omega⟩
      have hxs := Xds_i hd q _ hdd
      have hmb : 0 ≤ m ∧ m ≤ 15 := hxs.2.2.2.2.1
      have hz0 := (hx (f q - 97) (by omega) (by omega)).2 (by omega)
      have hlb := lane_b (m := m) (a := f q - 97) hmb (by omega) hz0
      have hst : xdst nh nd (kk, part, m) (f q) = some (kk, part + 1, xor' m (xshl 1 (f q - 97))) := by
        unfold xdst
        simp only
        rw [if_neg (by omega), if_neg (by omega), if_neg (by omega), if_neg (by omega), if_pos ⟨by omega, hz0⟩]
      have hdd2 : xdd nh nd f (q + 1) = some (kk, part + 1, xor' m (xshl 1 (f q - 97))) := by rw [xdd_s hdd]; exact hst
      have hdt2 : ∀ x : Int, x ≠ 3 * kk + 2 → xdt nh nd f (q + 1) x = xdt nh nd f q x := fun x x1 => by
        rw [xdt_s hdd]
        unfold xdtb
        simp only
        rw [if_neg (show ¬ part = 0 by omega), if_neg (show ¬ part = 1 by omega), if_neg (show ¬ (2 < part ∧ f q = 59) by omega)]
        rw [if_neg x1]
      have hs2 : Xat (xu (xu s 121 16 ((q : Int) + 1)) 130 (3 * kk + 2) (xor' m (xshl 1 (f q - 97)))) f ((q + 1 : Nat) : Int) (E : Int) := by
        have := Xat_u (q := (q : Int) + 1) hs (by omega)
        rw [show ((q + 1 : Nat) : Int) = (q : Int) + 1 by omega]
        exact Xat_o this (by rw [xu_row _ _ _ (show (121 : Int) ≠ 130 by decide)]) (by rw [xu_row _ _ _ (show (121 : Int) ≠ 130 by decide)]) (by rw [xu_row _ _ _ (show (129 : Int) ≠ 130 by decide)])
      obtain ⟨q', s', l', part', m', g1, g2, g3, g4, g5, g6, g7, g8, g9, g10⟩ := ih (q + 1) fu _ (f q - 97) (part + 1) (xor' m (xshl 1 (f q - 97))) (by omega) (by omega) hs2 hdd2 (by omega) (xu_same _ _ _ _) (by omega) (fun e e1 e2 => hlb.2 e e1 e2)
      refine ⟨q', s', l', part', m', ?_, by omega, g3, g4, g5, g6, fun x x1 => ?_, fun x x1 => by rw [g8 x x1, hdt2 x x1], fun k k1 => ?_, g10⟩
      · rw [F_X11_readsDeed_96, if_pos (show xw 1 ≠ 0 by decide), xgd_t (show 0 ≤ l + 1 ∧ l + 1 ≤ (([97, 98, 99, 100] : List Int).length : Int) from ⟨by omega, by show l + 1 ≤ 4; omega⟩), takes_abcd hs (by omega), if_pos z]
        simp only [xbp_s, xbd_s, xls, xli, xlt, xjn]
        rw [xw_sm (x := f q - 97 - (l + 1)) (by omega) (by omega), if_pos (show 0 ≤ f q - 97 - (l + 1) by omega), if_pos (show xw 1 ≠ 0 by decide), if_pos (show xw 1 ≠ 0 by decide), xgd_t (by omega), xgd_t (by omega), xu_row _ _ _ (show (130 : Int) ≠ 121 by decide), hm, show l + 1 + (f q - 97 - (l + 1)) = f q - 97 by omega]
        exact g1
      · rw [g7 x x1, xu_slot _ _ _ x1, xu_row _ _ _ (show (130 : Int) ≠ 121 by decide)]
      · rw [g9 k k1, xu_row _ _ _ (show (121 : Int) ≠ 130 by decide), xu_slot _ _ _ k1]
    · exact stop fu q s l part m (by omega) hs hdd hp hm hl hx z
