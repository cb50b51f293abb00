/-! week: reading all acts -/
def xps (f : Int → Int) : Nat → Int
  | 0 => 0
  | k + 1 => xps f k + 1 + xdo (f (xps f k))
theorem xps_s (f : Int → Int) (k : Nat) : xps f (k + 1) = xps f k + 1 + xdo (f (xps f k)) := rfl
theorem xwd_dig {f : Int → Int} {p D : Nat} {l0 : Int} {st : Int × Int} (h : xwd f p = some (l0, 0)) (hD : (D : Int) = xdo (f p)) (hq : xwd f (p + 1 + D) = some st) : ∀ e : Nat, e ≤ D → xwd f (p + 1 + e) = some (f p, (D : Int) - e) ∧ (1 ≤ e → 48 ≤ f ((p + e : Nat) : Int) ∧ f ((p + e : Nat) : Int) ≤ 57) := by
  have hs : ∀ m : Nat, m ≤ D → xwd f (p + 1 + m) ≠ none := fun m hm w => by
    have := xwd_n w (D - m)
    rw [show p + 1 + m + (D - m) = p + 1 + D by omega, hq] at this
    exact nomatch this
  have h0 : xwd f (p + 1) = some (f p, xdo (f p)) := by
    have := hs 0 (by omega)
    rw [Nat.add_zero, xwd_s h] at this
    rw [xwd_s h]
    unfold xws at this ⊢
    rw [if_pos rfl] at this ⊢
    by_cases z : xdo (f p) = 0
    · rw [if_pos z] at this
      exact absurd rfl this
    · rw [if_neg z]
  intro e
  induction e with
  | zero =>
    intro _
    refine ⟨?_, fun w => by omega⟩
    rw [Nat.add_zero, h0, ← hD, show (D : Int) - ((0 : Nat) : Int) = D by omega]
  | succ e ih =>
    intro he
    obtain ⟨i1, _⟩ := ih (by omega)
    have hn := hs (e + 1) he
    have hst : xwd f (p + 1 + (e + 1)) = xws (f p, (D : Int) - e) (f ((p + 1 + e : Nat) : Int)) := xwd_s i1
    rw [hst] at hn
    have hlo : 0 ≤ xwlo (f p) ((D : Int) - e) := by unfold xwlo; split <;> omega
    rw [hst]
    unfold xws at hn ⊢
    simp only at hn ⊢
    rw [if_neg (show ¬ (D : Int) - e = 0 by omega)] at hn ⊢
    by_cases z : 48 + xwlo (f p) ((D : Int) - e) ≤ f ((p + 1 + e : Nat) : Int) ∧ f ((p + 1 + e : Nat) : Int) ≤ 57
    · rw [if_pos z]
      refine ⟨by congr 2; omega, fun _ => ?_⟩
      rw [show p + (e + 1) = p + 1 + e by omega]
      omega
    · rw [if_neg z] at hn
      exact absurd rfl hn
/-- the first A acts, as they were read -/
def Xacts (s : xW) (f : Int → Int) (A : Nat) : Prop := ∀ j : Nat, j < A → xdo (f (xps f j)) ≠ 0 ∧ (∀ e : Int, 1 ≤ e → e ≤ xdo (f (xps f j)) → 48 ≤ f (xps f j + e) ∧ f (xps f j + e) ≤ 57) ∧ s 137 j = xidx (f (xps f j)) ∧ s 138 j = f (xps f j + 1) - 48 ∧ (2 ≤ xdo (f (xps f j)) → s 139 j = f (xps f j + 2) - 48) ∧ (3 ≤ xdo (f (xps f j)) → s 140 j = f (xps f j + 3) - 48)
theorem xps_r {s : xW} {f : Int → Int} {A : Nat} (h : Xacts s f A) : ∀ k : Nat, k ≤ A → 2 * (k : Int) ≤ xps f k
  | 0, _ => by show 2 * ((0 : Nat) : Int) ≤ 0; omega
  | k + 1, hk => by
    have h1 := xps_r h k (by omega)
    have h2 := (h k (by omega)).1
    have h3 := xdo_r (f (xps f k))
    rw [xps_s]
    omega
theorem xps_m {s : xW} {f : Int → Int} {A : Nat} (h : Xacts s f A) : ∀ (j k : Nat), k + j ≤ A → xps f k + 2 * (j : Int) ≤ xps f (k + j)
  | 0, k, _ => by show xps f k + 2 * ((0 : Nat) : Int) ≤ xps f k; omega
  | j + 1, k, hk => by
    have h1 := xps_m h j k (by omega)
    have h2 := (h (k + j) (by omega)).1
    have h3 := xdo_r (f (xps f (k + j)))
    have h4 := xps_s f (k + j)
    show _ ≤ xps f (k + j + 1)
    omega
theorem alines {f : Int → Int} {E : Nat} {n : Int} {K : Int → xW → Option (Int × xW)} (hE : E ≤ 60) :
    ∀ (j p fu kk : Nat) (l0 : Int) (s : xW), E ≤ p + j → j + 1 < fu → Xat s f (p : Int) (E : Int) → xwd f p = some (l0, 0) → s 121 36 = kk → (p : Int) = xps f kk → Xacts s f kk →
    ∃ (ok : Int) (s' : xW) (c : Nat) (st : Int × Int), F_X11_week_19 n fu 1 s K = K ok s' ∧ c ≤ E ∧ Xat s' f (c : Int) (E : Int) ∧ xwd f c = some st ∧ (c = E ∨ xwd f (c + 1) = none) ∧ (∀ k, k ≠ 16 → k ≠ 36 → s' 121 k = s 121 k) ∧ xfm W_X11_readsAct s s' ∧ ((ok = 1 ∧ c = E ∧ st.2 = 0 ∧ ∃ A : Nat, s' 121 36 = A ∧ Xacts s' f A ∧ xps f A = c) ∨ (ok = 0 ∧ ¬ (c = E ∧ st.2 = 0))) := by
  intro j
  induction j with
  | zero =>
    intro p fu kk l0 s hj hfu hs hd e36 hp ha
    obtain ⟨fu, rfl⟩ : ∃ g, fu = g + 1 := ⟨fu - 1, by omega⟩
    have hs3 := hs.2.2.1
    refine ⟨1, s, p, (l0, 0), ?_, by omega, hs, hd, Or.inl (by omega), fun _ _ _ => rfl, xfm_rf, Or.inl ⟨rfl, by omega, rfl, kk, e36, ha, hp.symm⟩⟩
    rw [F_X11_week_19, if_pos (show xw 1 ≠ 0 by decide), hs.1, hs.2.1, xw_sm (x := (p : Int)) (by omega) (by omega), xw_sm (x := (E : Int)) (by omega) (by omega), if_neg (by omega)]
  | succ j ih =>
    intro p fu kk l0 s hj hfu hs hd e36 hp ha
    obtain ⟨fu, rfl⟩ : ∃ g, fu = g + 1 + 1 := ⟨fu - 2, by omega⟩
    have hs3 := hs.2.2.1
    have hk2 := xps_r ha kk (Nat.le_refl _)
    by_cases z : (p : Int) < E
    · obtain ⟨r, s1, q, st, u1, u2, u3, u4, u5, u6⟩ := readsAct_m (by omega) hs z hd e36 (by omega)
      have hq := u3.2.2.1
      rcases u6 with ⟨w1, w2, w3, w4, w5, w6⟩ | ⟨w1, w2, w3⟩
      · have hdo := xdo_r (f p)
        obtain ⟨D, hD⟩ : ∃ D : Nat, (D : Int) = xdo (f p) := ⟨(xdo (f p)).toNat, by omega⟩
        have hdig := xwd_dig (D := D) hd hD (by rw [show p + 1 + D = q by omega]; exact u4)
        obtain ⟨v1, v2, v3, v4, v5⟩ := w6
        have ha1 : Xacts s1 f (kk + 1) := fun j hj => by
          by_cases y : j = kk
          · rw [y, ← hp]
            refine ⟨w4, fun e e1 e2 => ?_, ?_, ?_, fun w => v4 w, fun w => v5 w⟩
            · have := (hdig e.toNat (by omega)).2 (by omega)
              rw [show ((p + e.toNat : Nat) : Int) = (p : Int) + e by omega] at this
              exact this
            · rw [v1, if_pos rfl]
            · rw [v2, if_pos rfl]
          · have q := ha j (by omega)
            have y' : (j : Int) ≠ (kk : Int) := by omega
            refine ⟨q.1, q.2.1, by rw [v1, if_neg y']; exact q.2.2.1, by rw [v2, if_neg y']; exact q.2.2.2.1, fun w => by rw [(v3 j y').1]; exact q.2.2.2.2.1 w, fun w => by rw [(v3 j y').2]; exact q.2.2.2.2.2 w⟩
        obtain ⟨l1, hl1⟩ : ∃ l1, st = (l1, 0) := ⟨st.1, by rw [← w2]⟩
        obtain ⟨ok, s', c, st', g1, g2, g3, g4, g5, g6, g8, g7⟩ := ih q (fu + 1) (kk + 1) l1 s1 (by omega) (by omega) u3 (by rw [u4, hl1]) (by rw [w5]; omega) (by rw [w3, hp, xps_s]) ha1
        refine ⟨ok, s', c, st', ?_, g2, g3, g4, g5, fun k k1 k2 => by rw [g6 k k1 k2, u5 k k1 k2], fun c k y1 y2 => (g8 c k y1 y2).trans (fr_X11_readsAct u1 c k y1 y2), g7⟩
        rw [F_X11_week_19, if_pos (show xw 1 ≠ 0 by decide), hs.1, hs.2.1, xw_sm (x := (p : Int)) (by omega) (by omega), xw_sm (x := (E : Int)) (by omega) (by omega), if_pos z, u1, w1]
        simp only [xbp_s, xbd_s, xls, xli, xlt, xjn]
        exact g1
      · refine ⟨0, s1, q, st, ?_, by omega, u3, u4, w2, u5, fr_X11_readsAct u1, Or.inr ⟨rfl, w3⟩⟩
        rw [F_X11_week_19, if_pos (show xw 1 ≠ 0 by decide), hs.1, hs.2.1, xw_sm (x := (p : Int)) (by omega) (by omega), xw_sm (x := (E : Int)) (by omega) (by omega), if_pos z, u1, w1]
        simp only [xbp_s, xbd_s, xls, xli, xlt, xjn]
        rw [F_X11_week_19, if_neg (show ¬ xw 0 ≠ 0 by decide)]
    · refine ⟨1, s, p, (l0, 0), ?_, by omega, hs, hd, Or.inl (by omega), fun _ _ _ => rfl, xfm_rf, Or.inl ⟨rfl, by omega, rfl, kk, e36, ha, hp.symm⟩⟩
      rw [F_X11_week_19, if_pos (show xw 1 ≠ 0 by decide), hs.1, hs.2.1, xw_sm (x := (p : Int)) (by omega) (by omega), xw_sm (x := (E : Int)) (by omega) (by omega), if_neg z]
/-! doing them -/
theorem digit_g {i : Int} {s : xW} (h : 0 ≤ s 1 1 ∧ s 1 1 ≤ 80) (hb : ∀ i : Int, 0 ≤ s 2 i ∧ s 2 i ≤ 255) (hi : -1000 ≤ i ∧ i ≤ 1000) : ∃ v, F_X8_digit i s = some v ∧ (-1 ≤ v ∧ v ≤ 9) ∧ (0 ≤ i → i < s 1 1 → 48 ≤ s 2 i → s 2 i ≤ 57 → v = s 2 i - 48) := by
  have hbi := hb i
  unfold F_X8_digit
  rw [at_c h hb hi]
  simp only [xbp_s, xbd_s, xls, xli, xlt, xjn]
  by_cases z : 0 ≤ i ∧ i < s 1 1
  · rw [if_pos z, xw_sm (x := s 2 i) (by omega) (by omega)]
    by_cases z1 : 48 ≤ s 2 i
    · rw [if_pos z1]
      by_cases z2 : s 2 i ≤ 57
      · rw [if_pos z2]
        exact ⟨_, rfl, by omega, fun _ _ _ _ => rfl⟩
      · rw [if_neg z2]
        exact ⟨_, rfl, by omega, fun _ _ _ w => absurd w z2⟩
    · rw [if_neg z1]
      exact ⟨_, rfl, by omega, fun _ _ w => absurd w z1⟩
  · rw [if_neg z]
    exact ⟨-1, rfl, by omega, fun a b => absurd ⟨a, b⟩ z⟩
/-- what an act leaves as it was -/
def Xkc (s s1 t t1 : xW) : Prop := (∀ c, 21 ≤ c → c ≤ 86 → s1 c = s c) ∧ s1 0 14 = s 0 14 ∧ s1 92 0 = s 92 0 ∧ t1 136 = t 136 ∧ s1 1 = s 1 ∧ s1 2 = s 2 ∧ (∀ c, 137 ≤ c → c ≤ 140 → t1 c = t c) ∧ (∀ k, k ≠ 30 → k ≠ 31 → t1 121 k = t 121 k)
theorem pass_B {B a : Int} {s t : xW} (hB : 0 ≤ B) (hB1 : B ≤ 1000300) (ha : 0 ≤ a ∧ a ≤ 9) (h : XRr B s t) : ∃ r s1 t1, F_X10_passDays a s = some (r, s1) ∧ F_X11_does_46 a xN 0 t (fun (l3_12 : Int) (s13 : xW) => some (1, s13)) = some (1, t1) ∧ I32 r ∧ 0 ≤ r ∧ XRr (B + 9) s1 t1 ∧ Xkc s s1 t t1 := by
  have hN := xN_ge
  have hdd := XRr_dd h
  have hdd0 : Xdd (B + (0 : Nat)) (t 121 23) (t 131) 127 s t := by rw [show B + ((0 : Nat) : Int) = B by omega]; exact hdd
  obtain ⟨S, M, s2, t2, b1, b2, b3, b4, b5⟩ := wpass_loop (B := B) (n := a) (k := fun (l2_23 : Int) (l3_24 : Int) (l4_25 : Int) (s26 : xW) => xbp (F_X6_tell_ (xw l2_23) (xw l3_24) s26) fun s28 => some ((s28 17 2), s28)) (k' := fun (l3_12 : Int) (s13 : xW) => some (1, s13)) (σ0 := s) (τ0 := t) (by omega) (by omega) a.toNat 0 s t xN xN 0 0 (by omega) (by omega) (by omega) hdd0 (fun c _ _ _ _ _ _ _ _ => rfl) ⟨fun c _ _ _ _ _ => rfl, fun _ _ _ => rfl⟩
  have hX := XRr_of_dd (show B ≤ B + a by omega) h b3 b4 b5
  have hp := hX.2.2.2.1.1.1.2.2.1
  have hX2 : XRr (B + 9) (xt2 s2 (xw S) (xw M)) t2 := XRr_row (XRr_mono (by omega) hX) (fun c c1 c2 => xt2_o c1 c2)
  have ec : ∀ c, c ≠ 17 → c ≠ 19 → c ≠ 90 → c ≠ 91 → c ≠ 11 → c ≠ 15 → c ≠ 95 → c ≠ 96 → c ≠ 3 → c ≠ 4 → xt2 s2 (xw S) (xw M) c = s c := fun c x1 x2 x3 x4 x5 x6 x7 x8 x9 x10 => by rw [xt2_o x9 x10]; exact b4 c x1 x2 x3 x4 x5 x6 x7 x8
  refine ⟨s2 17 2, xt2 s2 (xw S) (xw M), t2, ?_, b2, by omega, hp.1, hX2, fun c c1 c2 => ec c (by omega) (by omega) (by omega) (by omega) (by omega) (by omega) (by omega) (by omega) (by omega) (by omega), by rw [ec 0 (by decide) (by decide) (by decide) (by decide) (by decide) (by decide) (by decide) (by decide) (by decide) (by decide)], by rw [ec 92 (by decide) (by decide) (by decide) (by decide) (by decide) (by decide) (by decide) (by decide) (by decide) (by decide)], b5.1 136 (by decide) (by decide) (by decide) (by decide) (by decide), ec 1 (by decide) (by decide) (by decide) (by decide) (by decide) (by decide) (by decide) (by decide) (by decide) (by decide), ec 2 (by decide) (by decide) (by decide) (by decide) (by decide) (by decide) (by decide) (by decide) (by decide) (by decide), fun c c1 c2 => b5.1 c (by omega) (by omega) (by omega) (by omega) (by omega), b5.2⟩
  unfold F_X10_passDays
  simp only [xjn]
  rw [xw_sm (x := a) (by omega) (by omega), if_pos ha.1, if_neg (by omega)]
  refine Eq.trans b1 ?_
  rw [tell_2]
  simp only [xbp_s, xbd_s, xls, xli, xlt, xjn]
  rw [xt2_o (by decide) (by decide)]
theorem act_step {B : Int} {k : Nat} {f : Int → Int} {s t : xW} (hB : 0 ≤ B) (hB1 : B ≤ 1000300) (ht : 0 ≤ s 1 1 ∧ s 1 1 ≤ 60) (hb : ∀ i : Int, 0 ≤ s 2 i ∧ s 2 i ≤ 255) (hf : s 2 = f) (hk : k < 30) (hx : Xacts t f (k + 1)) (hp : 0 ≤ xps f k ∧ xps f (k + 1) ≤ s 1 1) (h : XRr B s t) :
    ∃ r s1 t1, F_X10_doAct (xps f k) s = some (r, s1) ∧ F_X11_does (k : Int) t = some (if 0 ≤ r then 1 else 0, t1) ∧ I32 r ∧ XRr (B + 9) s1 t1 ∧ Xkc s s1 t t1 := by
  obtain ⟨p, hpd⟩ : ∃ p, p = xps f k := ⟨_, rfl⟩
  have hxk := hx k (by omega)
  rw [xps_s] at hp
  rw [← hpd] at hp hxk ⊢
  obtain ⟨x1, x2, x3, x4, x5, x6⟩ := hxk
  have hdo := xdo_r (f p)
  obtain ⟨j1, j2, j3, j4, j5, j6, j7, j8⟩ := idx_f x1
  have hbp := hb p
  have d1 := x2 1 (by omega) (by omega)
  obtain ⟨v1, e1, r1, y1⟩ := digit_g (i := p + 1) (s := s) (by omega) hb (by omega)
  obtain ⟨v2, e2, r2, y2⟩ := digit_g (i := p + 2) (s := s) (by omega) hb (by omega)
  obtain ⟨v3, e3, r3, y3⟩ := digit_g (i := p + 3) (s := s) (by omega) hb (by omega)
  have hv1 : v1 = f (p + 1) - 48 := by rw [y1 (by omega) (by omega) (by rw [hf]; exact d1.1) (by rw [hf]; exact d1.2), hf]
  have hat : F_X8_at p s = some (f p) := by rw [at_c (by omega) hb (by omega), if_pos (by omega), hf]
  have hfp : 0 ≤ f p ∧ f p ≤ 255 := by rw [← hf]; exact hbp
  have kk : 0 ≤ (k : Int) ∧ (k : Int) < 60 := by omega
  have eC : F_X10_doAct p s = if f p = 98 then F_X10_buy v1 s else if f p = 103 then F_X10_haul v1 v2 s else if f p = 109 then F_X10_move v1 v2 v3 s else if f p = 110 then F_X10_passDays v1 s else F_X10_lengthen v1 v2 s := by
    have hbd : ∀ o : Option (Int × xW), (xbd o fun r s => some (r, s)) = o := fun o => by
      cases o with
      | none => rfl
      | some q => rfl
    unfold F_X10_doAct
    rw [e1, e2, hat]
    simp only [xbp_n]
    rw [xw_sm (x := f p) (by omega) (by omega), e3]
    simp only [xbp_n, hbd]
  have fl : ∀ r : Int, I32 r → ∀ t1 : xW, (xli (if 0 ≤ (xw r) then (1 : Int) else 0) fun v => xgd (v = 0 ∨ v = 1) <| some (v, t1)) = some (if 0 ≤ r then 1 else 0, t1) := fun r hr t1 => by
    rw [xw_id hr]
    simp only [xli, xlt]
    rw [xgd_t (by split <;> decide)]
  have hxi : xw (t 137 (k : Int)) = xidx (f p) := by rw [x3, xw_sm (x := xidx (f p)) (by omega) (by omega)]
  by_cases z1 : f p = 98
  · obtain ⟨r, s1, t1, b1, b2, b3, b4, b5, b6, b7, b8⟩ := XB_buy (a := v1) (by omega) B s t hB hB1 h
    have hfC := fr_X10_buy b1
    have hfM := fr_X11_buysSome b2
    refine ⟨r, s1, t1, by rw [eC, if_pos z1]; exact b1, ?_, b3, XRr_mono (by omega) b4, b5, b6, b7, b8, xfm_cell hfC (by decide +kernel), xfm_cell hfC (by decide +kernel), fun c c1 c2 => ?_, fun q q1 q2 => ?_⟩
    · unfold F_X11_does
      rw [xgd_t kk, xgd_t kk, hxi, if_neg (by omega), if_pos (j2.2 z1), x4, ← hv1, b2]
      simp only [xbd_n]
      exact fl r b3 t1
    · rcases (by omega : c = 137 ∨ c = 138 ∨ c = 139 ∨ c = 140) with rfl | rfl | rfl | rfl <;> exact xfm_cell hfM (by decide +kernel)
    · have : t1 121 = t 121 := xfm_cell hfM (by decide +kernel)
      rw [this]
  · by_cases z2 : f p = 103
    · have hD : xdo (f p) = 2 := by rw [z2]; rfl
      have d2 := x2 2 (by omega) (by omega)
      have hv2 : v2 = f (p + 2) - 48 := by rw [y2 (by omega) (by omega) (by rw [hf]; exact d2.1) (by rw [hf]; exact d2.2), hf]
      obtain ⟨r, s1, t1, b1, b2, b3, b4, b5, b6, b7, b8⟩ := XB_haul (x := v1) (y := v2) (by omega) (by omega) B s t hB hB1 h
      have hfC := fr_X10_haul b1
      have hfM := fr_X11_haulsTo b2
      refine ⟨r, s1, t1, by rw [eC, if_neg z1, if_pos z2]; exact b1, ?_, b3, XRr_mono (by omega) b4, b5, b6, b7, b8, xfm_cell hfC (by decide +kernel), xfm_cell hfC (by decide +kernel), fun c c1 c2 => ?_, fun q q1 q2 => ?_⟩
      · unfold F_X11_does
        rw [xgd_t kk, xgd_t kk, hxi, if_neg (by omega), if_neg (by omega), if_pos (j7.2 z2), xgd_t kk, x4, x5 (by omega), ← hv1, ← hv2, b2]
        simp only [xbd_n]
        exact fl r b3 t1
      · rcases (by omega : c = 137 ∨ c = 138 ∨ c = 139 ∨ c = 140) with rfl | rfl | rfl | rfl <;> exact xfm_cell hfM (by decide +kernel)
      · have : t1 121 = t 121 := xfm_cell hfM (by decide +kernel)
        rw [this]
    · by_cases z3 : f p = 109
      · have hD : xdo (f p) = 3 := by rw [z3]; rfl
        have d2 := x2 2 (by omega) (by omega)
        have d3 := x2 3 (by omega) (by omega)
        have hv2 : v2 = f (p + 2) - 48 := by rw [y2 (by omega) (by omega) (by rw [hf]; exact d2.1) (by rw [hf]; exact d2.2), hf]
        have hv3 : v3 = f (p + 3) - 48 := by rw [y3 (by omega) (by omega) (by rw [hf]; exact d3.1) (by rw [hf]; exact d3.2), hf]
        obtain ⟨r, s1, t1, b1, b2, b3, b4, b5, b6, b7, b8⟩ := XB_move (h := v1) (x := v2) (y := v3) (by omega) (by omega) (by omega) B s t hB hB1 h
        have hfC := fr_X10_move b1
        have hfM := fr_X11_movesTo b2
        refine ⟨r, s1, t1, by rw [eC, if_neg z1, if_neg z2, if_pos z3]; exact b1, ?_, b3, XRr_mono (by omega) b4, b5, b6, b7, b8, xfm_cell hfC (by decide +kernel), xfm_cell hfC (by decide +kernel), fun c c1 c2 => ?_, fun q q1 q2 => ?_⟩
        · have j8' := j8.2 z3
          unfold F_X11_does
          rw [xgd_t kk, xgd_t kk, hxi, if_neg (by omega), if_neg (by omega), if_neg (by omega), if_neg (by omega), xgd_t kk, xgd_t kk, x4, x5 (by omega), x6 (by omega), ← hv1, ← hv2, ← hv3, b2]
          simp only [xbd_n]
          exact fl r b3 t1
        · rcases (by omega : c = 137 ∨ c = 138 ∨ c = 139 ∨ c = 140) with rfl | rfl | rfl | rfl <;> exact xfm_cell hfM (by decide +kernel)
        · have : t1 121 = t 121 := xfm_cell hfM (by decide +kernel)
          rw [this]
      · by_cases z4 : f p = 110
        · obtain ⟨r, s1, t1, b1, b2, b3, b4, b5, b6⟩ := pass_B (a := v1) hB hB1 (by omega) h
          refine ⟨r, s1, t1, by rw [eC, if_neg z1, if_neg z2, if_neg z3, if_pos z4]; exact b1, ?_, b3, b5, b6⟩
          unfold F_X11_does
          rw [xgd_t kk, xgd_t kk, hxi, if_pos (j6.2 z4), x4, ← hv1, b2, if_pos b4]
        · have hc : f p = 108 := by
            by_cases w : xidx (f p) = 3
            · exact j3.1 w
            · omega
          have hD : xdo (f p) = 2 := by rw [hc]; rfl
          have d2 := x2 2 (by omega) (by omega)
          have hv2 : v2 = f (p + 2) - 48 := by rw [y2 (by omega) (by omega) (by rw [hf]; exact d2.1) (by rw [hf]; exact d2.2), hf]
          obtain ⟨r, s1, t1, b1, b2, b3, b4, b5, b6, b7, b8⟩ := XB_take (d := v1) (v := v2) (by omega) (by omega) B s t hB hB1 h
          have hfC := fr_X10_lengthen b1
          have hfM := fr_X11_takesSome b2
          refine ⟨r, s1, t1, by rw [eC, if_neg z1, if_neg z2, if_neg z3, if_neg z4]; exact b1, ?_, b3, XRr_mono (by omega) b4, b5, b6, b7, b8, xfm_cell hfC (by decide +kernel), xfm_cell hfC (by decide +kernel), fun c c1 c2 => ?_, fun q q1 q2 => ?_⟩
          · have j3' := j3.2 hc
            unfold F_X11_does
            rw [xgd_t kk, xgd_t kk, hxi, if_neg (by omega), if_neg (by omega), if_neg (by omega), if_pos j3', xgd_t kk, x4, x5 (by omega), ← hv1, ← hv2, b2]
            simp only [xbd_n]
            exact fl r b3 t1
          · rcases (by omega : c = 137 ∨ c = 138 ∨ c = 139 ∨ c = 140) with rfl | rfl | rfl | rfl <;> exact xfm_cell hfM (by decide +kernel)
          · have : t1 121 = t 121 := xfm_cell hfM (by decide +kernel)
            rw [this]
