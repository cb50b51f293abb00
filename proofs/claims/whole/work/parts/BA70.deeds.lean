/-! deeds -/
theorem rlines_d {t : xW} {f : Int → Int} {n nh nd : Int} {E : Nat} (hn : 0 ≤ n ∧ n ≤ 80) (hnh : 0 ≤ nh ∧ nh ≤ 8) (hd : 0 ≤ nd ∧ nd ≤ 8) (e15 : t 121 15 = n) (e3 : t 121 3 = nh) (e4 : t 121 4 = nd) (ht : ∀ x : Int, 0 ≤ x → x < n → t 129 x = f x ∧ 0 ≤ f x ∧ f x ≤ 255) (hE : (E : Int) = min n 55) :
    ∃ (s' : xW) (c : Nat) (st : Int × Int × Int) (v : Int), F_X11_readsLines 0 55 t = some (v, s') ∧ c ≤ E ∧ xdd nh nd f c = some st ∧ (c = E ∨ xdd nh nd f (c + 1) = none) ∧ s' 121 15 = 0 ∧ (∀ k, k ≠ 15 → k ≠ 16 → k ≠ 17 → k ≠ 18 → k ≠ 20 → s' 121 k = t 121 k) ∧ (n = 0 → v = 0 ∧ s' 121 20 = 0) ∧ (0 < n → v = (if (c : Int) = n ∧ 2 < st.2.1 then 0 else -1 - (c : Int)) ∧ (2 < st.2.1 → s' 121 20 = st.1 + 1 ∧ (∀ x : Int, 0 ≤ x → x < 3 * st.1 + 3 → s' 130 x = xdt nh nd f c x))) := by
  have hN := xN_ge
  obtain ⟨b1, b2⟩ := begin_at (lim := 55) hn (by decide) e15 ht
  obtain ⟨s4, hs4⟩ : ∃ s4, s4 = xu (xu (xu (xu (xu t 121 15 0) 121 16 0) 121 18 0) 121 17 (min n 55)) 121 20 0 := ⟨_, rfl⟩
  rw [← hE] at b2
  have h4 : Xat s4 f 0 (E : Int) := Xat_o b2 (by rw [hs4, hE, xu_slot _ _ _ (show (16 : Int) ≠ 20 by decide)]) (by rw [hs4, hE, xu_slot _ _ _ (show (17 : Int) ≠ 20 by decide)]) (by rw [hs4, hE, xu_row _ _ _ (show (129 : Int) ≠ 121 by decide)])
  have e20 : s4 121 20 = 0 := by rw [hs4, xu_same]
  have ek : ∀ k, k ≠ 15 → k ≠ 16 → k ≠ 17 → k ≠ 18 → k ≠ 20 → s4 121 k = t 121 k := fun k k1 k2 k3 k4 k5 => by
    rw [hs4, xu_slot _ _ _ k5, xu_slot _ _ _ k3, xu_slot _ _ _ k4, xu_slot _ _ _ k2, xu_slot _ _ _ k1]
  have e15' : s4 121 15 = 0 := by rw [hs4]; simp [xu]
  by_cases z : n = 0
  · refine ⟨s4, 0, (0, 0, 0), 0, ?_, by omega, rfl, Or.inl (by omega), e15', ek, fun _ => ⟨rfl, e20⟩, fun w => by omega⟩
    unfold F_X11_readsLines
    rw [b1]
    simp only [xbp_s, xbd_s, xls, xli, xlt, xjn]
    rw [← hs4, xw_sm (x := n) (by omega) (by omega), if_neg (by omega)]
    obtain ⟨g, hg, _⟩ := xN_s
    rw [hg, F_X11_readsLines_25, if_neg (show ¬ xw 0 ≠ 0 by decide), fault_m h4 hn (by decide) hE (Or.inr rfl), if_pos ⟨rfl, by omega, by omega⟩]
    rfl
  · obtain ⟨ok, s', c, st, v1, v2, v3, v4, v5, v6, v7⟩ := dlines (nh := nh) (nd := nd) (lim := 55) (n := n) (f := f) (E := E) (k := fun (l4_46 : Int) (l5_47 : Int) (s48 : xW) => xbp (F_X11_faultOf n 55 l4_46 s48) fun r50 => some (r50, s48)) hnh hd (by omega) E 0 xN 0 0 s4 (by omega) (by omega) h4 (by rw [ek 3 (by decide) (by decide) (by decide) (by decide) (by decide)]; exact e3) (by rw [ek 4 (by decide) (by decide) (by decide) (by decide) (by decide)]; exact e4) e20 rfl (fun x x1 x2 => by omega)
    have eF : F_X11_readsLines 0 55 t = some (if ok = 1 ∧ (c : Int) = n ∧ n ≤ 55 then 0 else -1 - (c : Int), s') := by
      unfold F_X11_readsLines
      rw [b1]
      simp only [xbp_s, xbd_s, xls, xli, xlt, xjn]
      rw [← hs4, xw_sm (x := n) (by omega) (by omega), if_pos (by omega)]
      refine Eq.trans v1 ?_
      rw [fault_m v3 hn (by decide) hE (by omega)]
      rfl
    refine ⟨s', c, st, _, eF, v2, v4, v5, by rw [v6 15 (by decide) (by decide)]; exact e15', fun k k1 k2 k3 k4 k5 => by rw [v6 k k2 k5]; exact ek k k1 k2 k3 k4 k5, fun w => absurd w z, fun _ => ⟨?_, fun w => ?_⟩⟩
    · by_cases w : ok = 1 ∧ (c : Int) = n ∧ n ≤ 55
      · rw [if_pos w, if_pos (by omega)]
      · rw [if_neg w, if_neg (by omega)]
    · rcases v7 with v7 | ⟨_, _, w3, w4⟩
      · omega
      · exact ⟨w3, w4⟩
theorem dcopy {nd L : Int} {t0 : xW} {k : Int → xW → Option (Int × xW)} (hnd : 0 ≤ nd ∧ 0 ≤ L ∧ nd + L ≤ 8) (e20 : t0 121 20 = L) (e4 : t0 121 4 = nd) :
    ∀ (j i fu : Nat) (s : xW), (i : Int) + j = L → j < fu → (∀ c : Int, c ≠ 121 → c ≠ 125 → c ≠ 126 → c ≠ 127 → s c = t0 c) → (∀ x : Int, x ≠ 4 → s 121 x = t0 121 x) → s 121 4 = nd + i → (∀ x : Int, s 125 x = if nd ≤ x ∧ x < nd + i then t0 130 (3 * (x - nd)) else t0 125 x) → (∀ x : Int, s 126 x = if nd ≤ x ∧ x < nd + i then t0 130 (3 * (x - nd) + 2) else t0 126 x) → (∀ x : Int, s 127 x = if nd + 24 ≤ x ∧ x < nd + 24 + i then t0 130 (3 * (x - nd - 24) + 1) else t0 127 x) → ∃ s', F_X11_deeds_21 fu (i : Int) s k = k L s' ∧ (∀ c : Int, c ≠ 121 → c ≠ 125 → c ≠ 126 → c ≠ 127 → s' c = t0 c) ∧ (∀ x : Int, x ≠ 4 → s' 121 x = t0 121 x) ∧ s' 121 4 = nd + L ∧ (∀ x : Int, s' 125 x = if nd ≤ x ∧ x < nd + L then t0 130 (3 * (x - nd)) else t0 125 x) ∧ (∀ x : Int, s' 126 x = if nd ≤ x ∧ x < nd + L then t0 130 (3 * (x - nd) + 2) else t0 126 x) ∧ (∀ x : Int, s' 127 x = if nd + 24 ≤ x ∧ x < nd + 24 + L then t0 130 (3 * (x - nd - 24) + 1) else t0 127 x) := by
  intro j
  induction j with
  | zero =>
    intro i fu s hi hfu h1 h2 h3 h4 h5 h6
    obtain ⟨fu, rfl⟩ : ∃ g, fu = g + 1 := ⟨fu - 1, by omega⟩
    have ei : (i : Int) = L := by omega
    rw [ei] at h3 h4 h5 h6
    refine ⟨s, ?_, h1, h2, h3, h4, h5, h6⟩
    rw [ei, F_X11_deeds_21, h2 20 (by decide), e20, if_neg (Int.lt_irrefl _)]
  | succ j ih =>
    intro i fu s hi hfu h1 h2 h3 h4 h5 h6
    obtain ⟨fu, rfl⟩ : ∃ g, fu = g + 1 := ⟨fu - 1, by omega⟩
    have e130 : s 130 = t0 130 := h1 130 (by decide) (by decide) (by decide) (by decide)
    obtain ⟨s1, hs1⟩ : ∃ s1, s1 = xu (xu (xu (xu s 125 (nd + i) (t0 130 (3 * (i : Int)))) 127 (24 + (nd + i)) (t0 130 (3 * (i : Int) + 1))) 126 (nd + i) (t0 130 (3 * (i : Int) + 2))) 121 4 (nd + i + 1) := ⟨_, rfl⟩
    obtain ⟨s', g1, g2⟩ := ih (i + 1) fu s1 (by omega) (by omega) (fun c c1 c2 c3 c4 => by rw [hs1, xu_row _ _ _ c1, xu_row _ _ _ c3, xu_row _ _ _ c4, xu_row _ _ _ c2]; exact h1 c c1 c2 c3 c4) (fun x x1 => by rw [hs1, xu_slot _ _ _ x1, xu_row _ _ _ (show (121 : Int) ≠ 126 by decide), xu_row _ _ _ (show (121 : Int) ≠ 127 by decide), xu_row _ _ _ (show (121 : Int) ≠ 125 by decide)]; exact h2 x x1) (by rw [hs1, xu_same]; omega) (fun x => by
      rw [hs1, xu_row _ _ _ (show (125 : Int) ≠ 121 by decide), xu_row _ _ _ (show (125 : Int) ≠ 126 by decide), xu_row _ _ _ (show (125 : Int) ≠ 127 by decide)]
      by_cases z : x = nd + i
      · rw [z, xu_same, if_pos (by omega), show nd + (i : Int) - nd = i by omega]
      · rw [xu_slot _ _ _ z, h4 x]
        by_cases y : nd ≤ x ∧ x < nd + i
        · rw [if_pos y, if_pos (by omega)]
        · rw [if_neg y, if_neg (show ¬ (nd ≤ x ∧ x < nd + ((i + 1 : Nat) : Int)) by omega)]) (fun x => by
      rw [hs1, xu_row _ _ _ (show (126 : Int) ≠ 121 by decide)]
      by_cases z : x = nd + i
      · rw [z, xu_same, if_pos (by omega), show nd + (i : Int) - nd = i by omega]
      · rw [xu_slot _ _ _ z, xu_row _ _ _ (show (126 : Int) ≠ 127 by decide), xu_row _ _ _ (show (126 : Int) ≠ 125 by decide), h5 x]
        by_cases y : nd ≤ x ∧ x < nd + i
        · rw [if_pos y, if_pos (by omega)]
        · rw [if_neg y, if_neg (show ¬ (nd ≤ x ∧ x < nd + ((i + 1 : Nat) : Int)) by omega)]) (fun x => by
      rw [hs1, xu_row _ _ _ (show (127 : Int) ≠ 121 by decide), xu_row _ _ _ (show (127 : Int) ≠ 126 by decide)]
      by_cases z : x = 24 + (nd + i)
      · rw [z, xu_same, if_pos (by omega), show 24 + (nd + (i : Int)) - nd - 24 = i by omega]
      · rw [xu_slot _ _ _ z, xu_row _ _ _ (show (127 : Int) ≠ 125 by decide), h6 x]
        by_cases y : nd + 24 ≤ x ∧ x < nd + 24 + i
        · rw [if_pos y, if_pos (by omega)]
        · rw [if_neg y, if_neg (show ¬ (nd + 24 ≤ x ∧ x < nd + 24 + ((i + 1 : Nat) : Int)) by omega)])
    refine ⟨s', ?_, g2⟩
    have q1 : ∀ (a b c d e f : Int), (xu (xu (xu s 125 a b) 127 c d) 126 e f) 121 4 = nd + i := fun a b c d e f => by
      rw [xu_row _ _ _ (show (121 : Int) ≠ 126 by decide), xu_row _ _ _ (show (121 : Int) ≠ 127 by decide), xu_row _ _ _ (show (121 : Int) ≠ 125 by decide)]; exact h3
    have q2 : ∀ (a b c d : Int), (xu (xu s 125 a b) 127 c d) 121 4 = nd + i := fun a b c d => by
      rw [xu_row _ _ _ (show (121 : Int) ≠ 127 by decide), xu_row _ _ _ (show (121 : Int) ≠ 125 by decide)]; exact h3
    have q3 : ∀ (a b : Int), (xu s 125 a b) 121 4 = nd + i := fun a b => by
      rw [xu_row _ _ _ (show (121 : Int) ≠ 125 by decide)]; exact h3
    have q4 : ∀ (a b x : Int), (xu s 125 a b) 130 x = t0 130 x := fun a b x => by
      rw [xu_row _ _ _ (show (130 : Int) ≠ 125 by decide), e130]
    have q5 : ∀ (a b c d x : Int), (xu (xu s 125 a b) 127 c d) 130 x = t0 130 x := fun a b c d x => by
      rw [xu_row _ _ _ (show (130 : Int) ≠ 127 by decide), q4]
    rw [F_X11_deeds_21, h2 20 (by decide), e20, xw_sm (x := (i : Int)) (by omega) (by omega), xw_sm (x := L) (by omega) (by omega), if_pos (by omega), h3, e130]
    simp only [xbp_s, xbd_s, xls, xli, xlt, xjn]
    rw [q3, q4, q2, q5, q1, xgd_t (by omega), xgd_t (by omega), xgd_t (by omega), xgd_t (by omega), xgd_t (by omega), xgd_t (by omega), ← hs1, show ((i : Int) + 1) = ((i + 1 : Nat) : Int) by omega]
    exact g1
theorem readDeeds_c {nh nd : Int} {E : Nat} {σ : xW} (ht : 0 ≤ σ 1 1 ∧ σ 1 1 ≤ 80) (hb : ∀ i : Int, 0 ≤ σ 2 i ∧ σ 2 i ≤ 255) (hnh : σ 0 14 = nh ∧ 0 ≤ nh ∧ nh ≤ 8) (hnd : σ 92 0 = nd ∧ 0 ≤ nd ∧ nd ≤ 8) (hE : (E : Int) = min (σ 1 1) 55) (hl : ∀ d : Int, 0 ≤ d → d < 8 → -1 ≤ σ 20 d ∧ σ 20 d ≤ 9) : ∃ (c : Nat) (st : Int × Int × Int) (s' : xW), c ≤ E ∧ xdd nh nd (σ 2) c = some st ∧ (c = E ∨ xdd nh nd (σ 2) (c + 1) = none) ∧ F_X10_readDeeds σ = some (if (c : Int) = σ 1 1 ∧ 2 < st.2.1 then st.1 + 1 else -1 - (c : Int), s') ∧ Xdw σ s' nd ∧ ((c : Int) = σ 1 1 → Xdc σ s' nd (xdt nh nd (σ 2) c) st) := by
  have hN := xN_ge
  have hw : Xdw σ σ nd := ⟨fun _ _ _ _ => rfl, fun _ _ => ⟨rfl, rfl, rfl⟩, hl⟩
  obtain ⟨c, st, s', g1, g2, g3, g4⟩ := deeds_loopC (K := fun (l1_28 : Int) (l2_29 : Int) (l3_30 : Int) (s31 : xW) => xli (if 2 < (xw l2_29) then (l1_28 + 1) else ((-1) - (s31 1 1))) fun v33 => some (v33, s31)) ht hb hnh hnd hE E 0 xN σ (0, 0, 0) (by omega) (by omega) rfl ⟨hw, fun j j1 j2 => by simp only at j2; omega, fun w => by simp only at w; omega, fun w => by simp only at w; omega⟩
  have hp := xdd_p c st g2
  have hX := Xds_i hnd.2 c st g2
  refine ⟨c, st, s', g1, g2, g3, ?_⟩
  unfold F_X10_readDeeds
  rcases g4 with ⟨w1, w2, w3⟩ | ⟨w1, w2, w3⟩
  · exact ⟨by rw [if_neg (by omega)]; exact w2, w3, fun w => by omega⟩
  · refine ⟨?_, w3.1, fun _ => w3⟩
    refine Eq.trans w2 ?_
    have e1 : s' 1 = σ 1 := w3.1.1 1 (by decide) (by decide) (by decide)
    have hp0 := hX.2.1
    rw [e1, xw_sm (x := st.2.1) (by omega) (by omega)]
    simp only [xbp_s, xbd_s, xls, xli, xlt, xjn]
    by_cases z : 2 < st.2.1
    · rw [if_pos z, if_pos ⟨w1, z⟩]
    · rw [if_neg z, if_neg (fun w => z w.2), w1]
