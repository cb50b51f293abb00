/-! deeds, the class -/
def Xdw (σ s : xW) (nd : Int) : Prop := (∀ c : Int, c ≠ 20 → c ≠ 93 → c ≠ 94 → s c = σ c) ∧ (∀ d : Int, d < nd → s 20 d = σ 20 d ∧ s 93 d = σ 93 d ∧ s 94 d = σ 94 d) ∧ (∀ d : Int, 0 ≤ d → d < 8 → -1 ≤ s 20 d ∧ s 20 d ≤ 9)
def Xdc (σ s : xW) (nd : Int) (T : Int → Int) (st : Int × Int × Int) : Prop := Xdw σ s nd ∧ (∀ j : Int, 0 ≤ j → j < st.1 → s 93 (nd + j) = T (3 * j) ∧ s 20 (nd + j) = T (3 * j + 1) ∧ s 94 (nd + j) = T (3 * j + 2)) ∧ (1 ≤ st.2.1 → s 93 (nd + st.1) = T (3 * st.1) ∧ s 94 (nd + st.1) = st.2.2) ∧ (2 ≤ st.2.1 → s 20 (nd + st.1) = T (3 * st.1 + 1))
theorem Xdw_u {σ s : xW} {nd c x v : Int} (h : Xdw σ s nd) (hx : nd ≤ x) (hc : c = 93 ∨ c = 94 ∨ (c = 20 ∧ -1 ≤ v ∧ v ≤ 9)) : Xdw σ (xu s c x v) nd := by
  obtain ⟨h1, h2, h3⟩ := h
  refine ⟨fun y y1 y2 y3 => ?_, fun d d1 => ?_, fun d d1 d2 => ?_⟩
  · rw [xu_row _ _ _ (by omega)]; exact h1 y y1 y2 y3
  · have q := h2 d d1
    have e : ∀ y : Int, xu s c x v y d = s y d := fun y => by
      unfold xu
      rw [if_neg (fun w => by omega)]
    rw [e, e, e]
    exact q
  · by_cases z : c = 20 ∧ d = x
    · rw [z.1, z.2, xu_same]; omega
    · have e : xu s c x v 20 d = s 20 d := by
        unfold xu
        rw [if_neg (fun w => z ⟨w.1.symm, w.2⟩)]
      rw [e]
      exact h3 d d1 d2
theorem deed_step {nh nd n i : Int} {fu : Nat} {T : Int → Int} {st : Int × Int × Int} {σ s : xW} {K : Int → Int → Int → xW → Option (Int × xW)} (ht : 0 ≤ σ 1 1 ∧ σ 1 1 ≤ 80) (hb : ∀ i : Int, 0 ≤ σ 2 i ∧ σ 2 i ≤ 255) (hnh : σ 0 14 = nh ∧ 0 ≤ nh ∧ nh ≤ 8) (hnd : σ 92 0 = nd ∧ 0 ≤ nd ∧ nd ≤ 8) (hi : 0 ≤ i ∧ i < σ 1 1 ∧ i ≠ 55) (hp : st.2.1 ≤ 80) (hs : Xds nh nd T st) (hc : Xdc σ s nd T st) :
    (∃ st' s', xdst nh nd st (σ 2 i) = some st' ∧ F_X10_readDeeds_6 (fu + 1) st.1 st.2.1 i s K = F_X10_readDeeds_6 fu st'.1 st'.2.1 (i + 1) s' K ∧ Xdc σ s' nd (xdtb st (σ 2 i) T) st') ∨ (xdst nh nd st (σ 2 i) = none ∧ ∃ s', F_X10_readDeeds_6 (fu + 1) st.1 st.2.1 i s K = some (-1 - i, s') ∧ Xdw σ s' nd) := by
  obtain ⟨k, part, m⟩ := st
  obtain ⟨w1, w2, w3, w4⟩ := id hc
  obtain ⟨h1, h2, h3, h4, h5, h6, h7, h8, h9, h10⟩ := hs
  simp only at h1 h2 h3 h4 h5 h6 h7 h8 h9 h10 w2 w3 w4 hp ⊢
  have e1 : s 1 = σ 1 := w1.1 1 (by decide) (by decide) (by decide)
  have e2 : s 2 = σ 2 := w1.1 2 (by decide) (by decide) (by decide)
  have e92 : s 92 0 = nd := by rw [w1.1 92 (by decide) (by decide) (by decide)]; exact hnd.1
  have hbi := hb i
  have hat : F_X8_at i s = some (σ 2 i) := by rw [at_c (by rw [e1]; exact ht) (by rw [e2]; exact hb) (by omega), e1, e2, if_pos ⟨hi.1, hi.2.1⟩]
  have hdg : F_X8_digit i s = some (if 48 ≤ σ 2 i ∧ σ 2 i ≤ 57 then σ 2 i - 48 else -1) := by rw [digit_c (by rw [e1]; exact ht) (by rw [e2]; exact hb) (by rw [e1]; omega), e2]
  by_cases z : 2 < part ∧ σ 2 i = 59
  · refine Or.inl ⟨(k + 1, 0, 0), s, ?_, ?_, ?_⟩
    · unfold xdst
      simp only
      rw [if_pos z]
    · rw [F_X10_readDeeds_6, e1, xw_sm (x := i) (by omega) (by omega), xw_sm (x := σ 1 1) (by omega) (by omega), if_pos hi.2.1, if_neg hi.2.2, xw_sm (x := part) (by omega) (by omega)]
      simp only [xjn]
      rw [if_pos z.1, hat]
      simp only [xbp_n]
      rw [xw_sm (x := σ 2 i) (by omega) (by omega), if_pos z.2]
    · unfold xdtb
      simp only
      rw [if_neg (by omega), if_neg (by omega), if_pos z]
      refine ⟨w1, fun j j1 j2 => ?_, fun w => by simp only at w; omega, fun w => by simp only at w; omega⟩
      simp only at j2
      by_cases y : j = k
      · rw [y]
        have q1 := w3 (by omega)
        have q2 := w4 (by omega)
        exact ⟨q1.1, q2, by rw [q1.2, (h9 (by omega)).2.2]⟩
      · exact w2 j j1 (by omega)
  · have hF : F_X10_readDeeds_6 (fu + 1) k part i s K = xbd (F_X10_fitsDeed (nd + k) part i s) fun r17 s18 => if (xw r17) ≠ 0 then F_X10_readDeeds_6 fu k (part + 1) (i + 1) s18 K else some (((-1) - i), s18) := by
      rw [F_X10_readDeeds_6, e1, e92, xw_sm (x := i) (by omega) (by omega), xw_sm (x := σ 1 1) (by omega) (by omega), if_pos hi.2.1, if_neg hi.2.2, xw_sm (x := part) (by omega) (by omega)]
      simp only [xjn]
      by_cases y : 2 < part
      · rw [if_pos y, hat]
        simp only [xbp_n]
        rw [xw_sm (x := σ 2 i) (by omega) (by omega), if_neg (fun w => z ⟨y, w⟩)]
      · rw [if_neg y]
    rw [hF]
    have bad : ∀ s', F_X10_fitsDeed (nd + k) part i s = some (0, s') → (xbd (F_X10_fitsDeed (nd + k) part i s) fun r17 s18 => if (xw r17) ≠ 0 then F_X10_readDeeds_6 fu k (part + 1) (i + 1) s18 K else some (((-1) - i), s18)) = some (-1 - i, s') := fun s' e => by
      rw [e]
      simp only [xbd_n]
      rw [if_neg (show ¬ xw 0 ≠ 0 by decide)]
    have good : ∀ s', F_X10_fitsDeed (nd + k) part i s = some (1, s') → (xbd (F_X10_fitsDeed (nd + k) part i s) fun r17 s18 => if (xw r17) ≠ 0 then F_X10_readDeeds_6 fu k (part + 1) (i + 1) s18 K else some (((-1) - i), s18)) = F_X10_readDeeds_6 fu k (part + 1) (i + 1) s' K := fun s' e => by
      rw [e]
      simp only [xbd_n]
      rw [if_pos (show xw 1 ≠ 0 by decide)]
    unfold xdst
    simp only
    rw [if_neg z]
    by_cases z1 : 8 ≤ nd + k
    · refine Or.inr ⟨by rw [if_pos z1], s, bad s ?_, w1⟩
      unfold F_X10_fitsDeed
      rw [xw_sm (x := nd + k) (by omega) (by omega), if_pos z1]
    · rw [if_neg z1]
      by_cases z2 : part = 0
      · rw [if_pos z2]
        obtain ⟨r3, hr3⟩ : ∃ r3, r3 = if 48 ≤ σ 2 i ∧ σ 2 i ≤ 57 then σ 2 i - 48 else -1 := ⟨_, rfl⟩
        have hr3b : -1 ≤ r3 ∧ r3 ≤ 9 := by rw [hr3]; split <;> omega
        have hfd : F_X10_fitsDeed (nd + k) part i s = some (if 0 ≤ r3 ∧ r3 < nh then 1 else 0, xu (xu s 93 (nd + k) (max 0 r3)) 94 (nd + k) 0) := by
          unfold F_X10_fitsDeed
          rw [xw_sm (x := nd + k) (by omega) (by omega), if_neg z1, hdg, ← hr3, xw_sm (x := part) (by omega) (by omega)]
          simp only [xbp_s, xbd_s, xls, xli, xlt, xjn]
          rw [if_pos z2, xgd_t (by omega), xgd_t (by omega), xw_sm (x := r3) (by omega) (by omega), isHouse_c (by omega) (by rw [xu_row _ _ _ (show (0 : Int) ≠ 94 by decide), xu_row _ _ _ (show (0 : Int) ≠ 93 by decide), w1.1 0 (by decide) (by decide) (by decide), hnh.1]; exact hnh.2), xu_row _ _ _ (show (0 : Int) ≠ 94 by decide), xu_row _ _ _ (show (0 : Int) ≠ 93 by decide), w1.1 0 (by decide) (by decide) (by decide), hnh.1]
          simp only [xbp_s, xbd_s, xls, xli, xlt, xjn]
          rw [xgd_t (by split <;> decide)]
        have hw : Xdw σ (xu (xu s 93 (nd + k) (max 0 r3)) 94 (nd + k) 0) nd := Xdw_u (Xdw_u w1 (by omega) (Or.inl rfl)) (by omega) (Or.inr (Or.inl rfl))
        by_cases y : 0 ≤ r3 ∧ r3 < nh
        · have e3 : r3 = σ 2 i - 48 := by
            rw [hr3] at y ⊢
            by_cases q : 48 ≤ σ 2 i ∧ σ 2 i ≤ 57
            · rw [if_pos q]
            · rw [if_neg q] at y; omega
          rw [if_pos y] at hfd
          refine Or.inl ⟨(k, 1, 0), xu (xu s 93 (nd + k) (max 0 r3)) 94 (nd + k) 0, by rw [if_pos (by omega)], ?_, ?_⟩
          · refine Eq.trans (good _ hfd) ?_
            rw [z2]
            rfl
          · unfold xdtb
            simp only
            rw [if_pos z2]
            refine ⟨hw, fun j j1 j2 => ?_, fun _ => ?_, fun w => by simp only at w; omega⟩
            · simp only at j2
              simp only
              rw [if_neg (by omega), if_neg (by omega), if_neg (by omega), if_neg (by omega), if_neg (by omega), if_neg (by omega), xu_row _ _ _ (show (93 : Int) ≠ 94 by decide), xu_slot _ _ _ (show nd + j ≠ nd + k by omega), xu_row _ _ _ (show (20 : Int) ≠ 94 by decide), xu_row _ _ _ (show (20 : Int) ≠ 93 by decide), xu_slot _ _ _ (show nd + j ≠ nd + k by omega), xu_row _ _ _ (show (94 : Int) ≠ 93 by decide)]
              exact w2 j j1 j2
            · simp only
              rw [if_pos trivial, xu_same, xu_row _ _ _ (show (93 : Int) ≠ 94 by decide), xu_same]
              omega
        · rw [if_neg y] at hfd
          refine Or.inr ⟨?_, _, bad _ hfd, hw⟩
          rw [if_neg (fun q => y (by rw [hr3, if_pos (by omega)]; omega))]
      · rw [if_neg z2]
        by_cases z3 : part = 1
        · rw [if_pos z3]
          obtain ⟨r3, hr3⟩ : ∃ r3, r3 = if 48 ≤ σ 2 i ∧ σ 2 i ≤ 57 then σ 2 i - 48 else -1 := ⟨_, rfl⟩
          have hr3b : -1 ≤ r3 ∧ r3 ≤ 9 := by rw [hr3]; split <;> omega
          have hfd : F_X10_fitsDeed (nd + k) part i s = some (if 0 < r3 then 1 else 0, xu s 20 (nd + k) r3) := by
            unfold F_X10_fitsDeed
            rw [xw_sm (x := nd + k) (by omega) (by omega), if_neg z1, hdg, ← hr3, xw_sm (x := part) (by omega) (by omega)]
            simp only [xbp_s, xbd_s, xls, xli, xlt, xjn]
            rw [if_neg z2, if_pos z3, xgd_t (by omega), xw_sm (x := r3) (by omega) (by omega), xgd_t (by split <;> decide)]
          have hw : Xdw σ (xu s 20 (nd + k) r3) nd := Xdw_u w1 (by omega) (Or.inr (Or.inr ⟨rfl, hr3b⟩))
          have q := w3 (by omega)
          have q6 := h6 (by omega)
          by_cases y : 0 < r3
          · have e3 : r3 = σ 2 i - 48 ∧ 49 ≤ σ 2 i ∧ σ 2 i ≤ 57 := by
              rw [hr3] at y ⊢
              by_cases q : 48 ≤ σ 2 i ∧ σ 2 i ≤ 57
              · rw [if_pos q] at y ⊢; omega
              · rw [if_neg q] at y; omega
            rw [if_pos y] at hfd
            refine Or.inl ⟨(k, 2, 0), xu s 20 (nd + k) r3, by rw [if_pos e3.2], ?_, ?_⟩
            · refine Eq.trans (good _ hfd) ?_
              rw [z3]
              rfl
            · unfold xdtb
              simp only
              rw [if_neg z2, if_pos z3]
              refine ⟨hw, fun j j1 j2 => ?_, fun _ => ?_, fun _ => ?_⟩
              · simp only at j2
                simp only
                rw [if_neg (by omega), if_neg (by omega), if_neg (by omega), xu_row _ _ _ (show (93 : Int) ≠ 20 by decide), xu_slot _ _ _ (show nd + j ≠ nd + k by omega), xu_row _ _ _ (show (94 : Int) ≠ 20 by decide)]
                exact w2 j j1 j2
              · simp only
                rw [if_neg (by omega), xu_row _ _ _ (show (93 : Int) ≠ 20 by decide), xu_row _ _ _ (show (94 : Int) ≠ 20 by decide)]
                exact ⟨q.1, by omega⟩
              · simp only
                rw [if_pos trivial, xu_same]
                exact e3.1
          · rw [if_neg y] at hfd
            refine Or.inr ⟨?_, _, bad _ hfd, hw⟩
            rw [if_neg (fun q => y (by rw [hr3, if_pos (by omega)]; omega))]
        · rw [if_neg z3]
          have q := w3 (by omega)
          have hfd : F_X10_fitsDeed (nd + k) part i s = if (97 ≤ σ 2 i ∧ σ 2 i ≤ 100) ∧ xshr m (σ 2 i - 97) = 0 then some (1, xu s 94 (nd + k) (xor' m (xshl 1 (σ 2 i - 97)))) else some (0, s) := by
            unfold F_X10_fitsDeed
            rw [xw_sm (x := nd + k) (by omega) (by omega), if_neg z1, hdg, xw_sm (x := part) (by omega) (by omega)]
            simp only [xbp_s, xbd_s, xls, xli, xlt, xjn]
            rw [if_neg z2, if_neg z3, hat]
            simp only [xbp_s, xbd_s, xls, xli, xlt, xjn]
            rw [xw_sm (x := σ 2 i - 97) (by omega) (by omega), if_pos (show xw 1 ≠ 0 by decide), if_neg (show ¬ xw 0 ≠ 0 by decide), q.2, xw_id (show I32 (xshr m (σ 2 i - 97)) from I32_toInt _)]
            by_cases y1 : 0 ≤ σ 2 i - 97
            · rw [if_pos y1]
              by_cases y2 : σ 2 i - 97 < 4
              · rw [if_pos y2, xgd_t (by omega)]
                by_cases y3 : xshr m (σ 2 i - 97) = 0
                · rw [if_pos y3, if_pos ⟨by omega, y3⟩, xgd_t (by omega), xgd_t (by omega), xgd_t (by decide)]
                · rw [if_neg y3, if_neg (fun w => y3 w.2), xgd_t (by decide)]
              · rw [if_neg y2, if_neg (fun w => by omega), xgd_t (by decide)]
            · rw [if_neg y1, if_neg (fun w => by omega), xgd_t (by decide)]
          by_cases y : (97 ≤ σ 2 i ∧ σ 2 i ≤ 100) ∧ xshr m (σ 2 i - 97) = 0
          · rw [if_pos y] at hfd
            refine Or.inl ⟨(k, part + 1, xor' m (xshl 1 (σ 2 i - 97))), _, by rw [if_pos y], good _ hfd, ?_⟩
            unfold xdtb
            simp only
            rw [if_neg z2, if_neg z3, if_neg z]
            refine ⟨Xdw_u w1 (by omega) (Or.inr (Or.inl rfl)), fun j j1 j2 => ?_, fun _ => ?_, fun _ => ?_⟩
            · simp only at j2
              simp only
              rw [if_neg (by omega), if_neg (by omega), if_neg (by omega), xu_row _ _ _ (show (93 : Int) ≠ 94 by decide), xu_slot _ _ _ (show nd + j ≠ nd + k by omega), xu_row _ _ _ (show (20 : Int) ≠ 94 by decide)]
              exact w2 j j1 j2
            · simp only
              rw [if_neg (by omega), xu_same, xu_row _ _ _ (show (93 : Int) ≠ 94 by decide)]
              exact ⟨q.1, rfl⟩
            · simp only
              rw [if_neg (by omega), xu_row _ _ _ (show (20 : Int) ≠ 94 by decide)]
              exact w4 (by omega)
          · rw [if_neg y] at hfd
            exact Or.inr ⟨by rw [if_neg y], s, bad s hfd, w1⟩
