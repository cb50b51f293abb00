/-! week: the reference reads -/
theorem idx_f {c : Int} (h : ¬ xdo c = 0) : (0 ≤ xidx c ∧ xidx c ≤ 4) ∧ (xidx c = 1 ↔ c = 98) ∧ (xidx c = 3 ↔ c = 108) ∧ (xidx c < 2 ↔ xdo c = 1) ∧ (xidx c < 4 ↔ xdo c ≤ 2) ∧ (xidx c = 0 ↔ c = 110) ∧ (xidx c = 2 ↔ c = 103) ∧ (xidx c = 4 ↔ c = 109) := by
  have hc : c = 110 ∨ c = 98 ∨ c = 103 ∨ c = 108 ∨ c = 109 := by
    unfold xdo at h
    by_cases q1 : c = 98 ∨ c = 110
    · omega
    · by_cases q2 : c = 103 ∨ c = 108
      · omega
      · by_cases q3 : c = 109
        · omega
        · rw [if_neg q1, if_neg q2, if_neg q3] at h; omega
  rcases hc with rfl | rfl | rfl | rfl | rfl <;> decide
/-- act kk as it was read at p -/
def Xact (s s' : xW) (f : Int → Int) (p kk : Int) : Prop := (∀ j : Int, s' 137 j = if j = kk then xidx (f p) else s 137 j) ∧ (∀ j : Int, s' 138 j = if j = kk then f (p + 1) - 48 else s 138 j) ∧ (∀ j : Int, j ≠ kk → s' 139 j = s 139 j ∧ s' 140 j = s 140 j) ∧ (2 ≤ xdo (f p) → s' 139 kk = f (p + 2) - 48) ∧ (3 ≤ xdo (f p) → s' 140 kk = f (p + 3) - 48)
theorem readsAct_m {f : Int → Int} {E p : Nat} {l0 kk : Int} {s : xW} (hE : E ≤ 80) (hs : Xat s f (p : Int) (E : Int)) (hp : (p : Int) < E) (hd : xwd f p = some (l0, 0)) (e36 : s 121 36 = kk) (hk : 0 ≤ kk ∧ kk < 60) :
    ∃ (r : Int) (s' : xW) (q : Nat) (st : Int × Int), F_X11_readsAct s = some (r, s') ∧ p ≤ q ∧ Xat s' f (q : Int) (E : Int) ∧ xwd f q = some st ∧ (∀ k, k ≠ 16 → k ≠ 36 → s' 121 k = s 121 k) ∧
      ((r = 1 ∧ st.2 = 0 ∧ (q : Int) = p + 1 + xdo (f p) ∧ xdo (f p) ≠ 0 ∧ s' 121 36 = kk + 1 ∧ Xact s s' f p kk) ∨ (r = 0 ∧ (q = E ∨ xwd f (q + 1) = none) ∧ ¬ (q = E ∧ st.2 = 0))) := by
  have q0 := hs.2.2.2 p (by omega) hp
  have hdo := xdo_r (f p)
  have et := takes_nbglm hs hp
  by_cases z : xdo (f p) = 0
  · rw [if_pos z] at et
    obtain ⟨s7, hs7⟩ : ∃ s7, s7 = xu (xu s 137 kk (-1)) 121 36 (kk + 1) := ⟨_, rfl⟩
    refine ⟨0, s7, p, (l0, 0), ?_, Nat.le_refl _, Xat_o hs (by rw [hs7, xu_slot _ _ _ (show (16 : Int) ≠ 36 by decide), xu_row _ _ _ (show (121 : Int) ≠ 137 by decide)]) (by rw [hs7, xu_slot _ _ _ (show (17 : Int) ≠ 36 by decide), xu_row _ _ _ (show (121 : Int) ≠ 137 by decide)]) (by rw [hs7, xu_row _ _ _ (show (129 : Int) ≠ 121 by decide), xu_row _ _ _ (show (129 : Int) ≠ 137 by decide)]), hd, fun k _ k2 => by rw [hs7, xu_slot _ _ _ k2, xu_row _ _ _ (show (121 : Int) ≠ 137 by decide)], Or.inr ⟨rfl, Or.inr ?_, fun w => by omega⟩⟩
    · have e36' : (xu s 137 kk (-1)) 121 36 = kk := by rw [xu_row _ _ _ (show (121 : Int) ≠ 137 by decide)]; exact e36
      unfold F_X11_readsAct
      rw [et, e36]
      simp only [xbp_s, xbd_s, xls, xli, xlt, xjn]
      rw [e36', ← hs7, xgd_t (by omega), xgd_t (by omega)]
      have : s7 137 kk = -1 := by rw [hs7, xu_row _ _ _ (show (137 : Int) ≠ 121 by decide), xu_same]
      rw [this, if_pos (by decide)]
    · rw [xwd_s hd]
      unfold xws
      rw [if_pos rfl, if_pos z]
  · rw [if_neg z] at et
    obtain ⟨i1, i2, i3, i4, i5, _, _, _⟩ := idx_f z
    obtain ⟨a, ha⟩ : ∃ a, a = xidx (f p) := ⟨_, rfl⟩
    rw [← ha] at et i1 i2 i3 i4 i5
    obtain ⟨s7, hs7⟩ : ∃ s7, s7 = xu (xu (xu s 121 16 ((p : Int) + 1)) 137 kk a) 121 36 (kk + 1) := ⟨_, rfl⟩
    have h7 : Xat s7 f ((p + 1 : Nat) : Int) (E : Int) := by
      have := Xat_u (q := (p : Int) + 1) hs (by omega)
      rw [show ((p + 1 : Nat) : Int) = (p : Int) + 1 by omega]
      exact Xat_o this (by rw [hs7, xu_slot _ _ _ (show (16 : Int) ≠ 36 by decide), xu_row _ _ _ (show (121 : Int) ≠ 137 by decide)]) (by rw [hs7, xu_slot _ _ _ (show (17 : Int) ≠ 36 by decide), xu_row _ _ _ (show (121 : Int) ≠ 137 by decide)]) (by rw [hs7, xu_row _ _ _ (show (129 : Int) ≠ 121 by decide), xu_row _ _ _ (show (129 : Int) ≠ 137 by decide)])
    have k7 : ∀ k, k ≠ 16 → k ≠ 36 → s7 121 k = s 121 k := fun k k1 k2 => by rw [hs7, xu_slot _ _ _ k2, xu_row _ _ _ (show (121 : Int) ≠ 137 by decide), xu_slot _ _ _ k1]
    have k736 : s7 121 36 = kk + 1 := by rw [hs7, xu_same]
    have k137 : ∀ j : Int, s7 137 j = if j = kk then a else s 137 j := fun j => by
      rw [hs7, xu_row _ _ _ (show (137 : Int) ≠ 121 by decide)]
      by_cases w : j = kk
      · rw [w, xu_same, if_pos rfl]
      · rw [xu_slot _ _ _ w, if_neg w, xu_row _ _ _ (show (137 : Int) ≠ 121 by decide)]
    have k137k : s7 137 kk = a := by rw [k137, if_pos rfl]
    have k7o : ∀ c : Int, c ≠ 121 → c ≠ 137 → s7 c = s c := fun c c1 c2 => by rw [hs7, xu_row _ _ _ c1, xu_row _ _ _ c2, xu_row _ _ _ c1]
    have hd1 : xwd f (p + 1) = some (f p, xdo (f p)) := by
      rw [xwd_s hd]
      unfold xws
      rw [if_pos rfl, if_neg z]
    have flg : ∀ (P : Prop) [Decidable P] (t : xW), F_X11_flag (if P then 1 else 0) t = some (if P then 1 else 0) := fun P _ t => by
      by_cases w : P
      · rw [if_pos w]; rfl
      · rw [if_neg w]; rfl
    obtain ⟨l1, hl1⟩ : ∃ l1 : Int, l1 = if a = 1 then 1 else 0 := ⟨_, rfl⟩
    have hl1b : 0 ≤ l1 ∧ l1 ≤ 1 := by rw [hl1]; split <;> omega
    have hlo1 : xwlo (f p) (xdo (f p)) = l1 := by
      unfold xwlo
      rw [hl1]
      by_cases w : a = 1
      · rw [if_pos w, if_pos (Or.inl (i2.1 w))]
      · rw [if_neg w, if_neg (fun u => by
          rcases u with u | u
          · exact w (i2.2 u)
          · have := i3.2 u.1
            omega)]
    have hF : F_X11_readsAct s = xbd (F_X11_digitIn l1 9 s7) fun r19 s20 =>
        xls (xu s20 138 kk r19) fun s22 =>
        xjn (
          xli (if 0 ≤ (xw (s22 138 kk)) then 1 else 0) fun v30 =>
          xgd (v30 = 0 ∨ v30 = 1) <|
          some (v30, s22)
        ) fun j25 =>
        if 0 ≤ (xw (s22 138 kk)) then
          if (xw (s22 137 kk)) < 2 then
            j25
          else
            xli (if (xw (s22 137 kk)) = 3 then 1 else 0) fun v39 =>
            xbp (F_X11_flag v39 s22) fun r43 =>
            xbd (F_X11_digitIn r43 9 s22) fun r45 s46 =>
            xls (xu s46 139 kk r45) fun s48 =>
            xjn (
              xli (if 0 ≤ (xw (s48 139 kk)) then 1 else 0) fun v56 =>
              xgd (v56 = 0 ∨ v56 = 1) <|
              some (v56, s48)
            ) fun j51 =>
            if 0 ≤ (xw (s48 139 kk)) then
              if (xw (s48 137 kk)) < 4 then
                j51
              else
                xbd (F_X11_number 1 s48) fun r64 s65 =>
                xls (xu s65 140 kk r64) fun s67 =>
                xli (if 0 ≤ (xw (s67 140 kk)) then 1 else 0) fun v71 =>
                xgd (v71 = 0 ∨ v71 = 1) <|
                some (v71, s67)
            else
              j51
        else
          j25 := by
      have e36' : (xu (xu s 121 16 ((p : Int) + 1)) 137 kk a) 121 36 = kk := by rw [xu_row _ _ _ (show (121 : Int) ≠ 137 by decide), xu_slot _ _ _ (show (36 : Int) ≠ 16 by decide)]; exact e36
      unfold F_X11_readsAct
      rw [et, e36]
      simp only [xbp_s, xbd_s, xls, xli, xlt, xjn]
      rw [e36', ← hs7, xgd_t (by omega), xgd_t (by omega), k137k, xw_sm (x := a) (by omega) (by omega), if_neg (by omega), xgd_t (by omega), flg, ← hl1]
      simp only [xbp_s, xbd_s, xls, xli, xlt, xjn, xgd_t (show 0 ≤ kk ∧ kk < 60 from hk)]
    rw [hF]
    by_cases z1 : ((p + 1 : Nat) : Int) < E ∧ l1 ≤ f ((p + 1 : Nat) : Int) - 48 ∧ f ((p + 1 : Nat) : Int) - 48 ≤ 9
    · have q1 := hs.2.2.2 ((p + 1 : Nat) : Int) (by omega) z1.1
      have ep1 : f ((p + 1 : Nat) : Int) = f ((p : Int) + 1) := by rw [show ((p + 1 : Nat) : Int) = (p : Int) + 1 by omega]
      have hd2 : xwd f (p + 1 + 1) = some (f p, xdo (f p) - 1) := by
        rw [xwd_s hd1]
        unfold xws
        simp only
        rw [if_neg z, hlo1, if_pos (by omega)]
      rw [digitIn_1 h7 (by omega) (by omega) z1]
      simp only [xbp_s, xbd_s, xls, xli, xlt, xjn]
      obtain ⟨s9, hs9⟩ : ∃ s9, s9 = xu (xu s7 121 16 (((p + 1 : Nat) : Int) + 1)) 138 kk (f ((p + 1 : Nat) : Int) - 48) := ⟨_, rfl⟩
      rw [← hs9]
      have h9 : Xat s9 f ((p + 1 + 1 : Nat) : Int) (E : Int) := by
        have := Xat_u (q := ((p + 1 : Nat) : Int) + 1) h7 (by omega)
        rw [show ((p + 1 + 1 : Nat) : Int) = ((p + 1 : Nat) : Int) + 1 by omega]
        exact Xat_o this (by rw [hs9, xu_row _ _ _ (show (121 : Int) ≠ 138 by decide)]) (by rw [hs9, xu_row _ _ _ (show (121 : Int) ≠ 138 by decide)]) (by rw [hs9, xu_row _ _ _ (show (129 : Int) ≠ 138 by decide)])
      have k9 : ∀ k, k ≠ 16 → s9 121 k = s7 121 k := fun k k1 => by rw [hs9, xu_row _ _ _ (show (121 : Int) ≠ 138 by decide), xu_slot _ _ _ k1]
      have k9o : ∀ c : Int, c ≠ 121 → c ≠ 138 → s9 c = s7 c := fun c c1 c2 => by rw [hs9, xu_row _ _ _ c2, xu_row _ _ _ c1]
      have k138 : ∀ j : Int, s9 138 j = if j = kk then f ((p : Int) + 1) - 48 else s 138 j := fun j => by
        rw [hs9]
        by_cases w : j = kk
        · rw [w, xu_same, if_pos rfl, ep1]
        · rw [xu_slot _ _ _ w, if_neg w, xu_row _ _ _ (show (138 : Int) ≠ 121 by decide), k7o 138 (by decide) (by decide)]
      have k138k : s9 138 kk = f ((p + 1 : Nat) : Int) - 48 := by rw [k138, if_pos rfl, ep1]
      have k9137 : s9 137 = s7 137 := k9o 137 (by decide) (by decide)
      rw [k138k, k9137, k137k, xw_sm (x := f ((p + 1 : Nat) : Int) - 48) (by omega) (by omega), if_pos (show 0 ≤ f ((p + 1 : Nat) : Int) - 48 by omega), if_pos (show 0 ≤ f ((p + 1 : Nat) : Int) - 48 by omega), xw_sm (x := a) (by omega) (by omega), xgd_t (by decide)]
      by_cases z2 : a < 2
      · rw [if_pos z2]
        have hD := i4.1 z2
        refine ⟨1, s9, p + 1 + 1, _, rfl, by omega, h9, hd2, fun k k1 k2 => by rw [k9 k k1, k7 k k1 k2], Or.inl ⟨rfl, by simp only; omega, by omega, z, by rw [k9 36 (by decide)]; exact k736, fun j => by rw [k9137, k137 j, ha], k138, fun j _ => ⟨by rw [k9o 139 (by decide) (by decide), k7o 139 (by decide) (by decide)], by rw [k9o 140 (by decide) (by decide), k7o 140 (by decide) (by decide)]⟩, fun w => by omega, fun w => by omega⟩⟩
      · rw [if_neg z2, flg]
        simp only [xbp_s, xbd_s, xls, xli, xlt, xjn]
        obtain ⟨l2, hl2⟩ : ∃ l2 : Int, l2 = if a = 3 then 1 else 0 := ⟨_, rfl⟩
        have hl2b : 0 ≤ l2 ∧ l2 ≤ 1 := by rw [hl2]; split <;> omega
        have hD2 : 2 ≤ xdo (f p) := by
          by_cases w : xdo (f p) = 1
          · exact absurd (i4.2 w) z2
          · omega
        have hlo2 : xwlo (f p) (xdo (f p) - 1) = l2 := by
          unfold xwlo
          rw [hl2]
          by_cases w : a = 3
          · have := i5.1 (by omega)
            rw [if_pos w, if_pos (Or.inr ⟨i3.1 w, by omega⟩)]
          · rw [if_neg w, if_neg (fun u => by
              rcases u with u | u
              · have := i2.2 u; omega
              · exact w (i3.2 u.1))]
        rw [← hl2]
        by_cases z3 : ((p + 1 + 1 : Nat) : Int) < E ∧ l2 ≤ f ((p + 1 + 1 : Nat) : Int) - 48 ∧ f ((p + 1 + 1 : Nat) : Int) - 48 ≤ 9
        · have q2 := hs.2.2.2 ((p + 1 + 1 : Nat) : Int) (by omega) z3.1
          have ep2 : f ((p + 1 + 1 : Nat) : Int) = f ((p : Int) + 2) := by rw [show ((p + 1 + 1 : Nat) : Int) = (p : Int) + 2 by omega]
          have hd3 : xwd f (p + 1 + 1 + 1) = some (f p, xdo (f p) - 1 - 1) := by
            rw [xwd_s hd2]
            unfold xws
            simp only
            rw [if_neg (by omega), hlo2, if_pos (by omega)]
          rw [digitIn_1 h9 (by omega) (by omega) z3]
          simp only [xbp_s, xbd_s, xls, xli, xlt, xjn]
          obtain ⟨s11, hs11⟩ : ∃ s11, s11 = xu (xu s9 121 16 (((p + 1 + 1 : Nat) : Int) + 1)) 139 kk (f ((p + 1 + 1 : Nat) : Int) - 48) := ⟨_, rfl⟩
          rw [← hs11]
          have h11 : Xat s11 f ((p + 1 + 1 + 1 : Nat) : Int) (E : Int) := by
            have := Xat_u (q := ((p + 1 + 1 : Nat) : Int) + 1) h9 (by omega)
            rw [show ((p + 1 + 1 + 1 : Nat) : Int) = ((p + 1 + 1 : Nat) : Int) + 1 by omega]
            exact Xat_o this (by rw [hs11, xu_row _ _ _ (show (121 : Int) ≠ 139 by decide)]) (by rw [hs11, xu_row _ _ _ (show (121 : Int) ≠ 139 by decide)]) (by rw [hs11, xu_row _ _ _ (show (129 : Int) ≠ 139 by decide)])
          have k11 : ∀ k, k ≠ 16 → s11 121 k = s9 121 k := fun k k1 => by rw [hs11, xu_row _ _ _ (show (121 : Int) ≠ 139 by decide), xu_slot _ _ _ k1]
          have k11o : ∀ c : Int, c ≠ 121 → c ≠ 139 → s11 c = s9 c := fun c c1 c2 => by rw [hs11, xu_row _ _ _ c2, xu_row _ _ _ c1]
          have k139 : ∀ j : Int, s11 139 j = if j = kk then f ((p : Int) + 2) - 48 else s 139 j := fun j => by
            rw [hs11]
            by_cases w : j = kk
            · rw [w, xu_same, if_pos rfl, ep2]
            · rw [xu_slot _ _ _ w, if_neg w, xu_row _ _ _ (show (139 : Int) ≠ 121 by decide), k9o 139 (by decide) (by decide), k7o 139 (by decide) (by decide)]
          have k139k : s11 139 kk = f ((p + 1 + 1 : Nat) : Int) - 48 := by rw [k139, if_pos rfl, ep2]
          have k11137 : s11 137 = s7 137 := by rw [k11o 137 (by decide) (by decide), k9137]
          rw [k139k, k11137, k137k, xw_sm (x := f ((p + 1 + 1 : Nat) : Int) - 48) (by omega) (by omega), if_pos (show 0 ≤ f ((p + 1 + 1 : Nat) : Int) - 48 by omega), if_pos (show 0 ≤ f ((p + 1 + 1 : Nat) : Int) - 48 by omega), xw_sm (x := a) (by omega) (by omega), xgd_t (by decide)]
          by_cases z4 : a < 4
          · rw [if_pos z4]
            have hD := i5.1 z4
            refine ⟨1, s11, p + 1 + 1 + 1, _, rfl, by omega, h11, hd3, fun k k1 k2 => by rw [k11 k k1, k9 k k1, k7 k k1 k2], Or.inl ⟨rfl, by simp only; omega, by omega, z, by rw [k11 36 (by decide), k9 36 (by decide)]; exact k736, fun j => by rw [k11137, k137 j, ha], fun j => by rw [k11o 138 (by decide) (by decide)]; exact k138 j, fun j w => ⟨by rw [k139 j, if_neg w], by rw [k11o 140 (by decide) (by decide), k9o 140 (by decide) (by decide), k7o 140 (by decide) (by decide)]⟩, fun _ => by rw [k139, if_pos rfl], fun w => by omega⟩⟩
          · rw [if_neg z4]
            have hD3 : xdo (f p) = 3 := by
              by_cases w : xdo (f p) ≤ 2
              · exact absurd (i5.2 w) z4
              · omega
            have hlo3 : xwlo (f p) (xdo (f p) - 1 - 1) = 0 := by
              unfold xwlo
              rw [if_neg (fun u => by
                rcases u with u | u
                · have := i2.2 u; omega
                · have := i3.2 u.1; omega)]
            by_cases z5 : xdg f (E : Int) ((p + 1 + 1 + 1 : Nat) : Int)
            · have q3 := hs.2.2.2 ((p + 1 + 1 + 1 : Nat) : Int) (by omega) z5.1
              have ep3 : f ((p + 1 + 1 + 1 : Nat) : Int) = f ((p : Int) + 3) := by rw [show ((p + 1 + 1 + 1 : Nat) : Int) = (p : Int) + 3 by omega]
              have hd4 : xwd f (p + 1 + 1 + 1 + 1) = some (f p, xdo (f p) - 1 - 1 - 1) := by
                rw [xwd_s hd3]
                unfold xws
                simp only
                rw [if_neg (by omega), hlo3, if_pos (by have := z5.2; omega)]
              rw [num_1 h11 z5]
              simp only [xbp_s, xbd_s, xls, xli, xlt, xjn]
              obtain ⟨s13, hs13⟩ : ∃ s13, s13 = xu (xu s11 121 16 (((p + 1 + 1 + 1 : Nat) : Int) + 1)) 140 kk (f ((p + 1 + 1 + 1 : Nat) : Int) - 48) := ⟨_, rfl⟩
              rw [← hs13]
              have h13 : Xat s13 f ((p + 1 + 1 + 1 + 1 : Nat) : Int) (E : Int) := by
                have := Xat_u (q := ((p + 1 + 1 + 1 : Nat) : Int) + 1) h11 (by have := z5.1; omega)
                rw [show ((p + 1 + 1 + 1 + 1 : Nat) : Int) = ((p + 1 + 1 + 1 : Nat) : Int) + 1 by omega]
                exact Xat_o this (by rw [hs13, xu_row _ _ _ (show (121 : Int) ≠ 140 by decide)]) (by rw [hs13, xu_row _ _ _ (show (121 : Int) ≠ 140 by decide)]) (by rw [hs13, xu_row _ _ _ (show (129 : Int) ≠ 140 by decide)])
              have k13 : ∀ k, k ≠ 16 → s13 121 k = s11 121 k := fun k k1 => by rw [hs13, xu_row _ _ _ (show (121 : Int) ≠ 140 by decide), xu_slot _ _ _ k1]
              have k13o : ∀ c : Int, c ≠ 121 → c ≠ 140 → s13 c = s11 c := fun c c1 c2 => by rw [hs13, xu_row _ _ _ c2, xu_row _ _ _ c1]
              have k140k : s13 140 kk = f ((p + 1 + 1 + 1 : Nat) : Int) - 48 := by rw [hs13, xu_same]
              have k140 : ∀ j : Int, j ≠ kk → s13 140 j = s 140 j := fun j w => by
                rw [hs13, xu_slot _ _ _ w, xu_row _ _ _ (show (140 : Int) ≠ 121 by decide), k11o 140 (by decide) (by decide), k9o 140 (by decide) (by decide), k7o 140 (by decide) (by decide)]
              rw [k140k, xw_sm (x := f ((p + 1 + 1 + 1 : Nat) : Int) - 48) (by omega) (by omega), if_pos (show 0 ≤ f ((p + 1 + 1 + 1 : Nat) : Int) - 48 by have := z5.2; omega), xgd_t (by decide)]
              refine ⟨1, s13, p + 1 + 1 + 1 + 1, _, rfl, by omega, h13, hd4, fun k k1 k2 => by rw [k13 k k1, k11 k k1, k9 k k1, k7 k k1 k2], Or.inl ⟨rfl, by simp only; omega, by omega, z, by rw [k13 36 (by decide), k11 36 (by decide), k9 36 (by decide)]; exact k736, fun j => by rw [k13o 137 (by decide) (by decide), k11137, k137 j, ha], fun j => by rw [k13o 138 (by decide) (by decide), k11o 138 (by decide) (by decide)]; exact k138 j, fun j w => ⟨by rw [k13o 139 (by decide) (by decide), k139 j, if_neg w], k140 j w⟩, fun _ => by rw [k13o 139 (by decide) (by decide), k139, if_pos rfl], fun _ => by rw [k140k, ep3]⟩⟩
            · rw [num_0 h11 z5]
              simp only [xbp_s, xbd_s, xls, xli, xlt, xjn]
              rw [xu_same, if_neg (show ¬ 0 ≤ xw (-1) by decide), xgd_t (by decide)]
              refine ⟨0, _, p + 1 + 1 + 1, _, rfl, by omega, Xat_o h11 (by rw [xu_row _ _ _ (show (121 : Int) ≠ 140 by decide)]) (by rw [xu_row _ _ _ (show (121 : Int) ≠ 140 by decide)]) (by rw [xu_row _ _ _ (show (129 : Int) ≠ 140 by decide)]), hd3, fun k k1 k2 => by rw [xu_row _ _ _ (show (121 : Int) ≠ 140 by decide), k11 k k1, k9 k k1, k7 k k1 k2], Or.inr ⟨rfl, ?_, fun w => by simp only at w; omega⟩⟩
              by_cases w : ((p + 1 + 1 + 1 : Nat) : Int) < E
              · refine Or.inr ?_
                rw [xwd_s hd3]
                unfold xws
                simp only
                rw [if_neg (by omega), hlo3, if_neg (fun u => z5 ⟨w, by omega⟩)]
              · exact Or.inl (by omega)
        · rw [digitIn_0 h9 (by omega) (by omega) z3]
          simp only [xbp_s, xbd_s, xls, xli, xlt, xjn]
          rw [xu_same, if_neg (show ¬ 0 ≤ xw (-1) by decide), if_neg (show ¬ 0 ≤ xw (-1) by decide), xgd_t (by decide)]
          refine ⟨0, _, p + 1 + 1, _, rfl, by omega, Xat_o h9 (by rw [xu_row _ _ _ (show (121 : Int) ≠ 139 by decide)]) (by rw [xu_row _ _ _ (show (121 : Int) ≠ 139 by decide)]) (by rw [xu_row _ _ _ (show (129 : Int) ≠ 139 by decide)]), hd2, fun k k1 k2 => by rw [xu_row _ _ _ (show (121 : Int) ≠ 139 by decide), k9 k k1, k7 k k1 k2], Or.inr ⟨rfl, ?_, fun w => by simp only at w; omega⟩⟩
          by_cases w : ((p + 1 + 1 : Nat) : Int) < E
          · refine Or.inr ?_
            rw [xwd_s hd2]
            unfold xws
            simp only
            rw [if_neg (by omega), hlo2, if_neg (fun u => z3 ⟨w, by omega⟩)]
          · exact Or.inl (by omega)
    · rw [digitIn_0 h7 (by omega) (by omega) z1]
      simp only [xbp_s, xbd_s, xls, xli, xlt, xjn]
      rw [xu_same, if_neg (show ¬ 0 ≤ xw (-1) by decide), if_neg (show ¬ 0 ≤ xw (-1) by decide), xgd_t (by decide)]
      refine ⟨0, _, p + 1, _, rfl, by omega, Xat_o h7 (by rw [xu_row _ _ _ (show (121 : Int) ≠ 138 by decide)]) (by rw [xu_row _ _ _ (show (121 : Int) ≠ 138 by decide)]) (by rw [xu_row _ _ _ (show (129 : Int) ≠ 138 by decide)]), hd1, fun k k1 k2 => by rw [xu_row _ _ _ (show (121 : Int) ≠ 138 by decide), k7 k k1 k2], Or.inr ⟨rfl, ?_, fun w => by simp only at w; omega⟩⟩
      by_cases w : ((p + 1 : Nat) : Int) < E
      · refine Or.inr ?_
        rw [xwd_s hd1]
        unfold xws
        simp only
        rw [if_neg z, hlo1, if_neg (fun u => z1 ⟨w, by omega⟩)]
      · exact Or.inl (by omega)
