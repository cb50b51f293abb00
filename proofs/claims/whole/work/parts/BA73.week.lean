/-! week: what both read -/
def xdo (ch : Int) : Int := if ch = 98 ∨ ch = 110 then 1 else if ch = 103 ∨ ch = 108 then 2 else if ch = 109 then 3 else 0
theorem xdo_r (ch : Int) : 0 ≤ xdo ch ∧ xdo ch ≤ 3 := by
  unfold xdo
  (repeat' split) <;> omega
theorem digitsOf_c {a : Int} {s : xW} (ha : 0 ≤ a ∧ a ≤ 255) : F_X10_digitsOf a s = some (xdo a) := by
  unfold F_X10_digitsOf xdo
  rw [xw_sm (x := a) (by omega) (by omega)]
  simp only [xjn]
  by_cases q1 : a = 98
  · rw [if_pos q1, if_pos (Or.inl q1)]
  by_cases q2 : a = 103
  · rw [if_neg q1, if_neg (by omega), if_neg (by omega), if_neg (by omega), if_neg (by omega), if_pos q2, if_neg (by omega), if_pos (Or.inl q2)]
  by_cases q3 : a = 108
  · rw [if_neg q1, if_neg (by omega), if_neg (by omega), if_neg (by omega), if_neg (by omega), if_neg q2, if_neg (by omega), if_neg (by omega), if_neg (by omega), if_neg (by omega), if_pos q3, if_neg (by omega), if_pos (Or.inr q3)]
  by_cases q4 : a = 109
  · rw [if_neg q1, if_neg (by omega), if_neg (by omega), if_neg (by omega), if_neg (by omega), if_neg q2, if_neg (by omega), if_neg (by omega), if_neg (by omega), if_neg (by omega), if_neg q3, if_pos q4, if_neg (by omega), if_neg (by omega), if_pos q4]
  by_cases q5 : a = 110
  · rw [if_neg q1, if_neg (by omega), if_neg (by omega), if_neg (by omega), if_neg (by omega), if_neg q2, if_neg (by omega), if_neg (by omega), if_neg (by omega), if_neg (by omega), if_neg q3, if_neg q4, if_pos q5, if_pos (Or.inr q5)]
  rw [if_neg q1, if_neg (show ¬ (a = 98 ∨ a = 110) by omega), if_neg (show ¬ (a = 103 ∨ a = 108) by omega), if_neg q4]
  (repeat' split) <;> first | rfl | omega
def xwlo (l left : Int) : Int := if l = 98 ∨ (l = 108 ∧ left = 1) then 1 else 0
def xws (st : Int × Int) (ch : Int) : Option (Int × Int) :=
  if st.2 = 0 then (if xdo ch = 0 then none else some (ch, xdo ch))
  else if 48 + xwlo st.1 st.2 ≤ ch ∧ ch ≤ 57 then some (st.1, st.2 - 1) else none
def xwd (f : Int → Int) : Nat → Option (Int × Int)
  | 0 => some (0, 0)
  | i + 1 => match xwd f i with
    | none => none
    | some st => xws st (f i)
theorem xwd_s {f : Int → Int} {i : Nat} {st : Int × Int} (h : xwd f i = some st) : xwd f (i + 1) = xws st (f i) := by
  show (match xwd f i with | none => none | some st => xws st (f i)) = _
  rw [h]
theorem xwd_n {f : Int → Int} {i : Nat} (h : xwd f i = none) : ∀ j : Nat, xwd f (i + j) = none
  | 0 => h
  | j + 1 => by
    show (match xwd f (i + j) with | none => none | some st => xws st (f ((i + j : Nat) : Int))) = _
    rw [xwd_n h j]
theorem xwd_u {f : Int → Int} {c d E : Nat} {a b : Int × Int} (h1 : xwd f c = some a) (h2 : c = E ∨ xwd f (c + 1) = none) (h3 : xwd f d = some b) (h4 : d = E ∨ xwd f (d + 1) = none) (hc : c ≤ E) (hd : d ≤ E) : c = d ∧ a = b := by
  have e : c = d := by
    by_cases z1 : c < d
    · rcases h2 with w | w
      · omega
      · have := xwd_n w (d - (c + 1))
        rw [show c + 1 + (d - (c + 1)) = d by omega, h3] at this
        exact nomatch this
    · by_cases z2 : d < c
      · rcases h4 with w | w
        · omega
        · have := xwd_n w (c - (d + 1))
          rw [show d + 1 + (c - (d + 1)) = c by omega, h1] at this
          exact nomatch this
      · omega
  rw [e, h3] at h1
  injection h1 with h1
  exact ⟨e, h1.symm⟩
theorem xwd_r {f : Int → Int} (hf : ∀ i : Int, 0 ≤ f i ∧ f i ≤ 255) : ∀ (i : Nat) (st : Int × Int), xwd f i = some st → (0 ≤ st.1 ∧ st.1 ≤ 255) ∧ (0 ≤ st.2 ∧ st.2 ≤ 3)
  | 0, st, h => by
    have e : st = (0, 0) := (Option.some.inj h).symm
    rw [e]
    decide
  | i + 1, st, h => by
    cases z : xwd f i with
    | none =>
      have := xwd_n z 1
      rw [h] at this
      exact nomatch this
    | some st0 =>
      have ih := xwd_r hf i st0 z
      rw [xwd_s z] at h
      have hfi := hf i
      have hdo := xdo_r (f i)
      unfold xws at h
      by_cases z0 : st0.2 = 0
      · rw [if_pos z0] at h
        by_cases z1 : xdo (f i) = 0
        · rw [if_pos z1] at h
          exact nomatch h
        · rw [if_neg z1] at h
          injection h with h
          rw [← h]
          exact ⟨hfi, hdo⟩
      · rw [if_neg z0] at h
        by_cases z1 : 48 + xwlo st0.1 st0.2 ≤ f i ∧ f i ≤ 57
        · rw [if_pos z1] at h
          injection h with h
          rw [← h]
          exact ⟨ih.1, by simp only; omega⟩
        · rw [if_neg z1] at h
          exact nomatch h
theorem week_6 {E : Nat} {σ : xW} {K : Int → Int → Int → Option Int} (ht : 0 ≤ σ 1 1 ∧ σ 1 1 ≤ 80) (hb : ∀ i : Int, 0 ≤ σ 2 i ∧ σ 2 i ≤ 255) (hE : (E : Int) = min (σ 1 1) 60) :
    ∀ (j i fu : Nat) (st : Int × Int), i + j = E → j < fu → xwd (σ 2) i = some st → ∃ (c : Nat) (st' : Int × Int), c ≤ E ∧ xwd (σ 2) c = some st' ∧ (c = E ∨ xwd (σ 2) (c + 1) = none) ∧ (((c : Int) < σ 1 1 ∧ F_X10_weekMisfit_6 σ fu st.1 st.2 (i : Int) K = some (c : Int)) ∨ ((c : Int) = σ 1 1 ∧ F_X10_weekMisfit_6 σ fu st.1 st.2 (i : Int) K = K st'.1 st'.2 (c : Int))) := by
  intro j
  induction j with
  | zero =>
    intro i fu st hi hfu hd
    obtain ⟨fu, rfl⟩ : ∃ g, fu = g + 1 := ⟨fu - 1, by omega⟩
    refine ⟨i, st, by omega, hd, Or.inl (by omega), ?_⟩
    rw [F_X10_weekMisfit_6, xw_sm (x := (i : Int)) (by omega) (by omega), xw_sm (x := σ 1 1) (by omega) (by omega)]
    by_cases z : (i : Int) < σ 1 1
    · exact Or.inl ⟨z, by rw [if_pos z, if_pos (by omega)]⟩
    · exact Or.inr ⟨by omega, by rw [if_neg z]⟩
  | succ j ih =>
    intro i fu st hi hfu hd
    obtain ⟨fu, rfl⟩ : ∃ g, fu = g + 1 := ⟨fu - 1, by omega⟩
    have hst := xwd_r hb i st hd
    have hbi := hb i
    have hdo := xdo_r (σ 2 i)
    have hat : F_X8_at (i : Int) σ = some (σ 2 i) := by rw [at_c ht hb (by omega), if_pos (by omega)]
    have hdg : F_X8_digit (i : Int) σ = some (if 48 ≤ σ 2 i ∧ σ 2 i ≤ 57 then σ 2 i - 48 else -1) := digit_c ht hb (by omega)
    have hxd := xwd_s hd
    have e : F_X10_weekMisfit_6 σ (fu + 1) st.1 st.2 (i : Int) K = match xws st (σ 2 i) with | none => some (i : Int) | some st' => F_X10_weekMisfit_6 σ fu st'.1 st'.2 ((i : Int) + 1) K := by
      rw [F_X10_weekMisfit_6, xw_sm (x := (i : Int)) (by omega) (by omega), xw_sm (x := σ 1 1) (by omega) (by omega), if_pos (by omega), if_neg (by omega), hat, hdg, xw_sm (x := st.2) (by omega) (by omega), xw_sm (x := st.1) (by omega) (by omega)]
      simp only [xbp_s, xbd_s, xls, xli, xlt, xjn]
      unfold xws
      by_cases z : st.2 = 0
      · rw [if_pos z, if_pos z, digitsOf_c hbi]
        simp only [xbp_s, xbd_s, xls, xli, xlt, xjn]
        rw [xw_sm (x := xdo (σ 2 i)) (by omega) (by omega)]
        by_cases z1 : xdo (σ 2 i) = 0
        · rw [if_pos z1, if_pos z1]
        · rw [if_neg z1, if_neg z1]
      · rw [if_neg z, if_neg z]
        have elo : (if (xw (if st.1 ≠ 98 then if st.1 = 108 then if st.2 = 1 then (1 : Int) else 0 else 0 else 1)) ≠ 0 then (1 : Int) else 0) = xwlo st.1 st.2 := by
          unfold xwlo
          by_cases y1 : st.1 = 98
          · rw [if_neg (show ¬ st.1 ≠ 98 from fun w => w y1), if_pos (show xw 1 ≠ 0 by decide), if_pos (Or.inl y1)]
          · rw [if_pos y1]
            by_cases y2 : st.1 = 108
            · rw [if_pos y2]
              by_cases y3 : st.2 = 1
              · rw [if_pos y3, if_pos (Or.inr ⟨y2, y3⟩)]; rfl
              · rw [if_neg y3, if_neg (show ¬ xw 0 ≠ 0 by decide), if_neg (show ¬ (st.1 = 98 ∨ (st.1 = 108 ∧ st.2 = 1)) by omega)]
            · rw [if_neg y2, if_neg (show ¬ xw 0 ≠ 0 by decide), if_neg (show ¬ (st.1 = 98 ∨ (st.1 = 108 ∧ st.2 = 1)) by omega)]
        have hlo : 0 ≤ xwlo st.1 st.2 ∧ xwlo st.1 st.2 ≤ 1 := by unfold xwlo; split <;> omega
        rw [elo, xw_sm (x := xwlo st.1 st.2) (by omega) (by omega)]
        by_cases y : 48 + xwlo st.1 st.2 ≤ σ 2 i ∧ σ 2 i ≤ 57
        · rw [if_pos (show 48 ≤ σ 2 i ∧ σ 2 i ≤ 57 by omega), xw_sm (x := σ 2 i - 48) (by omega) (by omega), if_neg (show ¬ σ 2 i - 48 < xwlo st.1 st.2 by omega), if_pos y]
          rfl
        · rw [if_neg y]
          by_cases y2 : 48 ≤ σ 2 i ∧ σ 2 i ≤ 57
          · rw [if_pos y2, xw_sm (x := σ 2 i - 48) (by omega) (by omega), if_pos (by omega)]
          · rw [if_neg y2, if_pos (show xw (-1) < xwlo st.1 st.2 from (by show (-1 : Int) < _; omega))]
    cases z : xws st (σ 2 i) with
    | none =>
      rw [z] at e hxd
      exact ⟨i, st, by omega, hd, Or.inr hxd, Or.inl ⟨by omega, e⟩⟩
    | some st' =>
      rw [z] at e hxd
      obtain ⟨c, st2, v1, v2, v3, v4⟩ := ih (i + 1) fu st' (by omega) (by omega) hxd
      refine ⟨c, st2, v1, v2, v3, ?_⟩
      rw [e, show ((i : Int) + 1) = ((i + 1 : Nat) : Int) by omega]
      exact v4
theorem misfit_c {E : Nat} {σ : xW} (ht : 0 ≤ σ 1 1 ∧ σ 1 1 ≤ 80) (hb : ∀ i : Int, 0 ≤ σ 2 i ∧ σ 2 i ≤ 255) (hE : (E : Int) = min (σ 1 1) 60) : ∃ (c : Nat) (st : Int × Int), c ≤ E ∧ xwd (σ 2) c = some st ∧ (c = E ∨ xwd (σ 2) (c + 1) = none) ∧ F_X10_weekMisfit σ = some (if (c : Int) = σ 1 1 ∧ st.2 = 0 then -1 else (c : Int)) := by
  have hN := xN_ge
  obtain ⟨c, st, g1, g2, g3, g4⟩ := week_6 (K := fun (l1_34 : Int) (l2_35 : Int) (l3_36 : Int) => xli (if (xw l2_35) = 0 then -1 else (σ 1 1)) fun v38 => some v38) ht hb hE E 0 xN (0, 0) (by omega) (by omega) rfl
  have hst := xwd_r hb c st g2
  refine ⟨c, st, g1, g2, g3, ?_⟩
  unfold F_X10_weekMisfit
  rcases g4 with ⟨w1, w2⟩ | ⟨w1, w2⟩
  · rw [if_neg (by omega)]
    exact w2
  · refine Eq.trans w2 ?_
    rw [xw_sm (x := st.2) (by omega) (by omega)]
    simp only [xbp_s, xbd_s, xls, xli, xlt, xjn]
    by_cases z : st.2 = 0
    · rw [if_pos z, if_pos ⟨w1, z⟩]
    · rw [if_neg z, if_neg (fun w => z w.2), w1]
/-! the reference reads an act -/
def xidx (ch : Int) : Int := if ch = 110 then 0 else if ch = 98 then 1 else if ch = 103 then 2 else if ch = 108 then 3 else 4
theorem takes_nbglm {s : xW} {f : Int → Int} {p E : Int} (h : Xat s f p E) (hz : p < E) : F_X11_takesOf ([110, 98, 103, 108, 109] : List Int) s = if xdo (f p) = 0 then some (-1, s) else some (xidx (f p), xu s 121 16 (p + 1)) := by
  have hN := xN_ge
  have hr : ∀ i : Int, 0 ≤ i → i < (([110, 98, 103, 108, 109] : List Int).length : Int) → 0 ≤ xch ([110, 98, 103, 108, 109] : List Int) i ∧ xch ([110, 98, 103, 108, 109] : List Int) i ≤ 255 := fun i i1 i2 => by
    have i2' : i < 5 := i2
    rcases (by omega : i = 0 ∨ i = 1 ∨ i = 2 ∨ i = 3 ∨ i = 4) with rfl | rfl | rfl | rfl | rfl <;> decide
  unfold F_X11_takesOf
  by_cases z : xdo (f p) = 0
  · rw [if_pos z]
    refine Eq.trans (takesOf_n (k := fun (l2_13 : Int) (s14 : xW) => some (-1, s14)) h hz (by decide) hr (fun i i1 i2 w => ?_) 5 0 xN (by decide) (by omega)) rfl
    have i2' : i < 5 := i2
    unfold xdo at z
    rcases (by omega : i = 0 ∨ i = 1 ∨ i = 2 ∨ i = 3 ∨ i = 4) with rfl | rfl | rfl | rfl | rfl
    · have w' : (110 : Int) = f p := w
      rw [if_pos (by omega)] at z; omega
    · have w' : (98 : Int) = f p := w
      rw [if_pos (by omega)] at z; omega
    · have w' : (103 : Int) = f p := w
      rw [if_neg (by omega), if_pos (by omega)] at z; omega
    · have w' : (108 : Int) = f p := w
      rw [if_neg (by omega), if_pos (by omega)] at z; omega
    · have w' : (109 : Int) = f p := w
      rw [if_neg (by omega), if_neg (by omega), if_pos (by omega)] at z; omega
  · rw [if_neg z]
    have hc : f p = 110 ∨ f p = 98 ∨ f p = 103 ∨ f p = 108 ∨ f p = 109 := by
      unfold xdo at z
      by_cases q1 : f p = 98 ∨ f p = 110
      · omega
      · by_cases q2 : f p = 103 ∨ f p = 108
        · omega
        · by_cases q3 : f p = 109
          · omega
          · rw [if_neg q1, if_neg q2, if_neg q3] at z; omega
    have hx : 0 ≤ xidx (f p) ∧ xidx (f p) < 5 := by
      unfold xidx
      (repeat' split) <;> omega
    refine takesOf_l (i0 := xidx (f p)) h hz (by decide) hr hx ?_ (fun i i1 i2 w => ?_) (xidx (f p)).toNat 0 xN (by omega) (by omega)
    · rcases hc with q | q | q | q | q <;> rw [q] <;> rfl
    · have hi5 : i = 0 ∨ i = 1 ∨ i = 2 ∨ i = 3 := by omega
      rcases hc with q | q | q | q | q <;> rw [q] at i2 w <;> unfold xidx at i2
      · rw [if_pos rfl] at i2; omega
      · rw [if_neg (by decide), if_pos rfl] at i2
        rcases hi5 with rfl | rfl | rfl | rfl
        · have w' : (110 : Int) = 98 := w
          omega
        · omega
        · omega
        · omega
      · rw [if_neg (by decide), if_neg (by decide), if_pos rfl] at i2
        rcases hi5 with rfl | rfl | rfl | rfl
        · have w' : (110 : Int) = 103 := w
          omega
        · have w' : (98 : Int) = 103 := w
          omega
        · omega
        · omega
      · rw [if_neg (by decide), if_neg (by decide), if_neg (by decide), if_pos rfl] at i2
        rcases hi5 with rfl | rfl | rfl | rfl
        · have w' : (110 : Int) = 108 := w
          omega
        · have w' : (98 : Int) = 108 := w
          omega
        · have w' : (103 : Int) = 108 := w
          omega
        · omega
      · rcases hi5 with rfl | rfl | rfl | rfl
        · have w' : (110 : Int) = 109 := w
          omega
        · have w' : (98 : Int) = 109 := w
          omega
        · have w' : (103 : Int) = 109 := w
          omega
        · have w' : (108 : Int) = 109 := w
          omega
