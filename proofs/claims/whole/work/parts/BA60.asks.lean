/-! asks -/
def xtl (G : Int → Int → Int) (P : Int → Bool) (x : Int) (i : Nat) (v : Int) : Int := xsum (fun q => b01 (P q && decide (G q x = v))) i
theorem xtl_s (G : Int → Int → Int) (P : Int → Bool) (x : Int) (i : Nat) (v : Int) : xtl G P x (i + 1) v = xtl G P x i v + b01 (P i && decide (G i x = v)) := rfl
theorem xtl_r (G : Int → Int → Int) (P : Int → Bool) (x : Int) (i : Nat) (v : Int) : 0 ≤ xtl G P x i v ∧ xtl G P x i v ≤ i := by
  have := xsum_r (f := fun q => b01 (P q && decide (G q x = v))) (M := 1) i (fun _ _ _ => b01_r _)
  unfold xtl
  omega
def xmxl (G : Int → Int → Int) (P : Int → Bool) (x : Int) : Nat → Int
  | 0 => 0
  | i + 1 => if P i = true then max (xmxl G P x i) (xtl G P x (i + 1) (G i x)) else xmxl G P x i
theorem xmxl_s (G : Int → Int → Int) (P : Int → Bool) (x : Int) (i : Nat) : xmxl G P x (i + 1) = if P i = true then max (xmxl G P x i) (xtl G P x (i + 1) (G i x)) else xmxl G P x i := rfl
theorem xmxl_r (G : Int → Int → Int) (P : Int → Bool) (x : Int) : ∀ i : Nat, (0 ≤ xmxl G P x i ∧ xmxl G P x i ≤ i) ∧ (xcnf P i = 0 → xmxl G P x i = 0) ∧ (0 < xcnf P i → 1 ≤ xmxl G P x i)
  | 0 => ⟨(by decide : (0 : Int) ≤ 0 ∧ (0 : Int) ≤ ((0 : Nat) : Int)), fun _ => rfl, fun w => by have : xcnf P 0 = 0 := rfl; omega⟩
  | i + 1 => by
    have h := xmxl_r G P x i
    have ht := xtl_r G P x (i + 1) (G i x)
    have hc := xcnf_r P i
    have h1 := xtl_r G P x i (G i x)
    rw [xmxl_s, xcnf_s]
    cases z : P (i : Int) with
    | true =>
      have e : xtl G P x (i + 1) (G i x) = xtl G P x i (G i x) + 1 := by
        rw [xtl_s, z, decide_eq_true rfl]
        rfl
      have e2 : b01 true = 1 := rfl
      rw [if_pos rfl]
      omega
    | false =>
      have e2 : b01 false = 0 := rfl
      rw [if_neg (by decide)]
      omega
theorem countMinute_c {v : Int} {s : xW} (h : 0 ≤ v ∧ v < 120) : F_X5_countMinute v s = some (s 104 v + 1, xu s 104 v (s 104 v + 1)) := by
  unfold F_X5_countMinute
  simp only [xjn]
  rw [xw_sm (x := v) (by omega) (by omega), if_pos h.1, if_neg (by omega), xgd_t h, xgd_t h, xls, xlt, xgd_t h, xu_same]
theorem most_loop {x : Int} {G : Int → Int → Int} {P : Int → Bool} {σ : xW} {k : Int → Int → xW → Option (Int × xW)} (hr : σ 0 4 = 9 ∨ σ 0 4 = 13) (hx : 0 ≤ x ∧ x < σ 0 14) (hG : ∀ q x : Int, 0 ≤ q → q < 100 → 0 ≤ G q x ∧ G q x ≤ 108) (hMc : ∀ (q x : Int) (s : xW), 0 ≤ q → q < 100 → 0 ≤ x → x < σ 0 14 → Xsc σ s → ∃ s', F_X10_minuteBy q x s = some (G q x, s') ∧ ∀ c, c ≠ 90 → c ≠ σ 0 4 + 2 → s' c = s c) :
    ∀ (j i fu : Nat) (s : xW), i + j = 100 → j < fu → Xsc σ s → s 100 4 = xcnf P 100 → Xwe P (s 103) 100 → (∀ v : Int, 0 ≤ v → v < 120 → s 104 v = xtl G P x i v) → ∃ s', F_X10_mostLeft_15 x fu (xmxl G P x i) (xcnf P i) s k = k (xmxl G P x 100) (xcnf P 100) s' ∧ Xsc σ s' ∧ s' 100 = s 100 ∧ s' 103 = s 103 := by
  intro j
  induction j with
  | zero =>
    intro i fu s hi hfu hs h100 hw ht
    obtain ⟨fu, rfl⟩ : ∃ g, fu = g + 1 := ⟨fu - 1, by omega⟩
    have ei : i = 100 := by omega
    rw [ei]
    refine ⟨s, ?_, hs, rfl, rfl⟩
    rw [F_X10_mostLeft_15, h100, if_neg (Int.lt_irrefl _)]
  | succ j ih =>
    intro i fu s hi hfu hs h100 hw ht
    have hcs := xcnf_s P i
    have hms := xmxl_s G P x i
    have hc := xcnf_r P i
    have hmr := (xmxl_r G P x i).1
    cases z : P (i : Int) with
    | false =>
      rw [z] at hcs hms
      have hcs2 : xcnf P (i + 1) = xcnf P i := by rw [hcs]; exact Int.add_zero _
      rw [if_neg (by decide)] at hms
      have g := ih (i + 1) fu s (by omega) (by omega) hs h100 hw (fun v v1 v2 => by
        rw [ht v v1 v2, xtl_s, z, Bool.false_and]
        exact (Int.add_zero _).symm)
      rw [hcs2, hms] at g
      exact g
    | true =>
      obtain ⟨fu, rfl⟩ : ∃ g, fu = g + 1 := ⟨fu - 1, by omega⟩
      rw [z] at hcs hms
      have hcs2 : xcnf P (i + 1) = xcnf P i + 1 := hcs
      rw [if_pos rfl] at hms
      have hmo := xcnf_mo P (i + 1) j
      rw [show i + 1 + j = 100 by omega] at hmo
      have hc2 := xcnf_r P 100
      have e103 : s 103 (xcnf P i) = i := hw i (by omega) z
      obtain ⟨s1, u1, u2⟩ := hMc i x s (by omega) (by omega) hx.1 hx.2 hs
      have hg := hG i x (by omega) (by omega)
      have e104 : s1 104 (G i x) = xtl G P x i (G i x) := by rw [u2 104 (by decide) (by omega)]; exact ht _ hg.1 (by omega)
      have eT : xtl G P x (i + 1) (G i x) = xtl G P x i (G i x) + 1 := by
        rw [xtl_s, z, decide_eq_true rfl]
        rfl
      have hT := xtl_r G P x i (G i x)
      obtain ⟨s', g1, g2, g3, g4⟩ := ih (i + 1) fu (xu s1 104 (G i x) (xtl G P x (i + 1) (G i x))) (by omega) (by omega) (fun c c1 c2 c3 c4 c5 => by rw [xu_row _ _ _ c5, u2 c c1 c2]; exact hs c c1 c2 c3 c4 c5) (by rw [xu_row _ _ _ (show (100 : Int) ≠ 104 by decide), u2 100 (by decide) (by omega)]; exact h100) (by rw [xu_row _ _ _ (show (103 : Int) ≠ 104 by decide), u2 103 (by decide) (by omega)]; exact hw) (fun v v1 v2 => by
        by_cases w : v = G i x
        · rw [w, xu_same]
        · rw [xu_slot _ _ _ w, u2 104 (by decide) (by omega), ht v v1 v2, xtl_s, decide_eq_false (fun u => w u.symm), Bool.and_false]
          exact (Int.add_zero _).symm)
      refine ⟨s', ?_, g2, by rw [g3, xu_row _ _ _ (show (100 : Int) ≠ 104 by decide), u2 100 (by decide) (by omega)], by rw [g4, xu_row _ _ _ (show (103 : Int) ≠ 104 by decide), u2 103 (by decide) (by omega)]⟩
      rw [F_X10_mostLeft_15, h100, xw_sm (x := xcnf P i) (by omega) (by omega), xw_sm (x := xcnf P 100) (by omega) (by omega), if_pos (by omega), xgd_t (by omega), e103, u1]
      simp only [xbp_s, xbd_s, xls, xli, xlt, xjn]
      rw [countMinute_c (v := G i x) ⟨hg.1, by omega⟩, e104, ← eT]
      simp only [xbp_s, xbd_s, xls, xli, xlt, xjn]
      rw [xw_sm (x := xmxl G P x i) (by omega) (by omega), xw_sm (x := xtl G P x (i + 1) (G i x)) (by omega) (by omega), ← hms, ← hcs2]
      exact g1
theorem most_c {x : Int} {G : Int → Int → Int} {P : Int → Bool} {σ s : xW} (hr : σ 0 4 = 9 ∨ σ 0 4 = 13) (hx : 0 ≤ x ∧ x < σ 0 14) (hG : ∀ q x : Int, 0 ≤ q → q < 100 → 0 ≤ G q x ∧ G q x ≤ 108) (hMc : ∀ (q x : Int) (s : xW), 0 ≤ q → q < 100 → 0 ≤ x → x < σ 0 14 → Xsc σ s → ∃ s', F_X10_minuteBy q x s = some (G q x, s') ∧ ∀ c, c ≠ 90 → c ≠ σ 0 4 + 2 → s' c = s c) (hs : Xsc σ s) (h100 : s 100 4 = xcnf P 100) (hw : Xwe P (s 103) 100) : ∃ s', F_X10_mostLeft x s = some (xmxl G P x 100, s') ∧ Xsc σ s' ∧ s' 100 = s 100 ∧ s' 103 = s 103 := by
  have hN := xN_ge
  have ex : ∀ c, c ≠ 104 → xfl s 104 120 0 c = s c := fun c z => by
    funext j
    unfold xfl
    rw [if_neg (fun w => z w.1)]
  obtain ⟨s', g1, g2, g3, g4⟩ := most_loop (G := G) (P := P) (k := fun (l2_20 : Int) (l3_21 : Int) (s22 : xW) => some (l2_20, s22)) hr hx hG hMc 100 0 xN (xfl s 104 120 0) (by omega) (by omega) (fun c c1 c2 c3 c4 c5 => by rw [ex c c5]; exact hs c c1 c2 c3 c4 c5) (by rw [ex 100 (by decide)]; exact h100) (by rw [ex 103 (by decide)]; exact hw) (fun v v1 v2 => by
    unfold xfl
    rw [if_pos ⟨rfl, v1, v2⟩]
    rfl)
  refine ⟨s', ?_, g2, by rw [g3, ex 100 (by decide)], by rw [g4, ex 103 (by decide)]⟩
  unfold F_X10_mostLeft
  simp only [xls, xlt]
  exact g1
def Xsn (τ t : xW) : Prop := ∀ c, c ≠ 133 → c ≠ 134 → c ≠ 142 → t c = τ c
theorem asks_28 {a1 a2 a3 a4 : Int} {s0 : xW} {k : Int → xW → Option (Int × xW)} :
    ∀ (j i fu : Nat) (s : xW), i + j = 220 → j < fu → (∀ c : Int, c ≠ 142 → s c = s0 c) → (∀ x : Int, 0 ≤ x → x < i → s 142 x = 0) → ∃ s', F_X11_asks_28 a1 a2 a3 a4 fu (i : Int) s k = k 220 s' ∧ (∀ c : Int, c ≠ 142 → s' c = s0 c) ∧ (∀ x : Int, 0 ≤ x → x < 220 → s' 142 x = 0) := by
  intro j
  induction j with
  | zero =>
    intro i fu s hi hfu hc h1
    obtain ⟨fu, rfl⟩ : ∃ g, fu = g + 1 := ⟨fu - 1, by omega⟩
    have ei : (i : Int) = 220 := by omega
    rw [ei] at h1
    refine ⟨s, ?_, hc, h1⟩
    rw [ei, F_X11_asks_28, if_neg (by decide)]
  | succ j ih =>
    intro i fu s hi hfu hc h1
    obtain ⟨fu, rfl⟩ : ∃ g, fu = g + 1 := ⟨fu - 1, by omega⟩
    obtain ⟨s', g1, g2⟩ := ih (i + 1) fu (xu s 142 (i : Int) 0) (by omega) (by omega) (fun c z => by rw [xu_row _ _ _ z]; exact hc c z) (fun x x1 x2 => by
      by_cases z : x = i
      · rw [z, xu_same]
      · rw [xu_slot _ _ _ z]
        exact h1 x x1 (by omega))
    refine ⟨s', ?_, g2⟩
    rw [F_X11_asks_28, xw_sm (x := (i : Int)) (by omega) (by omega), if_pos (by omega), xgd_t (by omega), xls, xlt, show ((i : Int) + 1) = ((i + 1 : Nat) : Int) by omega]
    exact g1
theorem asks_53 {x a1 a2 : Int} {G : Int → Int → Int} {P : Int → Bool} {σ τ : xW} {k : Int → Int → xW → Option (Int × xW)} (hx : 0 ≤ x ∧ x < σ 0 14) (hG : ∀ q x : Int, 0 ≤ q → q < 100 → 0 ≤ G q x ∧ G q x ≤ 108) (hMm : ∀ (q x : Int) (t : xW), 0 ≤ q → q < 100 → 0 ≤ x → x < σ 0 14 → Xsm τ t → ∃ t', F_X11_hearsBy 127 x 0 (q / 10) (q % 10) t = some (G q x, t') ∧ ∀ c, c ≠ 133 → c ≠ 134 → t' c = t c) (hS : ∀ (q : Int) (t : xW), 0 ≤ q → q < 100 → Xsm τ t → ∃ t', F_X11_isSo q t = some (b01 (P q), t') ∧ ∀ c, c ≠ 133 → c ≠ 134 → t' c = t c) (hτ : ∀ t, Xsn (xu τ 121 0 0) t → Xsm τ t) :
    ∀ (j i fu : Nat) (t : xW), i + j = 100 → j < fu → Xsn (xu τ 121 0 0) t → (∀ v : Int, 0 ≤ v → v < 220 → t 142 v = xtl G P x i v) → ∃ t', F_X11_asks_53 a1 a2 x fu (xmxl G P x i) (i : Int) t k = k (xmxl G P x 100) 100 t' ∧ Xsn (xu τ 121 0 0) t' := by
  intro j
  induction j with
  | zero =>
    intro i fu t hi hfu ht hv
    obtain ⟨fu, rfl⟩ : ∃ g, fu = g + 1 := ⟨fu - 1, by omega⟩
    have ei : i = 100 := by omega
    rw [ei]
    refine ⟨t, ?_, ht⟩
    rw [F_X11_asks_53, if_neg (by decide)]
    rfl
  | succ j ih =>
    intro i fu t hi hfu ht hv
    obtain ⟨fu, rfl⟩ : ∃ g, fu = g + 1 := ⟨fu - 1, by omega⟩
    have hms := xmxl_s G P x i
    have hmr := (xmxl_r G P x i).1
    obtain ⟨t1, u1, u2⟩ := hS i t (by omega) (by omega) (hτ t ht)
    have ht1 : Xsn (xu τ 121 0 0) t1 := fun c c1 c2 c3 => by rw [u2 c c1 c2]; exact ht c c1 c2 c3
    rw [F_X11_asks_53, xw_sm (x := (i : Int)) (by omega) (by omega), if_pos (by omega), u1]
    simp only [xbd_n, xjn]
    rw [xw_b01]
    cases z : P (i : Int) with
    | false =>
      rw [z, if_neg (by decide)] at hms
      rw [if_neg (show ¬ b01 false ≠ 0 by decide)]
      obtain ⟨t', g1, g2⟩ := ih (i + 1) fu t1 (by omega) (by omega) ht1 (fun v v1 v2 => by
        rw [u2 142 (by decide) (by decide), hv v v1 v2, xtl_s, z, Bool.false_and]
        exact (Int.add_zero _).symm)
      refine ⟨t', ?_, g2⟩
      rw [hms] at g1
      rw [show ((i : Int) + 1) = ((i + 1 : Nat) : Int) by omega]
      exact g1
    | true =>
      rw [z, if_pos rfl] at hms
      rw [if_pos (show b01 true ≠ 0 by decide), Int.tdiv_eq_ediv_of_nonneg (show (0 : Int) ≤ (i : Int) by omega), Int.tmod_eq_emod_of_nonneg (show (0 : Int) ≤ (i : Int) by omega)]
      obtain ⟨t2, u3, u4⟩ := hMm i x t1 (by omega) (by omega) hx.1 hx.2 (hτ t1 ht1)
      have hg := hG i x (by omega) (by omega)
      have e142 : t2 142 (G i x) = xtl G P x i (G i x) := by rw [u4 142 (by decide) (by decide), u2 142 (by decide) (by decide)]; exact hv _ hg.1 (by omega)
      have eT : xtl G P x (i + 1) (G i x) = xtl G P x i (G i x) + 1 := by
        rw [xtl_s, z, decide_eq_true rfl]
        rfl
      have hT := xtl_r G P x i (G i x)
      obtain ⟨t', g1, g2⟩ := ih (i + 1) fu (xu t2 142 (G i x) (xtl G P x (i + 1) (G i x))) (by omega) (by omega) (fun c c1 c2 c3 => by rw [xu_row _ _ _ c3, u4 c c1 c2]; exact ht1 c c1 c2 c3) (fun v v1 v2 => by
        by_cases w : v = G i x
        · rw [w, xu_same]
        · rw [xu_slot _ _ _ w, u4 142 (by decide) (by decide), u2 142 (by decide) (by decide), hv v v1 v2, xtl_s, decide_eq_false (fun u => w u.symm), Bool.and_false]
          exact (Int.add_zero _).symm)
      refine ⟨t', ?_, g2⟩
      rw [u3]
      simp only [xbd_n, xls, xlt]
      rw [xgd_t (by omega), xgd_t (by omega), e142, ← eT, xgd_t (by omega), xu_same, xw_sm (x := xmxl G P x i) (by omega) (by omega), xw_sm (x := xtl G P x (i + 1) (G i x)) (by omega) (by omega), ← hms, show ((i : Int) + 1) = ((i + 1 : Nat) : Int) by omega]
      exact g1
theorem asks_step {n l1 l2 : Int} {i gu : Nat} {G : Int → Int → Int} {P : Int → Bool} {σ τ t : xW} {k : Int → Int → Int → xW → Option (Int × xW)} (hn : 0 ≤ n ∧ n ≤ 8) (en : σ 0 14 = n) (e0 : τ 121 3 = n) (hi : (i : Int) < n) (hl : 0 ≤ l2 ∧ l2 ≤ 1000000) (hG : ∀ q x : Int, 0 ≤ q → q < 100 → 0 ≤ G q x ∧ G q x ≤ 108) (hMm : ∀ (q x : Int) (t : xW), 0 ≤ q → q < 100 → 0 ≤ x → x < σ 0 14 → Xsm τ t → ∃ t', F_X11_hearsBy 127 x 0 (q / 10) (q % 10) t = some (G q x, t') ∧ ∀ c, c ≠ 133 → c ≠ 134 → t' c = t c) (hS : ∀ (q : Int) (t : xW), 0 ≤ q → q < 100 → Xsm τ t → ∃ t', F_X11_isSo q t = some (b01 (P q), t') ∧ ∀ c, c ≠ 133 → c ≠ 134 → t' c = t c) (hτ : ∀ t, Xsn (xu τ 121 0 0) t → Xsm τ t) (ht : Xsn (xu τ 121 0 0) t) : ∃ t', F_X11_asks_14 (gu + 1) l1 l2 (i : Int) t k = F_X11_asks_14 gu (if 0 < xmxl G P i 100 then if xmxl G P i 100 < l2 then (i : Int) else l1 else l1) (if 0 < xmxl G P i 100 then min l2 (xmxl G P i 100) else l2) ((i : Int) + 1) t' k ∧ Xsn (xu τ 121 0 0) t' := by
  have hN := xN_ge
  have hmr := (xmxl_r G P i 100).1
  have e3 : t 121 3 = n := by rw [ht 121 (by decide) (by decide) (by decide), xu_slot _ _ _ (show (3 : Int) ≠ 0 by decide)]; exact e0
  obtain ⟨t1, u1, u2, u3⟩ := asks_28 (a1 := l1) (a2 := l2) (a3 := (i : Int)) (a4 := 0) (s0 := t) (k := fun (l5_20 : Int) (s21 : xW) =>
      F_X11_asks_53 l1 l2 (i : Int) xN 0 0 s21 fun (l4_49 : Int) (l5_50 : Int) (s51 : xW) =>
      xli (if 0 < (xw l4_49) then if (xw l4_49) < (xw l2) then (i : Int) else l1 else l1) fun v54 =>
      xjn (fun (t57 : Int) =>
        F_X11_asks_14 gu v54 t57 ((i : Int) + 1) s51 k
      ) fun j58 =>
      if 0 < (xw l4_49) then
        j58 (min (xw l2) (xw l4_49))
      else
        j58 l2) 220 0 xN t (by omega) (by omega) (fun _ _ => rfl) (fun x x1 x2 => by omega)
  obtain ⟨t2, u4, u5⟩ := asks_53 (a1 := l1) (a2 := l2) (x := (i : Int)) (G := G) (P := P) (σ := σ) (τ := τ) (k := fun (l4_49 : Int) (l5_50 : Int) (s51 : xW) =>
      xli (if 0 < (xw l4_49) then if (xw l4_49) < (xw l2) then (i : Int) else l1 else l1) fun v54 =>
      xjn (fun (t57 : Int) =>
        F_X11_asks_14 gu v54 t57 ((i : Int) + 1) s51 k
      ) fun j58 =>
      if 0 < (xw l4_49) then
        j58 (min (xw l2) (xw l4_49))
      else
        j58 l2) (by omega) hG hMm hS hτ 100 0 xN t1 (by omega) (by omega) (fun c c1 c2 c3 => by rw [u2 c c3]; exact ht c c1 c2 c3) (fun v v1 v2 => by rw [u3 v v1 v2]; rfl)
  refine ⟨t2, ?_, u5⟩
  rw [F_X11_asks_14, e3, xw_sm (x := (i : Int)) (by omega) (by omega), xw_sm (x := n) (by omega) (by omega), if_pos (by omega)]
  refine Eq.trans u1 (Eq.trans u4 ?_)
  rw [xw_sm (x := xmxl G P i 100) (by omega) (by omega), xw_sm (x := l2) (by omega) (by omega)]
  simp only [xli, xlt, xjn]
  by_cases z : 0 < xmxl G P i 100
  · rw [if_pos z, if_pos z, if_pos z]
  · rw [if_neg z, if_neg z, if_neg z]
