/-! lane -/
def xfold (H : Int → Int) : Nat → Int × Int
  | 0 => (0, -1)
  | k + 1 => if (xfold H k).1 < H k then (H k, (k : Int)) else xfold H k
theorem xfold_s (H : Int → Int) (k : Nat) : xfold H (k + 1) = if (xfold H k).1 < H k then (H k, (k : Int)) else xfold H k := rfl
theorem xfold_r {H : Int → Int} : ∀ k : Nat, (∀ m : Int, 0 ≤ m → m < k → 0 ≤ H m ∧ H m ≤ 8) → (0 ≤ (xfold H k).1 ∧ (xfold H k).1 ≤ 8) ∧ (-1 ≤ (xfold H k).2 ∧ (xfold H k).2 ≤ k)
  | 0, _ => by
    show ((0 : Int) ≤ 0 ∧ (0 : Int) ≤ 8) ∧ ((-1 : Int) ≤ -1 ∧ (-1 : Int) ≤ 0)
    decide
  | k + 1, h => by
    have h1 := xfold_r (H := H) k (fun m a b => h m a (by omega))
    have h2 := h k (by omega) (by omega)
    rw [xfold_s]
    by_cases z : (xfold H k).1 < H k
    · rw [if_pos z]
      show (0 ≤ H k ∧ H k ≤ 8) ∧ (-1 ≤ (k : Int) ∧ (k : Int) ≤ ((k + 1 : Nat) : Int))
      omega
    · rw [if_neg z]
      omega
theorem xfold_z {H : Int → Int} {i : Nat} (h0 : 0 ≤ (xfold H i).1) : ∀ j : Nat, (∀ x : Int, (i : Int) ≤ x → x < ((i + j : Nat) : Int) → H x = 0) → xfold H (i + j) = xfold H i
  | 0, _ => rfl
  | j + 1, h => by
    have h1 := xfold_z h0 j (fun x a b => h x a (by omega))
    have h2 := h ((i + j : Nat) : Int) (by omega) (by omega)
    have h3 := xfold_s H (i + j)
    rw [h1, h2, if_neg (by omega)] at h3
    exact h3
theorem lane_loopC {H : Int → Int} {l e : Int} {s : xW} {k : Int → Int → Int → Int → Option (Int × xW)} (hH : ∀ m : Int, 0 ≤ m → m < 220 → F_X4_howMany m (xshl 1 l) s = some (H m)) (hr : ∀ m : Int, 0 ≤ m → m < 220 → 0 ≤ H m ∧ H m ≤ 8) (he : e ≤ 220) :
    ∀ (j i fu : Nat), (i : Int) + j = e → j < fu → F_X10_lane_40 l e s fu (xsum (fun m => if 0 < H m then (1 : Int) else 0) i) (xfold H i).1 (xfold H i).2 (i : Int) k = k (xsum (fun m => if 0 < H m then (1 : Int) else 0) e.toNat) (xfold H e.toNat).1 (xfold H e.toNat).2 e := by
  intro j
  induction j with
  | zero =>
    intro i fu hi hf
    obtain ⟨fu, rfl⟩ : ∃ g, fu = g + 1 := ⟨fu - 1, by omega⟩
    unfold F_X10_lane_40
    rw [xw_sm (x := (i : Int)) (by omega) (by omega), xw_sm (x := e) (by omega) (by omega), if_neg (by omega), show e.toNat = i by omega, show e = (i : Int) by omega]
  | succ j ih =>
    intro i fu hi hf
    obtain ⟨fu, rfl⟩ : ∃ g, fu = g + 1 := ⟨fu - 1, by omega⟩
    have hs := xsum_s (fun m => if 0 < H m then (1 : Int) else 0) i
    have hq := xfold_s H i
    have hri := hr i (by omega) (by omega)
    have hfr := xfold_r (H := H) i (fun m a b => hr m a (by omega))
    have g := ih (i + 1) fu (by omega) (by omega)
    rw [show ((i + 1 : Nat) : Int) = (i : Int) + 1 by omega, hs] at g
    unfold F_X10_lane_40
    rw [xw_sm (x := (i : Int)) (by omega) (by omega), xw_sm (x := e) (by omega) (by omega), if_pos (by omega), hH i (by omega) (by omega)]
    simp only [xbp_s, xbd_s, xls, xli, xlt, xjn]
    rw [xw_sm (x := H (i : Int)) (by omega) (by omega), xw_sm (x := (xfold H i).1) (by omega) (by omega)]
    by_cases z : (xfold H i).1 < H (i : Int)
    · rw [if_pos z] at hq
      rw [hq] at g
      rw [if_pos z]
      exact g
    · rw [if_neg z] at hq
      rw [hq] at g
      rw [if_neg z]
      exact g
theorem lane_loopM {H : Int → Int} {t : xW} {k : Int → Int → Int → Int → Option (Int × xW)} (ht : ∀ m : Int, 0 ≤ m → m < 220 → t 142 m = H m) (hr : ∀ m : Int, 0 ≤ m → m < 220 → 0 ≤ H m ∧ H m ≤ 8) :
    ∀ (j i fu : Nat), i + j = 220 → j < fu → F_X11_lane_36 t fu (xsum (fun m => if 0 < H m then (1 : Int) else 0) i) (xfold H i).2 (xfold H i).1 (i : Int) k = k (xsum (fun m => if 0 < H m then (1 : Int) else 0) 220) (xfold H 220).2 (xfold H 220).1 220 := by
  intro j
  induction j with
  | zero =>
    intro i fu hi hf
    obtain ⟨fu, rfl⟩ : ∃ g, fu = g + 1 := ⟨fu - 1, by omega⟩
    have e1 : i = 220 := by omega
    unfold F_X11_lane_36
    rw [xw_sm (x := (i : Int)) (by omega) (by omega), if_neg (by omega), show (i : Int) = 220 by omega, e1]
  | succ j ih =>
    intro i fu hi hf
    obtain ⟨fu, rfl⟩ : ∃ g, fu = g + 1 := ⟨fu - 1, by omega⟩
    have hs := xsum_s (fun m => if 0 < H m then (1 : Int) else 0) i
    have hq := xfold_s H i
    have hri := hr i (by omega) (by omega)
    have hfr := xfold_r (H := H) i (fun m a b => hr m a (by omega))
    have g := ih (i + 1) fu (by omega) (by omega)
    rw [show ((i + 1 : Nat) : Int) = (i : Int) + 1 by omega, hs] at g
    have efl : (if (if 0 < H (i : Int) then (1 : Int) else 0) ≠ 0 then (1 : Int) else 0) = if 0 < H (i : Int) then (1 : Int) else 0 := by
      by_cases z : 0 < H (i : Int)
      · rw [if_pos z, if_pos (by decide)]
      · rw [if_neg z, if_neg (by decide)]
    unfold F_X11_lane_36 F_X11_flag
    simp only [xbp_n, xbd_n, xls, xli, xlt, xjn, xgd_t (show 0 ≤ (i : Int) ∧ (i : Int) < 220 by omega)]
    rw [xw_sm (x := (i : Int)) (by omega) (by omega), if_pos (show (i : Int) < 220 by omega), ht i (by omega) (by omega), xw_sm (x := H (i : Int)) (by omega) (by omega), xw_sm (x := (xfold H i).1) (by omega) (by omega), xif01, efl]
    by_cases z : (xfold H i).1 < H (i : Int)
    · rw [if_pos z] at hq
      rw [hq] at g
      rw [if_pos z, show max (xfold H i).1 (H (i : Int)) = H (i : Int) by omega]
      exact g
    · rw [if_neg z] at hq
      rw [hq] at g
      rw [if_neg z, show max (xfold H i).1 (H (i : Int)) = (xfold H i).1 by omega]
      exact g
theorem op_lane {l : Int} (hl0 : I32 l) : XO (F_X10_lane l) (F_X11_lane l) := by
  intro B σ τ hB hB1 h
  have hN := xN_ge
  obtain ⟨h1, h2, h3, h4, h5, h6, h7, h8, h9, h10⟩ := id h
  have hnd := h5.2.2.1
  by_cases q : 0 ≤ l ∧ l ≤ 3
  · obtain ⟨s, t, a1, a2, a3, a4, a5, a6, a7, a8⟩ := busy_d (mask := xshl 1 l) hB1 h
    have hl : ∀ d : Int, 0 ≤ d → d < σ 92 0 → 1 ≤ s 20 d ∧ s 20 d ≤ 9 := fun d x y => by
      rw [a5]
      exact ⟨(h6.2.2.2 d x y).2, (h6.1.2.2.2 d x (by omega)).2⟩
    have h96 : ∀ d : Int, 0 ≤ d → d < σ 92 0 → s 96 d = s 95 d + s 20 d := fun d x y => (a3.2 d x (by rw [a4]; exact y)).2.2
    obtain ⟨H, hHd⟩ : ∃ H : Int → Int, ∀ x : Int, H x = xsum (fun d => b01 (xbzy (s 94) (s 95) (s 20) (xshl 1 l) x d)) (σ 92 0).toNat := ⟨_, fun _ => rfl⟩
    have hH : ∀ m : Int, 0 ≤ m → m < 220 → F_X4_howMany m (xshl 1 l) s = some (H m) := fun m x y => by
      rw [howMany_c a3 (by omega), a4, hHd m]
    have hr : ∀ m : Int, 0 ≤ m → m < 220 → 0 ≤ H m ∧ H m ≤ 8 := fun m x y => by
      rw [hHd m]
      have := xsum_r (f := fun d => b01 (xbzy (s 94) (s 95) (s 20) (xshl 1 l) m d)) (M := 1) (σ 92 0).toNat (fun i _ _ => b01_r _)
      omega
    obtain ⟨e, g1, g2, g3, g4⟩ := behind_c hnd a4 (fun d x y => by
      have z1 := hl d x y
      have z2 := a7 d x y
      rw [h96 d x y]
      omega)
    obtain ⟨a, f1, f2, f3⟩ : ∃ a, F_X4_firstMinute s = some a ∧ (0 ≤ a ∧ a ≤ e) ∧ (∀ d : Int, 0 ≤ d → d < σ 92 0 → a ≤ s 95 d) := by
      by_cases z : σ 92 0 = 0
      · exact ⟨0, first_0 (by rw [a4]; exact z), by omega, fun d x y => by omega⟩
      · obtain ⟨a, f1, f2, d1, f3, f4⟩ := first_c hnd a4 a7 (by omega)
        have u1 := a7 d1 f3.1 f3.2
        have u2 := hl d1 f3.1 f3.2
        have u3 := g3 d1 f3.1 f3.2
        rw [h96 d1 f3.1 f3.2] at u3
        exact ⟨a, f1, by omega, f2⟩
    have hin : ∀ m : Int, 0 ≤ m → m < 220 → 0 < H m → a ≤ m ∧ m < e := fun m x y u => by
      rw [hHd m] at u
      obtain ⟨d, v1, v2⟩ := xsum_ex _ u
      have v3 : 0 < b01 (xbzy (s 94) (s 95) (s 20) (xshl 1 l) m d) := v2
      have w1 := f3 d v1.1 (by omega)
      have w2 := g3 d v1.1 (by omega)
      rw [h96 d v1.1 (by omega)] at w2
      by_cases w : xand (s 94 d) (xshl 1 l) = 0
      · rw [xbzy_f w] at v3
        omega
      · rw [xbzy_t w] at v3
        by_cases z : s 95 d ≤ m ∧ m < s 95 d + s 20 d
        · omega
        · rw [if_neg z] at v3
          omega
    have hz : ∀ m : Int, 0 ≤ m → m < 220 → m < a ∨ e ≤ m → H m = 0 := fun m x y u => by
      have v := hr m x y
      by_cases w : 0 < H m
      · have := hin m x y w
        omega
      · omega
    have c0 := xsum_zz (f := fun m => if 0 < H m then (1 : Int) else 0) (i := 0) a.toNat (fun x x1 x2 => by
      show (if 0 < H x then (1 : Int) else 0) = 0
      rw [hz x (by omega) (by omega) (by omega), if_neg (by decide)])
    rw [Nat.zero_add] at c0
    have c1 := xsum_zz (f := fun m => if 0 < H m then (1 : Int) else 0) (i := e.toNat) (220 - e.toNat) (fun x x1 x2 => by
      show (if 0 < H x then (1 : Int) else 0) = 0
      rw [hz x (by omega) (by omega) (by omega), if_neg (by decide)])
    rw [show e.toNat + (220 - e.toNat) = 220 by omega] at c1
    have hfr := xfold_r (H := H) e.toNat (fun m x y => hr m x (by omega))
    have k0 := xfold_z (H := H) (i := 0) (Int.le_refl 0) a.toNat (fun x x1 x2 => hz x (by omega) (by omega) (by omega))
    rw [Nat.zero_add] at k0
    have k1 := xfold_z (H := H) (i := e.toNat) hfr.1.1 (220 - e.toNat) (fun x x1 x2 => hz x (by omega) (by omega) (by omega))
    rw [show e.toNat + (220 - e.toNat) = 220 by omega] at k1
    have b1 := lane_loopC (l := l) (e := e) (s := s) (k := fun (l2_36 : Int) (l3_37 : Int) (l4_38 : Int) (l6_39 : Int) => xbp (F_X6_tell_ (xw l3_37) (xw l4_38) s) fun s41 => some (l2_36, s41)) hH hr (by omega) (e - a).toNat a.toNat xN (by omega) (by omega)
    rw [c0, k0, show ((a.toNat : Nat) : Int) = a by omega] at b1
    have cM := lane_loopM (t := t) (k := fun (l2_31 : Int) (l3_32 : Int) (l4_33 : Int) (l5_34 : Int) => xls (xu t 121 1 0) fun s35 => xbp (F_X11_enters (xw l4_33) s35) fun s38 => xbp (F_X11_enters (xw l3_32) s38) fun s40 => some (l2_31, s40)) (fun m x y => by rw [a8 m x y, hHd m]) hr 220 0 xN (by omega) (by omega)
    rw [c1, k1] at cM
    have eC : F_X10_lane l σ = some (xsum (fun m => if 0 < H m then (1 : Int) else 0) e.toNat, xt2 s (xfold H e.toNat).1 (xfold H e.toNat).2) := by
      unfold F_X10_lane
      simp only [xbp_s, xbd_s, xls, xli, xlt, xjn]
      rw [xw_id hl0, if_pos q.1, if_neg (show ¬ 4 ≤ l by omega), a1]
      simp only [xbp_s, xbd_s, xls, xli, xlt, xjn]
      rw [g1]
      simp only [xbp_s, xbd_s, xls, xli, xlt, xjn]
      rw [f1]
      simp only [xbp_s, xbd_s, xls, xli, xlt, xjn]
      refine Eq.trans b1 ?_
      rw [xw_sm (x := (xfold H e.toNat).1) (by omega) (by omega), xw_sm (x := (xfold H e.toNat).2) (by omega) (by omega), tell_2]
      rfl
    have eM : F_X11_lane l τ = some (xsum (fun m => if 0 < H m then (1 : Int) else 0) e.toNat, xe2 t (xfold H e.toNat).1 (xfold H e.toNat).2) := by
      unfold F_X11_lane
      simp only [xbp_s, xbd_s, xls, xli, xlt, xjn]
      rw [xw_id hl0, in_eq (by omega) (by omega) (by omega), if_pos q]
      simp only [xbp_s, xbd_s, xls, xli, xlt, xjn]
      rw [if_neg (show ¬ xw 1 = 0 by decide), a2]
      simp only [xbp_s, xbd_s, xls, xli, xlt, xjn]
      refine Eq.trans cM ?_
      simp only [xbp_s, xbd_s, xls, xli, xlt, xjn]
      rw [xw_sm (x := (xfold H e.toNat).1) (by omega) (by omega), xw_sm (x := (xfold H e.toNat).2) (by omega) (by omega), ent_1]
      simp only [xbp_s, xbd_s, xls, xli, xlt, xjn]
      rw [ent_2]
      rfl
    exact ⟨_, _, _, eC, eM, XR_W (fr_X10_lane eC) (by decide +kernel) (fr_X11_lane eM) (by decide +kernel) h (Xrow_2 (a := (xfold H e.toNat).1) (b := (xfold H e.toNat).2) rfl ⟨by simp [xt2, xt1, xu], by simp [xt2, xt1, xu]⟩ rfl ⟨by simp [xe2, xe1, xu], by simp [xe2, xe1, xu]⟩)⟩
  · refine ⟨-1, σ, xu τ 121 0 0, ?_, ?_, XR_mono (by omega) (XR_thr h)⟩
    · unfold F_X10_lane
      simp only [xbp_s, xbd_s, xls, xli, xlt, xjn]
      rw [xw_id hl0]
      by_cases z1 : 0 ≤ l
      · rw [if_pos z1, if_pos (show 4 ≤ l by omega)]
      · rw [if_neg z1]
    · unfold F_X11_lane
      simp only [xbp_s, xbd_s, xls, xli, xlt, xjn]
      rw [xw_id hl0, in_eq (by omega) (by omega) (by omega), if_neg q]
      simp only [xbp_s, xbd_s, xls, xli, xlt, xjn]
      rw [if_pos (show xw 0 = 0 by decide)]
