/-! span -/
theorem xsum_zz {f : Int → Int} {i : Nat} : ∀ j : Nat, (∀ x : Int, (i : Int) ≤ x → x < ((i + j : Nat) : Int) → f x = 0) → xsum f (i + j) = xsum f i
  | 0, _ => rfl
  | j + 1, h => by
    show xsum f (i + j) + f ((i + j : Nat) : Int) = _
    rw [xsum_zz j (fun x a b => h x a (by omega)), h _ (by omega) (by omega)]
    omega
theorem xsum_ex {f : Int → Int} : ∀ n : Nat, 0 < xsum f n → ∃ i : Int, (0 ≤ i ∧ i < n) ∧ 0 < f i
  | 0, h => absurd h (by simp [xsum])
  | n + 1, h => by
    have h' : 0 < xsum f n + f n := h
    by_cases z : 0 < f n
    · exact ⟨n, by omega, z⟩
    · obtain ⟨i, a, b⟩ := xsum_ex (f := f) n (by omega)
      exact ⟨i, by omega, b⟩
theorem xsum_nn {f : Int → Int} (h : ∀ i : Int, 0 ≤ f i) : ∀ n : Nat, 0 ≤ xsum f n
  | 0 => Int.le_refl _
  | n + 1 => by
    show 0 ≤ xsum f n + f n
    have h1 := h n
    have h2 := xsum_nn h n
    omega
theorem xsum_ge1 {f : Int → Int} (h : ∀ i : Int, 0 ≤ f i) {i : Int} (hi : 0 ≤ i) : ∀ n : Nat, i < n → f i ≤ xsum f n
  | 0, h0 => absurd h0 (by omega)
  | n + 1, h0 => by
    show f i ≤ xsum f n + f n
    have h1 := h n
    by_cases z : i = n
    · have h2 : 0 ≤ xsum f n := xsum_nn h n
      rw [z]
      omega
    · have h2 := xsum_ge1 h hi n (by omega)
      omega
theorem xand_w {w : Int} (h : 1 ≤ w ∧ w ≤ 15) : xand w (-1) ≠ 0 ∧ xand w 15 ≠ 0 := by
  have z : ∀ m : Fin 16, 1 ≤ m.val → xand (m.val : Int) (-1) ≠ 0 ∧ xand (m.val : Int) 15 ≠ 0 := by decide +kernel
  have z1 := z ⟨w.toNat, by omega⟩ (by show 1 ≤ w.toNat; omega)
  rw [show (((⟨w.toNat, by omega⟩ : Fin 16).val : Nat) : Int) = w by show ((w.toNat : Nat) : Int) = w; omega] at z1
  exact z1
theorem span_loopC {H : Int → Int} {a e : Int} {s : xW} {k : Int → Int → Option (Int × xW)} (hH : ∀ m : Int, 0 ≤ m → m < 220 → F_X4_howMany m (-1) s = some (H m)) (hr : ∀ m : Int, 0 ≤ m → m < 220 → 0 ≤ H m ∧ H m ≤ 8) (he : e ≤ 220) :
    ∀ (j i fu : Nat), (i : Int) + j = e → j < fu → F_X10_span_38 a e s fu (xsum (fun m => if 0 < H m then (1 : Int) else 0) i) (i : Int) k = k (xsum (fun m => if 0 < H m then (1 : Int) else 0) e.toNat) e := by
  intro j
  induction j with
  | zero =>
    intro i fu hi hf
    obtain ⟨fu, rfl⟩ : ∃ g, fu = g + 1 := ⟨fu - 1, by omega⟩
    unfold F_X10_span_38
    rw [xw_sm (x := (i : Int)) (by omega) (by omega), xw_sm (x := e) (by omega) (by omega), if_neg (by omega), show e.toNat = i by omega, show e = (i : Int) by omega]
  | succ j ih =>
    intro i fu hi hf
    obtain ⟨fu, rfl⟩ : ∃ g, fu = g + 1 := ⟨fu - 1, by omega⟩
    have hs := xsum_s (fun m => if 0 < H m then (1 : Int) else 0) i
    have hri := hr i (by omega) (by omega)
    have g := ih (i + 1) fu (by omega) (by omega)
    rw [show ((i + 1 : Nat) : Int) = (i : Int) + 1 by omega] at g
    unfold F_X10_span_38
    rw [xw_sm (x := (i : Int)) (by omega) (by omega), xw_sm (x := e) (by omega) (by omega), if_pos (by omega), hH i (by omega) (by omega)]
    simp only [xbp_s, xbd_s, xls, xli, xlt, xjn]
    rw [xw_sm (x := H (i : Int)) (by omega) (by omega)]
    by_cases z : 0 < H (i : Int)
    · rw [if_pos z] at hs
      rw [hs] at g
      rw [if_pos z]
      exact g
    · rw [if_neg z, Int.add_zero] at hs
      rw [hs] at g
      rw [if_neg z]
      exact g
theorem span_loopM {H : Int → Int} {a e : Int} {t : xW} {k : Int → Int → Int → Int → Option (Int × xW)} (ht : ∀ m : Int, 0 ≤ m → m < 220 → t 142 m = H m) (hr : ∀ m : Int, 0 ≤ m → m < 220 → 0 ≤ H m ∧ H m ≤ 8) (ha : 0 ≤ a ∧ a < e ∧ e < 220) (h1 : ∀ m : Int, 0 ≤ m → m < 220 → 0 < H m → a ≤ m ∧ m < e) (h2 : 0 < H a) (h3 : 0 < H (e - 1)) :
    ∀ (j i fu : Nat) (l2 : Int), i + j = 220 → j < fu → (e ≤ (i : Int) → l2 = e) → F_X11_span_32 t fu (if a < (i : Int) then a else 220) l2 (xsum (fun m => if 0 < H m then (1 : Int) else 0) i) (i : Int) k = k a e (xsum (fun m => if 0 < H m then (1 : Int) else 0) 220) 220 := by
  intro j
  induction j with
  | zero =>
    intro i fu l2 hi hf hl
    obtain ⟨fu, rfl⟩ : ∃ g, fu = g + 1 := ⟨fu - 1, by omega⟩
    have e1 : i = 220 := by omega
    unfold F_X11_span_32
    rw [xw_sm (x := (i : Int)) (by omega) (by omega), if_neg (by omega), if_pos (show a < (i : Int) by omega), hl (by omega), show (i : Int) = 220 by omega, e1]
  | succ j ih =>
    intro i fu l2 hi hf hl
    obtain ⟨fu, rfl⟩ : ∃ g, fu = g + 1 := ⟨fu - 1, by omega⟩
    have hs := xsum_s (fun m => if 0 < H m then (1 : Int) else 0) i
    have hri := hr i (by omega) (by omega)
    have g := fun l hl => ih (i + 1) fu l (by omega) (by omega) hl
    rw [show ((i + 1 : Nat) : Int) = (i : Int) + 1 by omega] at g
    unfold F_X11_span_32
    simp only [xbp_s, xbd_s, xls, xli, xlt, xjn]
    rw [xw_sm (x := (i : Int)) (by omega) (by omega), if_pos (show (i : Int) < 220 by omega), xgd_t (by omega), ht i (by omega) (by omega), xw_sm (x := H (i : Int)) (by omega) (by omega)]
    by_cases z : 0 < H (i : Int)
    · have hb := h1 i (by omega) (by omega) z
      have e1 : min (if a < (i : Int) then a else 220) (i : Int) = if a < (i : Int) + 1 then a else 220 := by
        rw [if_pos (show a < (i : Int) + 1 by omega)]
        split <;> omega
      rw [if_pos z] at hs
      rw [hs] at g
      rw [if_pos z, xw_sm (x := if a < (i : Int) then a else 220) (by split <;> omega) (by split <;> omega), e1]
      exact g _ (by omega)
    · have n1 : (i : Int) ≠ a := fun q => by rw [q] at z; exact z h2
      have n2 : (i : Int) ≠ e - 1 := fun q => by rw [q] at z; exact z h3
      have e1 : (if a < (i : Int) then a else 220) = if a < (i : Int) + 1 then a else 220 := by
        by_cases w : a < (i : Int)
        · rw [if_pos w, if_pos (by omega)]
        · rw [if_neg w, if_neg (by omega)]
      rw [if_neg z, Int.add_zero] at hs
      rw [hs] at g
      rw [if_neg z, e1]
      exact g _ (by omega)
theorem op_span : XO F_X10_span F_X11_span := by
  intro B σ τ hB hB1 h
  have hN := xN_ge
  obtain ⟨h1, h2, h3, h4, h5, h6, h7, h8, h9, h10⟩ := id h
  have hnd := h5.2.2.1
  have hnm : (xu τ 121 0 0) 121 4 = σ 92 0 := h5.2.2.2.1
  by_cases q : σ 92 0 = 0
  · refine ⟨-2, σ, xu τ 121 0 0, ?_, ?_, XR_mono (by omega) (XR_thr h)⟩
    · unfold F_X10_span
      rw [q, if_pos (show xw 0 = 0 by decide)]
    · unfold F_X11_span
      simp only [xbp_s, xbd_s, xls, xli, xlt, xjn]
      rw [hnm, q, if_pos (show xw 0 = 0 by decide)]
  · obtain ⟨s, t, a1, a2, a3, a4, a5, a6, a7, a8⟩ := busy_d (mask := 15) hB1 h
    have hl : ∀ d : Int, 0 ≤ d → d < σ 92 0 → 1 ≤ s 20 d ∧ s 20 d ≤ 9 := fun d x y => by
      rw [a5]
      exact ⟨(h6.2.2.2 d x y).2, (h6.1.2.2.2 d x (by omega)).2⟩
    have hw : ∀ d : Int, 0 ≤ d → d < σ 92 0 → xand (s 94 d) (-1) ≠ 0 ∧ xand (s 94 d) 15 ≠ 0 := fun d x y => by
      rw [a6]
      exact xand_w (h5.2.2.2.2 d x y).2.2.1
    have h96 : ∀ d : Int, 0 ≤ d → d < σ 92 0 → s 96 d = s 95 d + s 20 d := fun d x y => (a3.2 d x (by rw [a4]; exact y)).2.2
    obtain ⟨H, hHd⟩ : ∃ H : Int → Int, ∀ x : Int, H x = xsum (fun d => b01 (xbzy (s 94) (s 95) (s 20) 15 x d)) (σ 92 0).toNat := ⟨_, fun _ => rfl⟩
    have hH : ∀ m : Int, 0 ≤ m → m < 220 → F_X4_howMany m (-1) s = some (H m) := fun m x y => by
      rw [howMany_c a3 (by omega), a4, hHd m]
      refine congrArg some (xsum_congr _ (fun d y1 y2 => ?_))
      show b01 (xbzy (s 94) (s 95) (s 20) (-1) m d) = b01 (xbzy (s 94) (s 95) (s 20) 15 m d)
      rw [xbzy_t (hw d y1 (by omega)).1, xbzy_t (hw d y1 (by omega)).2]
    have hr : ∀ m : Int, 0 ≤ m → m < 220 → 0 ≤ H m ∧ H m ≤ 8 := fun m x y => by
      rw [hHd m]
      have := xsum_r (f := fun d => b01 (xbzy (s 94) (s 95) (s 20) 15 m d)) (M := 1) (σ 92 0).toNat (fun i _ _ => b01_r _)
      omega
    obtain ⟨a, f1, f2, d1, f3, f4⟩ := first_c hnd a4 a7 (by omega)
    obtain ⟨e, g1, g2, g3, g4⟩ := behind_c hnd a4 (fun d x y => by
      have z1 := hl d x y
      have z2 := a7 d x y
      rw [h96 d x y]
      omega)
    have pos : ∀ m d : Int, 0 ≤ d → d < σ 92 0 → s 95 d ≤ m → m < s 95 d + s 20 d → 0 < H m := fun m d x y u v => by
      rw [hHd m]
      have z := xsum_ge1 (f := fun d => b01 (xbzy (s 94) (s 95) (s 20) 15 m d)) (fun i => (b01_r _).1) x (σ 92 0).toNat (by omega)
      have z3 : b01 (xbzy (s 94) (s 95) (s 20) 15 m d) ≤ xsum (fun d => b01 (xbzy (s 94) (s 95) (s 20) 15 m d)) (σ 92 0).toNat := z
      rw [xbzy_t (hw d x y).2, if_pos ⟨u, v⟩] at z3
      omega
    have hin : ∀ m : Int, 0 ≤ m → m < 220 → 0 < H m → a ≤ m ∧ m < e := fun m x y u => by
      rw [hHd m] at u
      obtain ⟨d, v1, v2⟩ := xsum_ex _ u
      have v3 : 0 < b01 (xbzy (s 94) (s 95) (s 20) 15 m d) := v2
      have w1 := f2 d v1.1 (by omega)
      have w2 := g3 d v1.1 (by omega)
      rw [h96 d v1.1 (by omega)] at w2
      rw [xbzy_t (hw d v1.1 (by omega)).2] at v3
      by_cases z : s 95 d ≤ m ∧ m < s 95 d + s 20 d
      · omega
      · rw [if_neg z] at v3
        omega
    have ha := a7 d1 f3.1 f3.2
    have hla := hl d1 f3.1 f3.2
    have w1 := g3 d1 f3.1 f3.2
    rw [h96 d1 f3.1 f3.2] at w1
    have hHa : 0 < H a := pos a d1 f3.1 f3.2 (by omega) (by omega)
    have hHe : 0 < H (e - 1) := by
      rcases g4 with z | ⟨d2, z1, z2⟩
      · omega
      · rw [h96 d2 z1.1 z1.2] at z2
        have z3 := hl d2 z1.1 z1.2
        exact pos (e - 1) d2 z1.1 z1.2 (by omega) (by omega)
    have c0 := xsum_zz (f := fun m => if 0 < H m then (1 : Int) else 0) (i := 0) a.toNat (fun x x1 x2 => by
      show (if 0 < H x then (1 : Int) else 0) = 0
      rw [if_neg (fun w => by have := hin x (by omega) (by omega) w; omega)])
    rw [Nat.zero_add] at c0
    have c1 := xsum_zz (f := fun m => if 0 < H m then (1 : Int) else 0) (i := e.toNat) (220 - e.toNat) (fun x x1 x2 => by
      show (if 0 < H x then (1 : Int) else 0) = 0
      rw [if_neg (fun w => by have := hin x (by omega) (by omega) w; omega)])
    rw [show e.toNat + (220 - e.toNat) = 220 by omega] at c1
    have hG := xsum_r (f := fun m => if 0 < H m then (1 : Int) else 0) (M := 1) e.toNat (fun i _ _ => by
      show 0 ≤ (if 0 < H i then (1 : Int) else 0) ∧ (if 0 < H i then (1 : Int) else 0) ≤ 1
      split <;> omega)
    have b1 := span_loopC (a := a) (e := e) (s := s) (k := fun (l3_23 : Int) (l4_24 : Int) => xbp (F_X6_tell__ (xw a) (xw e) (xw ((e - a) - l3_23)) s) fun s26 => some (l3_23, s26)) hH hr (by omega) (e - a).toNat a.toNat xN (by omega) (by omega)
    rw [c0, show ((a.toNat : Nat) : Int) = a by omega] at b1
    have cM := span_loopM (t := t) (k := fun (l1_24 : Int) (l2_25 : Int) (l3_26 : Int) (l4_27 : Int) => xls (xu t 121 1 0) fun s28 => xbp (F_X11_enters (xw l1_24) s28) fun s31 => xbp (F_X11_enters (xw l2_25) s31) fun s33 => xbp (F_X11_enters (xw ((l2_25 - l1_24) - l3_26)) s33) fun s35 => some (l3_26, s35)) (fun m x y => by rw [a8 m x y, hHd m]) hr ⟨by omega, by omega, by omega⟩ hin hHa hHe 220 0 xN 0 (by omega) (by omega) (fun w => by omega)
    rw [if_neg (show ¬ a < ((0 : Nat) : Int) by omega), c1] at cM
    have eC : F_X10_span σ = some (xsum (fun m => if 0 < H m then (1 : Int) else 0) e.toNat, xt3 s a e (e - a - xsum (fun m => if 0 < H m then (1 : Int) else 0) e.toNat)) := by
      unfold F_X10_span
      rw [xw_sm (x := σ 92 0) (by omega) (by omega), if_neg q, a1]
      simp only [xbp_s, xbd_s, xls, xli, xlt, xjn]
      rw [f1]
      simp only [xbp_s, xbd_s, xls, xli, xlt, xjn]
      rw [g1]
      simp only [xbp_s, xbd_s, xls, xli, xlt, xjn]
      refine Eq.trans b1 ?_
      rw [xw_sm (x := a) (by omega) (by omega), xw_sm (x := e) (by omega) (by omega), xw_sm (x := e - a - xsum (fun m => if 0 < H m then (1 : Int) else 0) e.toNat) (by omega) (by omega), tell_3]
      rfl
    have eM : F_X11_span τ = some (xsum (fun m => if 0 < H m then (1 : Int) else 0) e.toNat, xe3 t a e (e - a - xsum (fun m => if 0 < H m then (1 : Int) else 0) e.toNat)) := by
      unfold F_X11_span
      simp only [xbp_s, xbd_s, xls, xli, xlt, xjn]
      rw [hnm, xw_sm (x := σ 92 0) (by omega) (by omega), if_neg q, a2]
      simp only [xbp_s, xbd_s, xls, xli, xlt, xjn]
      refine Eq.trans cM ?_
      simp only [xbp_s, xbd_s, xls, xli, xlt, xjn]
      rw [xw_sm (x := a) (by omega) (by omega), xw_sm (x := e) (by omega) (by omega), xw_sm (x := e - a - xsum (fun m => if 0 < H m then (1 : Int) else 0) e.toNat) (by omega) (by omega), ent_1]
      simp only [xbp_s, xbd_s, xls, xli, xlt, xjn]
      rw [ent_2]
      simp only [xbp_s, xbd_s, xls, xli, xlt, xjn]
      rw [ent_3]
      rfl
    exact ⟨_, _, _, eC, eM, XR_W (fr_X10_span eC) (by decide +kernel) (fr_X11_span eM) (by decide +kernel) h (Xrow_3 (a := a) (b := e) (c := e - a - xsum (fun m => if 0 < H m then (1 : Int) else 0) e.toNat) rfl ⟨by simp [xt3, xt2, xt1, xu], by simp [xt3, xt2, xt1, xu], by simp [xt3, xt2, xt1, xu]⟩ rfl ⟨by simp [xe3, xe2, xe1, xu], by simp [xe3, xe2, xe1, xu], by simp [xe3, xe2, xe1, xu]⟩)⟩
