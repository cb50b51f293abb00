/-! the order of the deeds -/
theorem xsum_mo {f g : Int → Int} : ∀ n : Nat, (∀ i : Int, 0 ≤ i → i < n → f i ≤ g i) → xsum f n ≤ xsum g n
  | 0, _ => Int.le_refl _
  | n + 1, h => by
    have h1 := xsum_mo n (fun i a b => h i a (by omega))
    have h2 := h n (by omega) (by omega)
    rw [xsum_s, xsum_s]
    omega
theorem xsum_st {f g : Int → Int} {d : Int} : ∀ n : Nat, (∀ i : Int, 0 ≤ i → i < n → f i ≤ g i) → 0 ≤ d → d < n → f d < g d → xsum f n < xsum g n
  | 0, _, _, _, _ => by omega
  | n + 1, h, d1, d2, d3 => by
    rw [xsum_s, xsum_s]
    by_cases z : d = n
    · have h1 := xsum_mo n (fun i a b => h i a (by omega))
      rw [z] at d3
      omega
    · have h1 := xsum_st n (fun i a b => h i a (by omega)) d1 (by omega) d3
      have h2 := h n (by omega) (by omega)
      omega
/-- deed e is before deed d -/
abbrev xbef (b : Int → Int) (e d : Int) : Prop := b e < b d ∨ (b e = b d ∧ e < d)
/-- how many of the first n are before d -/
def xplc (b : Int → Int) (n : Nat) (d : Int) : Int := xsum (fun e => b01 (decide (xbef b e d))) n
theorem xplc_s (b : Int → Int) (n : Nat) (d : Int) : xplc b (n + 1) d = xplc b n d + b01 (decide (xbef b n d)) := rfl
theorem xplc_r (b : Int → Int) (n : Nat) (d : Int) : 0 ≤ xplc b n d ∧ xplc b n d ≤ n := by
  have := xsum_r (f := fun e => b01 (decide (xbef b e d))) (M := 1) n (fun i _ _ => b01_r _)
  unfold xplc
  omega
theorem b01_mo {p q : Prop} [Decidable p] [Decidable q] (h : p → q) : b01 (decide p) ≤ b01 (decide q) := by
  by_cases z : p
  · rw [decide_eq_true z, decide_eq_true (h z)]
    exact Int.le_refl _
  · rw [decide_eq_false z]
    exact (b01_r _).1
theorem xplc_le {b : Int → Int} {n : Nat} {d c : Int} (h : xbef b d c) : xplc b n d ≤ xplc b n c := xsum_mo n (fun i _ _ => b01_mo (fun w => by unfold xbef at *; omega))
theorem xplc_lt {b : Int → Int} {n : Nat} {d c : Int} (h : xbef b d c) (d1 : 0 ≤ d) (d2 : d < n) : xplc b n d < xplc b n c := xsum_st (d := d) n (fun i _ _ => b01_mo (fun w => by unfold xbef at *; omega)) d1 d2 (by
  show b01 (decide (xbef b d d)) < b01 (decide (xbef b d c))
  rw [decide_eq_true h, decide_eq_false (by unfold xbef; omega)]
  decide)
theorem xplc_inj {b : Int → Int} {n : Nat} {d c : Int} (d1 : 0 ≤ d) (d2 : d < n) (c1 : 0 ≤ c) (c2 : c < n) (h : xplc b n d = xplc b n c) : d = c := by
  by_cases z1 : xbef b d c
  · have := xplc_lt z1 d1 d2; omega
  · by_cases z2 : xbef b c d
    · have := xplc_lt z2 c1 c2; omega
    · unfold xbef at *
      omega
theorem xplc_ltn {b : Int → Int} {n : Nat} {d : Int} (d1 : 0 ≤ d) (d2 : d < n) : xplc b n d < n := by
  have e : xplc b n d < xsum (fun _ => 1) n := xsum_st (d := d) n (fun x _ _ => (b01_r _).2) d1 d2 (by
    show b01 (decide (xbef b d d)) < 1
    rw [decide_eq_false (show ¬ xbef b d d by unfold xbef; omega)]
    decide)
  have e2 := (xsum_r (f := fun _ => (1 : Int)) (M := 1) n (fun _ _ _ => by omega)).2
  omega
/-- A is the order of the first n -/
def Xso (b A : Int → Int) (n : Nat) : Prop := ∀ x : Int, 0 ≤ x → x < n → (0 ≤ A x ∧ A x < n) ∧ xplc b n (A x) = x
theorem Xso_in {b A A' : Int → Int} {i : Nat} (h : Xso b A i) (h1 : ∀ y : Int, 0 ≤ y → y < xplc b i i → A' y = A y) (h2 : A' (xplc b i i) = i) (h3 : ∀ y : Int, xplc b i i < y → y ≤ i → A' y = A (y - 1)) : Xso b A' (i + 1) := by
  intro x x1 x2
  have hr := xplc_r b i i
  by_cases z : x = xplc b i i
  · rw [z, h2]
    refine ⟨by omega, ?_⟩
    rw [xplc_s, decide_eq_false (show ¬ xbef b (i : Int) (i : Int) by unfold xbef; omega)]
    show xplc b i i + 0 = xplc b i i
    omega
  · by_cases z2 : x < xplc b i i
    · rw [h1 x x1 z2]
      have g := h x x1 (by omega)
      refine ⟨by omega, ?_⟩
      rw [xplc_s, g.2, decide_eq_false (fun w => by
        have := xplc_le (n := i) w
        omega)]
      show x + 0 = x
      omega
    · rw [h3 x (by omega) (by omega)]
      have g := h (x - 1) (by omega) (by omega)
      refine ⟨by omega, ?_⟩
      have hb : xbef b i (A (x - 1)) := by
        by_cases w : xbef b (A (x - 1)) i
        · have := xplc_lt (n := i) w g.1.1 g.1.2
          omega
        · unfold xbef at *
          omega
      rw [xplc_s, g.2, decide_eq_true hb]
      show x - 1 + 1 = x
      omega
theorem sort_in {b A : Int → Int} {i : Nat} {s0 : xW} {k : Int → xW → Option xW} (hi : i < 8) (hb : ∀ d : Int, 0 ≤ d → d ≤ i → s0 95 d = b d ∧ 0 ≤ b d ∧ b d ≤ 10000) (hA : Xso b A i) :
    ∀ (j : Nat) (l : Int) (fu : Nat) (s : xW), l = xplc b i i + j → l ≤ i → j < fu → (∀ c : Int, c ≠ 97 → s c = s0 c) → (∀ y : Int, 0 ≤ y → y < l → s 97 y = A y) → (∀ y : Int, l < y → y ≤ i → s 97 y = A (y - 1)) → ∃ s', F_X4_sort_12 (i : Int) fu l s k = k (xplc b i i) s' ∧ (∀ c : Int, c ≠ 97 → s' c = s0 c) ∧ (∀ y : Int, 0 ≤ y → y < xplc b i i → s' 97 y = A y) ∧ (∀ y : Int, xplc b i i < y → y ≤ i → s' 97 y = A (y - 1)) := by
  have hr := xplc_r b i i
  have key : ∀ x : Int, 0 ≤ x → x < i → (b i < b (A x) ↔ xplc b i i ≤ x) := fun x x1 x2 => by
    have g := hA x x1 x2
    constructor
    · intro w
      have := xplc_le (b := b) (n := i) (d := i) (c := A x) (Or.inl w)
      omega
    · intro w
      by_cases z : xbef b (A x) i
      · have := xplc_lt (n := i) z g.1.1 g.1.2
        omega
      · unfold xbef at z
        omega
  intro j
  induction j with
  | zero =>
    intro l fu s hl hl2 hfu hc h1 h2
    obtain ⟨fu, rfl⟩ : ∃ g, fu = g + 1 := ⟨fu - 1, by omega⟩
    have el : l = xplc b i i := by omega
    rw [el] at h1 h2 ⊢
    refine ⟨s, ?_, hc, h1, h2⟩
    rw [F_X4_sort_12, xw_sm (x := xplc b i i) (by omega) (by omega)]
    by_cases z : 0 < xplc b i i
    · have g := hA (xplc b i i - 1) (by omega) (by omega)
      have q := key (xplc b i i - 1) (by omega) (by omega)
      have hb1 := hb (A (xplc b i i - 1)) (by omega) (by omega)
      have hb2 := hb i (by omega) (by omega)
      rw [if_pos z, h1 _ (by omega) (by omega), hc 95 (by decide), hb1.1, hb2.1, xgd_t (by omega), xgd_t (by omega), xgd_t (by omega), xw_sm (x := b i) (by omega) (by omega), xw_sm (x := b (A (xplc b i i - 1))) (by omega) (by omega), if_neg (fun w => by have := q.1 w; omega)]
    · rw [if_neg z]
  | succ j ih =>
    intro l fu s hl hl2 hfu hc h1 h2
    obtain ⟨fu, rfl⟩ : ∃ g, fu = g + 1 := ⟨fu - 1, by omega⟩
    have g := hA (l - 1) (by omega) (by omega)
    have q := key (l - 1) (by omega) (by omega)
    have hb1 := hb (A (l - 1)) (by omega) (by omega)
    have hb2 := hb i (by omega) (by omega)
    obtain ⟨s', u1, u2⟩ := ih (l + (-1)) fu (xu s 97 l (A (l - 1))) (by omega) (by omega) (by omega) (fun c z => by rw [xu_row _ _ _ z]; exact hc c z) (fun y y1 y2 => by
      rw [xu_slot _ _ _ (show y ≠ l by omega)]
      exact h1 y y1 (by omega)) (fun y y1 y2 => by
      by_cases z : y = l
      · rw [z, xu_same]
      · rw [xu_slot _ _ _ z]
        exact h2 y (by omega) y2)
    refine ⟨s', ?_, u2⟩
    rw [F_X4_sort_12, xw_sm (x := l) (by omega) (by omega), if_pos (by omega), h1 (l - 1) (by omega) (by omega), hc 95 (by decide), hb1.1, hb2.1, xgd_t (by omega), xgd_t (by omega), xgd_t (by omega), xw_sm (x := b i) (by omega) (by omega), xw_sm (x := b (A (l - 1))) (by omega) (by omega), if_pos (q.2 (by omega)), xgd_t (by omega), xgd_t (by omega)]
    exact u1
theorem sort_out {b : Int → Int} {n : Int} {s0 : xW} {k : Int → xW → Option xW} (hn : 0 ≤ n ∧ n ≤ 8) (e0 : s0 92 0 = n) (hb : ∀ d : Int, 0 ≤ d → d < n → s0 95 d = b d ∧ 0 ≤ b d ∧ b d ≤ 10000) :
    ∀ (j i fu : Nat) (s : xW), (i : Int) + j = n → j < fu → (∀ c : Int, c ≠ 97 → s c = s0 c) → Xso b (s 97) i → ∃ s', F_X4_sort_2 fu (i : Int) s k = k n s' ∧ (∀ c : Int, c ≠ 97 → s' c = s0 c) ∧ Xso b (s' 97) n.toNat := by
  have hN := xN_ge
  intro j
  induction j with
  | zero =>
    intro i fu s hi hfu hc hA
    obtain ⟨fu, rfl⟩ : ∃ g, fu = g + 1 := ⟨fu - 1, by omega⟩
    have ei : (i : Int) = n := by omega
    have ei2 : n.toNat = i := by omega
    rw [ei2]
    refine ⟨s, ?_, hc, hA⟩
    rw [ei, F_X4_sort_2, hc 92 (by decide), e0, if_neg (Int.lt_irrefl _)]
  | succ j ih =>
    intro i fu s hi hfu hc hA
    obtain ⟨fu, rfl⟩ : ∃ g, fu = g + 1 := ⟨fu - 1, by omega⟩
    have hr := xplc_r b i i
    obtain ⟨s1, u1, u2, u3, u4⟩ := sort_in (i := i) (s0 := s0) (k := fun (l2_18 : Int) (s19 : xW) => xgd (0 ≤ l2_18 ∧ l2_18 < 8) <| xls (xu s19 97 l2_18 (i : Int)) fun s21 => F_X4_sort_2 fu ((i : Int) + 1) s21 k) (by omega) (fun d d1 d2 => hb d d1 (by omega)) hA ((i : Int) - xplc b i i).toNat i xN s (by omega) (by omega) (by omega) hc (fun _ _ _ => rfl) (fun y y1 y2 => by omega)
    obtain ⟨s', g1, g2, g3⟩ := ih (i + 1) fu (xu s1 97 (xplc b i i) (i : Int)) (by omega) (by omega) (fun c z => by rw [xu_row _ _ _ z]; exact u2 c z) (Xso_in hA (fun y y1 y2 => by rw [xu_slot _ _ _ (by omega)]; exact u3 y y1 y2) (xu_same _ _ _ _) (fun y y1 y2 => by rw [xu_slot _ _ _ (by omega)]; exact u4 y y1 y2))
    refine ⟨s', ?_, g2, g3⟩
    rw [F_X4_sort_2, hc 92 (by decide), e0, xw_sm (x := (i : Int)) (by omega) (by omega), xw_sm (x := n) (by omega) (by omega), if_pos (by omega)]
    refine Eq.trans u1 ?_
    rw [xgd_t (by omega), xls, xlt, show ((i : Int) + 1) = ((i + 1 : Nat) : Int) by omega]
    exact g1
theorem sort_c {b : Int → Int} {n : Int} {s : xW} (hn : 0 ≤ n ∧ n ≤ 8) (e0 : s 92 0 = n) (hb : ∀ d : Int, 0 ≤ d → d < n → s 95 d = b d ∧ 0 ≤ b d ∧ b d ≤ 10000) : ∃ s', F_X4_sort s = some s' ∧ (∀ c : Int, c ≠ 97 → s' c = s c) ∧ Xso b (s' 97) n.toNat := by
  have hN := xN_ge
  obtain ⟨s', g1, g2, g3⟩ := sort_out (k := fun (l1_25 : Int) (s26 : xW) => some s26) hn e0 hb n.toNat 0 xN s (by omega) (by omega) (fun _ _ => rfl) (fun x x1 x2 => by omega)
  exact ⟨s', g1, g2, g3⟩
theorem line_in {b : Int → Int} {d n : Int} {s : xW} {k : Int → Int → Option xW} (hn : 0 ≤ n ∧ n ≤ 8) (e0 : s 121 4 = n) (hd : 0 ≤ d ∧ d < n) (hb : ∀ d : Int, 0 ≤ d → d < n → s 135 d = b d ∧ 0 ≤ b d ∧ b d ≤ 10000) :
    ∀ (j i fu : Nat), (i : Int) + j = n → j < fu → F_X11_laysLine_14 d s fu (xplc b i d) (i : Int) k = k (xplc b n.toNat d) n := by
  intro j
  induction j with
  | zero =>
    intro i fu hi hfu
    obtain ⟨fu, rfl⟩ : ∃ g, fu = g + 1 := ⟨fu - 1, by omega⟩
    have ei : (i : Int) = n := by omega
    have ei2 : n.toNat = i := by omega
    rw [ei, F_X11_laysLine_14, e0, if_neg (Int.lt_irrefl _), ei2]
  | succ j ih =>
    intro i fu hi hfu
    obtain ⟨fu, rfl⟩ : ∃ g, fu = g + 1 := ⟨fu - 1, by omega⟩
    have g := ih (i + 1) fu (by omega) (by omega)
    have hb1 := hb d hd.1 hd.2
    have hb2 := hb i (by omega) (by omega)
    rw [show ((i + 1 : Nat) : Int) = (i : Int) + 1 by omega, xplc_s] at g
    have ef : ∀ (v : Bool) (s : xW), F_X11_flag (b01 v) s = some (b01 v) := fun v s => by cases v <;> rfl
    have ef1 := ef true
    have ef0 := ef false
    rw [F_X11_laysLine_14, e0, hb1.1, hb2.1, xw_sm (x := (i : Int)) (by omega) (by omega), xw_sm (x := n) (by omega) (by omega), if_pos (by omega), xgd_t (by omega), xgd_t (by omega), xw_sm (x := b d) (by omega) (by omega), xw_sm (x := b i) (by omega) (by omega), xw_sm (x := d) (by omega) (by omega)]
    simp only [xjn]
    rw [show F_X11_flag 1 s = some 1 from ef1 s, show F_X11_flag 0 s = some 0 from ef0 s]
    simp only [xbp_s, xbd_s, xls, xli, xlt, xjn]
    by_cases z : b d ≤ b i
    · rw [if_pos z, xgd_t (by omega), xgd_t (by omega)]
      by_cases z2 : b i = b d
      · rw [if_pos z2]
        by_cases z3 : (i : Int) < d
        · rw [if_pos z3]
          rw [decide_eq_true (show xbef b i d from Or.inr ⟨z2, z3⟩)] at g
          exact g
        · rw [if_neg z3]
          rw [decide_eq_false (show ¬ xbef b i d by unfold xbef; omega)] at g
          exact g
      · rw [if_neg z2]
        rw [decide_eq_false (show ¬ xbef b i d by unfold xbef; omega)] at g
        exact g
    · rw [if_neg z]
      rw [decide_eq_true (show xbef b i d by unfold xbef; omega)] at g
      exact g
theorem line_out {b : Int → Int} {n : Int} {s0 : xW} {k : Int → xW → Option xW} (hn : 0 ≤ n ∧ n ≤ 8) (e0 : s0 121 4 = n) (hb : ∀ d : Int, 0 ≤ d → d < n → s0 135 d = b d ∧ 0 ≤ b d ∧ b d ≤ 10000) :
    ∀ (j i fu : Nat) (s : xW), (i : Int) + j = n → j < fu → (∀ c : Int, c ≠ 141 → s c = s0 c) → (∀ d : Int, 0 ≤ d → d < i → s 141 (xplc b n.toNat d) = d) → ∃ s', F_X11_laysLine_2 fu (i : Int) s k = k n s' ∧ (∀ c : Int, c ≠ 141 → s' c = s0 c) ∧ (∀ d : Int, 0 ≤ d → d < n → s' 141 (xplc b n.toNat d) = d) := by
  have hN := xN_ge
  intro j
  induction j with
  | zero =>
    intro i fu s hi hfu hc hA
    obtain ⟨fu, rfl⟩ : ∃ g, fu = g + 1 := ⟨fu - 1, by omega⟩
    have ei : (i : Int) = n := by omega
    rw [ei] at hA
    refine ⟨s, ?_, hc, hA⟩
    rw [ei, F_X11_laysLine_2, hc 121 (by decide), e0, if_neg (Int.lt_irrefl _)]
  | succ j ih =>
    intro i fu s hi hfu hc hA
    obtain ⟨fu, rfl⟩ : ∃ g, fu = g + 1 := ⟨fu - 1, by omega⟩
    have hr := xplc_r b n.toNat i
    have hlt := xplc_ltn (b := b) (n := n.toNat) (d := (i : Int)) (by omega) (by omega)
    obtain ⟨s', g1, g2, g3⟩ := ih (i + 1) fu (xu s 141 (xplc b n.toNat i) (i : Int)) (by omega) (by omega) (fun c z => by rw [xu_row _ _ _ z]; exact hc c z) (fun d d1 d2 => by
      by_cases z : d = i
      · rw [z, xu_same]
      · rw [xu_slot _ _ _ (fun w => z (xplc_inj d1 (by omega) (by omega) (by omega) w))]
        exact hA d d1 (by omega))
    refine ⟨s', ?_, g2, g3⟩
    have u1 := line_in (d := (i : Int)) (s := s) (k := fun (l2_30 : Int) (l3_31 : Int) => xgd (0 ≤ l2_30 ∧ l2_30 < 8) <| xls (xu s 141 l2_30 (i : Int)) fun s33 => F_X11_laysLine_2 fu ((i : Int) + 1) s33 k) hn (by rw [hc 121 (by decide)]; exact e0) (by omega) (by rw [hc 135 (by decide)]; exact hb) n.toNat 0 xN (by omega) (by omega)
    rw [F_X11_laysLine_2, hc 121 (by decide), e0, xw_sm (x := (i : Int)) (by omega) (by omega), xw_sm (x := n) (by omega) (by omega), if_pos (by omega)]
    refine Eq.trans u1 ?_
    rw [xgd_t (by omega), xls, xlt, show ((i : Int) + 1) = ((i + 1 : Nat) : Int) by omega]
    exact g1
theorem line_m {b : Int → Int} {n : Int} {s : xW} (hn : 0 ≤ n ∧ n ≤ 8) (e0 : s 121 4 = n) (hb : ∀ d : Int, 0 ≤ d → d < n → s 135 d = b d ∧ 0 ≤ b d ∧ b d ≤ 10000) : ∃ s', F_X11_laysLine s = some s' ∧ (∀ c : Int, c ≠ 141 → s' c = s c) ∧ (∀ d : Int, 0 ≤ d → d < n → s' 141 (xplc b n.toNat d) = d) := by
  have hN := xN_ge
  obtain ⟨s', g1, g2, g3⟩ := line_out (k := fun (l1_37 : Int) (s38 : xW) => some s38) hn e0 hb n.toNat 0 xN s (by omega) (by omega) (fun _ _ => rfl) (fun d d1 d2 => by omega)
  exact ⟨s', g1, g2, g3⟩
/-- both have laid the day's order: A -/
theorem order_d {B : Int} {σ τ : xW} (hB1 : B ≤ 1000000) (h : XR B σ τ) : ∃ s0 s t0 t b, F_X10_planToday σ = some s0 ∧ F_X4_sort s0 = some s ∧ F_X11_laysBegins 127 (xu τ 121 0 0) = some t0 ∧ F_X11_laysLine t0 = some t ∧ s 92 0 = σ 92 0 ∧ t 121 4 = σ 92 0 ∧ s 3 = σ 3 ∧ s 4 = σ 4 ∧ Xso b (s 97) (σ 92 0).toNat ∧ (∀ x : Int, 0 ≤ x → x < σ 92 0 → t 141 x = s 97 x) ∧ (∀ d : Int, 0 ≤ d → d < σ 92 0 → (0 ≤ b d ∧ b d ≤ 108) ∧ s 95 d = b d ∧ s 96 d = b d + σ 20 d ∧ t 135 d = b d ∧ t 127 (24 + d) = σ 20 d) ∧ (∀ d : Int, 0 ≤ d → d < σ 92 0 → ∃ x : Int, (0 ≤ x ∧ x < σ 92 0) ∧ s 97 x = d) := by
  have hcw := XR_cw h
  have hmw := XR_mw h
  have hmr := XR_mr hB1 h
  obtain ⟨h1, h2, h3, h4, h5, h6, h7, h8, h9, h10⟩ := id h
  have hday := h6.1.1.2.2.2.2.2
  have hgun := h6.1.1.1
  have hnd := h5.2.2.1
  have hr := hcw.1
  obtain ⟨s0, a1, a2⟩ := today_c hcw hgun (by omega)
  obtain ⟨b1, b2, b3, b4, b5⟩ := id a2
  have hmw1 : Xmw (τ 121 23) (τ 131) σ (xu τ 121 0 0) := Xmw_c hmw (fun c hc => xu_row _ _ _ (by omega)) (fun k hk => xu_slot _ _ _ (by omega))
  obtain ⟨t0, m1, m2, m3, m4, m5⟩ := lays_d (r := 127) hmw1 (Or.inl rfl) (by rw [xu_row _ _ _ (by decide)]; exact hmr)
  have e92 : s0 92 = σ 92 := b1 92 (by decide) (by decide) (by omega) (by decide) (by decide)
  have e20 : s0 20 = σ 20 := b1 20 (by decide) (by decide) (by omega) (by decide) (by decide)
  have e3 : s0 3 = σ 3 := b1 3 (by decide) (by decide) (by omega) (by decide) (by decide)
  have e4' : s0 4 = σ 4 := b1 4 (by decide) (by decide) (by omega) (by decide) (by decide)
  have e4 : t0 121 4 = σ 92 0 := by rw [m2 121 (by decide) (by decide) (by decide)]; exact hmw1.2.2.2.2.1
  have hbe : ∀ d : Int, 0 ≤ xbe (τ 121 23) (τ 131) σ (σ 17 0) (σ 17 5) d ∧ xbe (τ 121 23) (τ 131) σ (σ 17 0) (σ 17 5) d ≤ 108 := fun d => by
    unfold xbe
    exact xhm_r (xday_r h3.2 _)
  have hs95 : ∀ d : Int, 0 ≤ d → d < σ 92 0 → s0 95 d = xbe (τ 121 23) (τ 131) σ (σ 17 0) (σ 17 5) d := fun d x y => (b4 d x y).1
  obtain ⟨s, c1, c2, c3⟩ := sort_c (b := xbe (τ 121 23) (τ 131) σ (σ 17 0) (σ 17 5)) (n := σ 92 0) (s := s0) hnd (by rw [e92]) (fun d x y => ⟨hs95 d x y, by have := hbe d; omega⟩)
  obtain ⟨t, d1, d2, d3⟩ := line_m (b := xbe (τ 121 23) (τ 131) σ (σ 17 0) (σ 17 5)) (n := σ 92 0) (s := t0) hnd e4 (fun d x y => ⟨m4 d x y, by have := hbe d; omega⟩)
  have hAx : ∀ x : Int, 0 ≤ x → x < σ 92 0 → t 141 x = s 97 x := fun x x1 x2 => by
    have g := c3 x x1 (by omega)
    have := d3 (s 97 x) g.1.1 (by omega)
    rw [g.2] at this
    exact this
  refine ⟨s0, s, t0, t, _, a1, c1, m1, d1, by rw [c2 92 (by decide), e92], by rw [d2 121 (by decide)]; exact e4, by rw [c2 3 (by decide), e3], by rw [c2 4 (by decide), e4'], c3, hAx, fun d x y => ⟨hbe d, ?_, ?_, ?_, ?_⟩, fun d x y => ?_⟩
  · rw [c2 95 (by decide)]
    exact hs95 d x y
  · rw [c2 96 (by decide)]
    have := (b2.2 d x (by rw [e92]; exact y)).2.2
    rw [this, hs95 d x y, e20]
  · rw [d2 135 (by decide)]
    exact m4 d x y
  · rw [d2 127 (by decide), m2 127 (by decide) (by decide) (by decide), xu_row _ _ _ (by decide)]
    exact hmr.2.2.2.2 d x y
  · have q1 := xplc_r (xbe (τ 121 23) (τ 131) σ (σ 17 0) (σ 17 5)) (σ 92 0).toNat d
    have q2 := xplc_ltn (b := xbe (τ 121 23) (τ 131) σ (σ 17 0) (σ 17 5)) (n := (σ 92 0).toNat) (d := d) x (by omega)
    refine ⟨xplc (xbe (τ 121 23) (τ 131) σ (σ 17 0) (σ 17 5)) (σ 92 0).toNat d, by omega, ?_⟩
    rw [← hAx _ q1.1 (by omega)]
    exact d3 d x y
